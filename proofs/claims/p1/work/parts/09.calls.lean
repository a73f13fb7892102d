theorem qw_151 : Cond.fieldLink RX8 9 "ChanceRings$Tape" "bytes" "[I" ∈ wsL_law := tseg_1 (by decide +kernel) (List.mem_of_getElem? (i := 37) (by decide +kernel))
theorem qw_152 : Cond.methodLink RX11 106 yX8_append ∈ wsL_law := tseg_2 (by decide +kernel) (List.mem_of_getElem? (i := 199) (by decide +kernel))
theorem qw_153 : Cond.instanceMethod yX8_append ∈ wsL_law := tseg_2 (by decide +kernel) (List.mem_of_getElem? (i := 200) (by decide +kernel))
theorem qw_154 : Cond.selects RX8 yX8_append yX8_append ∈ wsL_law := tseg_2 (by decide +kernel) (List.mem_of_getElem? (i := 201) (by decide +kernel))
theorem qw_155 : Cond.initialized RX8 ∈ wsL_law := tseg_1 (by decide +kernel) (List.mem_of_getElem? (i := 2) (by decide +kernel))
theorem qw_156 : Cond.code yX8_append cX8_append 3 none ∈ wsL_law := tseg_2 (by decide +kernel) (List.mem_of_getElem? (i := 202) (by decide +kernel))
theorem qw_157 : Cond.fieldLink RX11 188 "ChanceRings" "leftKnown" "Z" ∈ wsL_law := tseg_2 (by decide +kernel) (List.mem_of_getElem? (i := 153) (by decide +kernel))
theorem qw_158 : Cond.fieldLink RX11 69 "ChanceRings" "solver" "LChanceRings$Solver;" ∈ wsL_law := tseg_2 (by decide +kernel) (List.mem_of_getElem? (i := 149) (by decide +kernel))
theorem qw_159 : Cond.fieldLink RX11 82 "ChanceRings" "tried" "[I" ∈ wsL_law := tseg_2 (by decide +kernel) (List.mem_of_getElem? (i := 151) (by decide +kernel))
theorem qw_160 : Cond.fieldLink RX11 89 "ChanceRings" "left" "LChanceRings$Values;" ∈ wsL_law := tseg_2 (by decide +kernel) (List.mem_of_getElem? (i := 152) (by decide +kernel))
theorem qw_161 : Cond.methodLink RX11 285 yX6_findLeft ∈ wsL_law := tseg_4 (by decide +kernel) (List.mem_of_getElem? (i := 2) (by decide +kernel))
theorem qw_162 : Cond.methodLink RX11 181 yX11_knowLeft ∈ wsL_law := tseg_3 (by decide +kernel) (List.mem_of_getElem? (i := 238) (by decide +kernel))
theorem qw_163 : Cond.instanceMethod yX11_knowLeft ∈ wsL_law := tseg_4 (by decide +kernel) (List.mem_of_getElem? (i := 0) (by decide +kernel))
theorem qw_164 : Cond.selects RX11 yX11_knowLeft yX11_knowLeft ∈ wsL_law := List.mem_filter.mpr ⟨List.mem_append_left _ (List.mem_of_getElem? (i := 31) (by decide +kernel)), by decide +kernel⟩
theorem qw_165 : Cond.initialized RX11 ∈ wsL_law := tseg_1 (by decide +kernel) (List.mem_of_getElem? (i := 1) (by decide +kernel))
theorem qw_166 : Cond.code yX11_knowLeft cX11_knowLeft 1 none ∈ wsL_law := tseg_4 (by decide +kernel) (List.mem_of_getElem? (i := 1) (by decide +kernel))
theorem qw_167 : Cond.methodLink RX11 184 yX6_turn ∈ wsL_law := tseg_4 (by decide +kernel) (List.mem_of_getElem? (i := 3) (by decide +kernel))
theorem qw_168 : Cond.methodLink RX11 192 yX11_improve ∈ wsL_law := tseg_4 (by decide +kernel) (List.mem_of_getElem? (i := 8) (by decide +kernel))
theorem qw_169 : Cond.instanceMethod yX11_improve ∈ wsL_law := tseg_3 (by decide +kernel) (List.mem_of_getElem? (i := 235) (by decide +kernel))
theorem qw_170 : Cond.selects RX11 yX11_improve yX11_improve ∈ wsL_law := tseg_3 (by decide +kernel) (List.mem_of_getElem? (i := 236) (by decide +kernel))
theorem qw_171 : Cond.code yX11_improve cX11_improve 2 (some .int) ∈ wsL_law := tseg_3 (by decide +kernel) (List.mem_of_getElem? (i := 237) (by decide +kernel))
theorem qw_172 : Cond.methodLink RX11 249 yX8_tellsFractions ∈ wsL_law := tseg_4 (by decide +kernel) (List.mem_of_getElem? (i := 105) (by decide +kernel))
theorem qw_173 : Cond.instanceMethod yX8_tellsFractions ∈ wsL_law := tseg_4 (by decide +kernel) (List.mem_of_getElem? (i := 106) (by decide +kernel))
theorem qw_174 : Cond.selects RX8 yX8_tellsFractions yX8_tellsFractions ∈ wsL_law := tseg_4 (by decide +kernel) (List.mem_of_getElem? (i := 107) (by decide +kernel))
theorem qw_175 : Cond.code yX8_tellsFractions cX8_tellsFractions 3 (some .boolean) ∈ wsL_law := tseg_4 (by decide +kernel) (List.mem_of_getElem? (i := 108) (by decide +kernel))
theorem qw_176 : Cond.methodLink RX11 252 yX11_firstUnproved ∈ wsL_law := tseg_4 (by decide +kernel) (List.mem_of_getElem? (i := 109) (by decide +kernel))
theorem qw_177 : Cond.instanceMethod yX11_firstUnproved ∈ wsL_law := tseg_4 (by decide +kernel) (List.mem_of_getElem? (i := 111) (by decide +kernel))
theorem qw_178 : Cond.selects RX11 yX11_firstUnproved yX11_firstUnproved ∈ wsL_law := List.mem_filter.mpr ⟨List.mem_append_left _ (List.mem_of_getElem? (i := 36) (by decide +kernel)), by decide +kernel⟩
theorem qw_179 : Cond.code yX11_firstUnproved cX11_firstUnproved 2 (some .int) ∈ wsL_law := tseg_4 (by decide +kernel) (List.mem_of_getElem? (i := 112) (by decide +kernel))
theorem qw_180 : Cond.methodLink RX11 255 yX11_firstWithLess ∈ wsL_law := tseg_4 (by decide +kernel) (List.mem_of_getElem? (i := 143) (by decide +kernel))
theorem qw_181 : Cond.instanceMethod yX11_firstWithLess ∈ wsL_law := tseg_4 (by decide +kernel) (List.mem_of_getElem? (i := 145) (by decide +kernel))
theorem qw_182 : Cond.selects RX11 yX11_firstWithLess yX11_firstWithLess ∈ wsL_law := List.mem_filter.mpr ⟨List.mem_append_left _ (List.mem_of_getElem? (i := 40) (by decide +kernel)), by decide +kernel⟩
theorem qw_183 : Cond.code yX11_firstWithLess cX11_firstWithLess 2 (some .int) ∈ wsL_law := tseg_4 (by decide +kernel) (List.mem_of_getElem? (i := 146) (by decide +kernel))
theorem qw_184 : Cond.fieldLink RX11 78 "ChanceRings" "outcome" "LChanceRings$Outcome;" ∈ wsL_law := tseg_2 (by decide +kernel) (List.mem_of_getElem? (i := 150) (by decide +kernel))
theorem qw_185 : Cond.methodLink RX11 161 yX3_settle ∈ wsL_law := tseg_3 (by decide +kernel) (List.mem_of_getElem? (i := 88) (by decide +kernel))
theorem qw_186 : Cond.instanceMethod yX3_settle ∈ wsL_law := tseg_3 (by decide +kernel) (List.mem_of_getElem? (i := 89) (by decide +kernel))
theorem qw_187 : Cond.selects RX3 yX3_settle yX3_settle ∈ wsL_law := tseg_3 (by decide +kernel) (List.mem_of_getElem? (i := 90) (by decide +kernel))
theorem qw_188 : Cond.code yX3_settle cX3_settle 3 none ∈ wsL_law := tseg_3 (by decide +kernel) (List.mem_of_getElem? (i := 91) (by decide +kernel))
theorem qw_189 : Cond.fieldLink RX11 226 "ChanceRings$Outcome" "ringCount" "I" ∈ wsL_law := tseg_2 (by decide +kernel) (List.mem_of_getElem? (i := 113) (by decide +kernel))
theorem qw_190 : Cond.methodLink RX11 237 yX3_worthless ∈ wsL_law := tseg_4 (by decide +kernel) (List.mem_of_getElem? (i := 68) (by decide +kernel))
theorem qw_191 : Cond.instanceMethod yX3_worthless ∈ wsL_law := tseg_4 (by decide +kernel) (List.mem_of_getElem? (i := 69) (by decide +kernel))
theorem qw_192 : Cond.selects RX3 yX3_worthless yX3_worthless ∈ wsL_law := tseg_4 (by decide +kernel) (List.mem_of_getElem? (i := 70) (by decide +kernel))
theorem qw_193 : Cond.code yX3_worthless cX3_worthless 3 (some .int) ∈ wsL_law := tseg_4 (by decide +kernel) (List.mem_of_getElem? (i := 71) (by decide +kernel))
theorem qw_194 : Cond.methodLink RX11 240 yX5_surelyPaid ∈ wsL_law := tseg_4 (by decide +kernel) (List.mem_of_getElem? (i := 72) (by decide +kernel))
theorem qw_195 : Cond.instanceMethod yX5_surelyPaid ∈ wsL_law := tseg_4 (by decide +kernel) (List.mem_of_getElem? (i := 73) (by decide +kernel))
theorem qw_196 : Cond.selects RX5 yX5_surelyPaid yX5_surelyPaid ∈ wsL_law := tseg_4 (by decide +kernel) (List.mem_of_getElem? (i := 74) (by decide +kernel))
theorem qw_197 : Cond.code yX5_surelyPaid cX5_surelyPaid 4 (some .int) ∈ wsL_law := tseg_4 (by decide +kernel) (List.mem_of_getElem? (i := 75) (by decide +kernel))
theorem qw_198 : Cond.fieldLink RX9 15 "ChanceRings$Telling" "length" "I" ∈ wsL_law := tseg_2 (by decide +kernel) (List.mem_of_getElem? (i := 0) (by decide +kernel))
theorem qw_199 : Cond.fieldLink RX9 19 "ChanceRings$Net" "nodes" "I" ∈ wsL_law := tseg_1 (by decide +kernel) (List.mem_of_getElem? (i := 56) (by decide +kernel))
theorem qw_200 : Cond.methodLink RX11 262 yX9_tell ∈ wsL_law := tseg_4 (by decide +kernel) (List.mem_of_getElem? (i := 171) (by decide +kernel))
theorem qw_201 : Cond.instanceMethod yX9_tell ∈ wsL_law := tseg_4 (by decide +kernel) (List.mem_of_getElem? (i := 172) (by decide +kernel))
theorem qw_202 : Cond.selects RX9 yX9_tell yX9_tell ∈ wsL_law := tseg_4 (by decide +kernel) (List.mem_of_getElem? (i := 173) (by decide +kernel))
theorem qw_203 : Cond.initialized RX9 ∈ wsL_law := tseg_1 (by decide +kernel) (List.mem_of_getElem? (i := 10) (by decide +kernel))
theorem qw_204 : Cond.code yX9_tell cX9_tell 5 none ∈ wsL_law := tseg_4 (by decide +kernel) (List.mem_of_getElem? (i := 174) (by decide +kernel))
theorem qw_205 : Cond.fieldLink RX11 282 "ChanceRings$Outcome" "settled" "Z" ∈ wsL_law := tseg_2 (by decide +kernel) (List.mem_of_getElem? (i := 116) (by decide +kernel))
theorem qw_206 : Cond.fieldLink RX11 208 "ChanceRings" "stoppedBy" "I" ∈ wsL_law := tseg_2 (by decide +kernel) (List.mem_of_getElem? (i := 156) (by decide +kernel))
theorem qw_207 : Cond.methodLink RX11 211 yX6_firstWays ∈ wsL_law := tseg_3 (by decide +kernel) (List.mem_of_getElem? (i := 68) (by decide +kernel))
theorem dX11_above_0 : decode cX11_above 0 = .ok (.aload_n 0, 1) := by decide +kernel
theorem dX11_above_1 : decode cX11_above 1 = .ok (.getfield 10, 3) := by decide +kernel
theorem dX11_above_4 : decode cX11_above 4 = .ok (.aload_n 0, 1) := by decide +kernel
theorem dX11_above_5 : decode cX11_above 5 = .ok (.getfield 19, 3) := by decide +kernel
theorem dX11_above_8 : decode cX11_above 8 = .ok (.getfield 128, 3) := by decide +kernel
theorem dX11_above_11 : decode cX11_above 11 = .ok (.invokevirtual 249, 3) := by decide +kernel
theorem dX11_above_14 : decode cX11_above 14 = .ok (.ifCond .eq 10, 3) := by decide +kernel
theorem dX11_above_17 : decode cX11_above 17 = .ok (.aload_n 0, 1) := by decide +kernel
theorem dX11_above_18 : decode cX11_above 18 = .ok (.invokevirtual 252, 3) := by decide +kernel
theorem dX11_above_21 : decode cX11_above 21 = .ok (.goto 5, 3) := by decide +kernel
theorem dX11_above_26 : decode cX11_above 26 = .ok (.istore_n 1, 1) := by decide +kernel
theorem dX11_above_27 : decode cX11_above 27 = .ok (.aload_n 0, 1) := by decide +kernel
theorem dX11_above_28 : decode cX11_above 28 = .ok (.getfield 10, 3) := by decide +kernel
theorem dX11_above_31 : decode cX11_above 31 = .ok (.iconst 0, 1) := by decide +kernel
theorem dX11_above_32 : decode cX11_above 32 = .ok (.putfield 102, 3) := by decide +kernel
theorem dX11_above_35 : decode cX11_above 35 = .ok (.iload_n 1, 1) := by decide +kernel
theorem dX11_above_36 : decode cX11_above 36 = .ok (.ireturn, 1) := by decide +kernel
theorem dX11_below_0 : decode cX11_below 0 = .ok (.aload_n 0, 1) := by decide +kernel
theorem dX11_below_1 : decode cX11_below 1 = .ok (.getfield 10, 3) := by decide +kernel
theorem dX11_below_4 : decode cX11_below 4 = .ok (.aload_n 0, 1) := by decide +kernel
theorem dX11_below_5 : decode cX11_below 5 = .ok (.getfield 19, 3) := by decide +kernel
theorem dX11_below_8 : decode cX11_below 8 = .ok (.getfield 128, 3) := by decide +kernel
theorem dX11_below_11 : decode cX11_below 11 = .ok (.invokevirtual 249, 3) := by decide +kernel
theorem dX11_below_14 : decode cX11_below 14 = .ok (.ifCond .eq 10, 3) := by decide +kernel
theorem dX11_below_17 : decode cX11_below 17 = .ok (.aload_n 0, 1) := by decide +kernel
theorem dX11_below_18 : decode cX11_below 18 = .ok (.invokevirtual 255, 3) := by decide +kernel
theorem dX11_below_21 : decode cX11_below 21 = .ok (.goto 5, 3) := by decide +kernel
theorem dX11_below_26 : decode cX11_below 26 = .ok (.istore_n 1, 1) := by decide +kernel
theorem dX11_below_27 : decode cX11_below 27 = .ok (.aload_n 0, 1) := by decide +kernel
theorem dX11_below_28 : decode cX11_below 28 = .ok (.getfield 10, 3) := by decide +kernel
theorem dX11_below_31 : decode cX11_below 31 = .ok (.iconst 0, 1) := by decide +kernel
theorem dX11_below_32 : decode cX11_below 32 = .ok (.putfield 102, 3) := by decide +kernel
theorem dX11_below_35 : decode cX11_below 35 = .ok (.iload_n 1, 1) := by decide +kernel
theorem dX11_below_36 : decode cX11_below 36 = .ok (.ireturn, 1) := by decide +kernel
theorem dX11_feed_0 : decode cX11_feed 0 = .ok (.aload_n 0, 1) := by decide +kernel
theorem dX11_feed_1 : decode cX11_feed 1 = .ok (.getfield 10, 3) := by decide +kernel
theorem dX11_feed_4 : decode cX11_feed 4 = .ok (.getfield 102, 3) := by decide +kernel
theorem dX11_feed_7 : decode cX11_feed 7 = .ok (.bipush 20, 2) := by decide +kernel
theorem dX11_feed_9 : decode cX11_feed 9 = .ok (.iadd, 1) := by decide +kernel
theorem dX11_feed_10 : decode cX11_feed 10 = .ok (.sipush 440, 3) := by decide +kernel
theorem dX11_feed_13 : decode cX11_feed 13 = .ok (.if_icmp .le 5, 3) := by decide +kernel
theorem dX11_feed_18 : decode cX11_feed 18 = .ok (.aload_n 0, 1) := by decide +kernel
theorem dX11_feed_19 : decode cX11_feed 19 = .ok (.getfield 10, 3) := by decide +kernel
theorem dX11_feed_22 : decode cX11_feed 22 = .ok (.iload_n 1, 1) := by decide +kernel
theorem dX11_feed_23 : decode cX11_feed 23 = .ok (.invokevirtual 106, 3) := by decide +kernel
theorem dX11_feed_26 : decode cX11_feed 26 = .ok (.aload_n 0, 1) := by decide +kernel
theorem dX11_feed_27 : decode cX11_feed 27 = .ok (.getfield 10, 3) := by decide +kernel
theorem dX11_feed_30 : decode cX11_feed 30 = .ok (.iload_n 2, 1) := by decide +kernel
theorem dX11_feed_31 : decode cX11_feed 31 = .ok (.invokevirtual 106, 3) := by decide +kernel
theorem dX11_feed_34 : decode cX11_feed 34 = .ok (.aload_n 0, 1) := by decide +kernel
theorem dX11_feed_35 : decode cX11_feed 35 = .ok (.getfield 10, 3) := by decide +kernel
theorem dX11_feed_38 : decode cX11_feed 38 = .ok (.iload_n 3, 1) := by decide +kernel
theorem dX11_feed_39 : decode cX11_feed 39 = .ok (.invokevirtual 106, 3) := by decide +kernel
theorem dX11_feed_42 : decode cX11_feed 42 = .ok (.aload_n 0, 1) := by decide +kernel
theorem dX11_feed_43 : decode cX11_feed 43 = .ok (.getfield 10, 3) := by decide +kernel
theorem dX11_feed_46 : decode cX11_feed 46 = .ok (.iload 4, 2) := by decide +kernel
theorem dX11_feed_48 : decode cX11_feed 48 = .ok (.invokevirtual 106, 3) := by decide +kernel
theorem dX11_feed_51 : decode cX11_feed 51 = .ok (.aload_n 0, 1) := by decide +kernel
theorem dX11_feed_52 : decode cX11_feed 52 = .ok (.getfield 10, 3) := by decide +kernel
theorem dX11_feed_55 : decode cX11_feed 55 = .ok (.iload 5, 2) := by decide +kernel
theorem dX11_feed_57 : decode cX11_feed 57 = .ok (.invokevirtual 106, 3) := by decide +kernel
theorem dX11_feed_60 : decode cX11_feed 60 = .ok (.aload_n 0, 1) := by decide +kernel
theorem dX11_feed_61 : decode cX11_feed 61 = .ok (.getfield 10, 3) := by decide +kernel
theorem dX11_feed_64 : decode cX11_feed 64 = .ok (.getfield 102, 3) := by decide +kernel
theorem dX11_feed_67 : decode cX11_feed 67 = .ok (.ireturn, 1) := by decide +kernel
theorem dX11_firstUnproved_0 : decode cX11_firstUnproved 0 = .ok (.iconst 0, 1) := by decide +kernel
theorem dX11_firstUnproved_1 : decode cX11_firstUnproved 1 = .ok (.istore_n 1, 1) := by decide +kernel
theorem dX11_firstUnproved_2 : decode cX11_firstUnproved 2 = .ok (.iload_n 1, 1) := by decide +kernel
theorem dX11_firstUnproved_3 : decode cX11_firstUnproved 3 = .ok (.aload_n 0, 1) := by decide +kernel
theorem dX11_firstUnproved_4 : decode cX11_firstUnproved 4 = .ok (.getfield 19, 3) := by decide +kernel
theorem dX11_firstUnproved_7 : decode cX11_firstUnproved 7 = .ok (.getfield 128, 3) := by decide +kernel
theorem dX11_firstUnproved_10 : decode cX11_firstUnproved 10 = .ok (.if_icmp .ge 19, 3) := by decide +kernel
theorem dX11_firstUnproved_29 : decode cX11_firstUnproved 29 = .ok (.iconst (-1), 1) := by decide +kernel
theorem dX11_firstUnproved_30 : decode cX11_firstUnproved 30 = .ok (.ireturn, 1) := by decide +kernel
theorem dX11_firstWithLess_0 : decode cX11_firstWithLess 0 = .ok (.aload_n 0, 1) := by decide +kernel
theorem dX11_firstWithLess_1 : decode cX11_firstWithLess 1 = .ok (.invokevirtual 181, 3) := by decide +kernel
theorem dX11_firstWithLess_4 : decode cX11_firstWithLess 4 = .ok (.iconst 0, 1) := by decide +kernel
theorem dX11_firstWithLess_5 : decode cX11_firstWithLess 5 = .ok (.istore_n 1, 1) := by decide +kernel
theorem dX11_firstWithLess_6 : decode cX11_firstWithLess 6 = .ok (.iload_n 1, 1) := by decide +kernel
theorem dX11_firstWithLess_7 : decode cX11_firstWithLess 7 = .ok (.aload_n 0, 1) := by decide +kernel
theorem dX11_firstWithLess_8 : decode cX11_firstWithLess 8 = .ok (.getfield 19, 3) := by decide +kernel
theorem dX11_firstWithLess_11 : decode cX11_firstWithLess 11 = .ok (.getfield 128, 3) := by decide +kernel
theorem dX11_firstWithLess_14 : decode cX11_firstWithLess 14 = .ok (.if_icmp .ge 49, 3) := by decide +kernel
theorem dX11_firstWithLess_63 : decode cX11_firstWithLess 63 = .ok (.iconst (-1), 1) := by decide +kernel
theorem dX11_firstWithLess_64 : decode cX11_firstWithLess 64 = .ok (.ireturn, 1) := by decide +kernel
theorem dX11_improve_0 : decode cX11_improve 0 = .ok (.aload_n 0, 1) := by decide +kernel
theorem dX11_improve_1 : decode cX11_improve 1 = .ok (.invokevirtual 181, 3) := by decide +kernel
theorem dX11_improve_4 : decode cX11_improve 4 = .ok (.aload_n 0, 1) := by decide +kernel
theorem dX11_improve_5 : decode cX11_improve 5 = .ok (.getfield 69, 3) := by decide +kernel
theorem dX11_improve_8 : decode cX11_improve 8 = .ok (.iconst 1, 1) := by decide +kernel
theorem dX11_improve_9 : decode cX11_improve 9 = .ok (.aload_n 0, 1) := by decide +kernel
theorem dX11_improve_10 : decode cX11_improve 10 = .ok (.getfield 82, 3) := by decide +kernel
theorem dX11_improve_13 : decode cX11_improve 13 = .ok (.aload_n 0, 1) := by decide +kernel
theorem dX11_improve_14 : decode cX11_improve 14 = .ok (.getfield 89, 3) := by decide +kernel
theorem dX11_improve_17 : decode cX11_improve 17 = .ok (.invokevirtual 184, 3) := by decide +kernel
theorem dX11_improve_20 : decode cX11_improve 20 = .ok (.istore_n 1, 1) := by decide +kernel
theorem dX11_improve_21 : decode cX11_improve 21 = .ok (.iload_n 1, 1) := by decide +kernel
theorem dX11_improve_22 : decode cX11_improve 22 = .ok (.ifCond .le 8, 3) := by decide +kernel
theorem dX11_improve_30 : decode cX11_improve 30 = .ok (.iload_n 1, 1) := by decide +kernel
theorem dX11_improve_31 : decode cX11_improve 31 = .ok (.ireturn, 1) := by decide +kernel
theorem dX11_improveAll_0 : decode cX11_improveAll 0 = .ok (.iconst 0, 1) := by decide +kernel
theorem dX11_improveAll_1 : decode cX11_improveAll 1 = .ok (.istore_n 1, 1) := by decide +kernel
theorem dX11_improveAll_2 : decode cX11_improveAll 2 = .ok (.iconst 1, 1) := by decide +kernel
theorem dX11_improveAll_3 : decode cX11_improveAll 3 = .ok (.istore_n 2, 1) := by decide +kernel
theorem dX11_improveAll_4 : decode cX11_improveAll 4 = .ok (.iconst 0, 1) := by decide +kernel
theorem dX11_improveAll_5 : decode cX11_improveAll 5 = .ok (.istore_n 3, 1) := by decide +kernel
theorem dX11_improveAll_6 : decode cX11_improveAll 6 = .ok (.iload_n 2, 1) := by decide +kernel
theorem dX11_improveAll_7 : decode cX11_improveAll 7 = .ok (.ifCond .eq 36, 3) := by decide +kernel
theorem dX11_improveAll_10 : decode cX11_improveAll 10 = .ok (.iload_n 3, 1) := by decide +kernel
theorem dX11_improveAll_11 : decode cX11_improveAll 11 = .ok (.sipush 6561, 3) := by decide +kernel
theorem dX11_improveAll_14 : decode cX11_improveAll 14 = .ok (.if_icmp .ge 29, 3) := by decide +kernel
theorem dX11_improveAll_17 : decode cX11_improveAll 17 = .ok (.aload_n 0, 1) := by decide +kernel
theorem dX11_improveAll_18 : decode cX11_improveAll 18 = .ok (.invokevirtual 192, 3) := by decide +kernel
theorem dX11_improveAll_21 : decode cX11_improveAll 21 = .ok (.ifCond .le 7, 3) := by decide +kernel
theorem dX11_improveAll_28 : decode cX11_improveAll 28 = .ok (.iconst 0, 1) := by decide +kernel
theorem dX11_improveAll_29 : decode cX11_improveAll 29 = .ok (.istore_n 2, 1) := by decide +kernel
theorem dX11_improveAll_30 : decode cX11_improveAll 30 = .ok (.iload_n 2, 1) := by decide +kernel
theorem dX11_improveAll_31 : decode cX11_improveAll 31 = .ok (.ifCond .eq 6, 3) := by decide +kernel
theorem dX11_improveAll_37 : decode cX11_improveAll 37 = .ok (.iinc 3 1, 3) := by decide +kernel
theorem dX11_improveAll_40 : decode cX11_improveAll 40 = .ok (.goto (-34), 3) := by decide +kernel
theorem dX11_improveAll_43 : decode cX11_improveAll 43 = .ok (.iload_n 1, 1) := by decide +kernel
theorem dX11_improveAll_44 : decode cX11_improveAll 44 = .ok (.ireturn, 1) := by decide +kernel
theorem dX11_knowLeft_0 : decode cX11_knowLeft 0 = .ok (.aload_n 0, 1) := by decide +kernel
theorem dX11_knowLeft_1 : decode cX11_knowLeft 1 = .ok (.getfield 188, 3) := by decide +kernel
theorem dX11_knowLeft_4 : decode cX11_knowLeft 4 = .ok (.ifCond .ne 25, 3) := by decide +kernel
theorem dX11_knowLeft_7 : decode cX11_knowLeft 7 = .ok (.aload_n 0, 1) := by decide +kernel
theorem dX11_knowLeft_8 : decode cX11_knowLeft 8 = .ok (.getfield 69, 3) := by decide +kernel
theorem dX11_knowLeft_11 : decode cX11_knowLeft 11 = .ok (.aload_n 0, 1) := by decide +kernel
theorem dX11_knowLeft_12 : decode cX11_knowLeft 12 = .ok (.getfield 82, 3) := by decide +kernel
theorem dX11_knowLeft_15 : decode cX11_knowLeft 15 = .ok (.iconst 1, 1) := by decide +kernel
theorem dX11_knowLeft_16 : decode cX11_knowLeft 16 = .ok (.iconst 1, 1) := by decide +kernel
theorem dX11_knowLeft_17 : decode cX11_knowLeft 17 = .ok (.aload_n 0, 1) := by decide +kernel
theorem dX11_knowLeft_18 : decode cX11_knowLeft 18 = .ok (.getfield 89, 3) := by decide +kernel
theorem dX11_knowLeft_21 : decode cX11_knowLeft 21 = .ok (.invokevirtual 285, 3) := by decide +kernel
theorem dX11_knowLeft_24 : decode cX11_knowLeft 24 = .ok (.aload_n 0, 1) := by decide +kernel
theorem dX11_knowLeft_25 : decode cX11_knowLeft 25 = .ok (.iconst 1, 1) := by decide +kernel
theorem dX11_knowLeft_26 : decode cX11_knowLeft 26 = .ok (.putfield 188, 3) := by decide +kernel
theorem dX11_knowLeft_29 : decode cX11_knowLeft 29 = .ok (.return_, 1) := by decide +kernel
theorem dX11_renew_0 : decode cX11_renew 0 = .ok (.aload_n 0, 1) := by decide +kernel
theorem dX11_renew_1 : decode cX11_renew 1 = .ok (.getfield 78, 3) := by decide +kernel
theorem dX11_renew_4 : decode cX11_renew 4 = .ok (.iconst 0, 1) := by decide +kernel
theorem dX11_renew_5 : decode cX11_renew 5 = .ok (.putfield 282, 3) := by decide +kernel
theorem dX11_renew_8 : decode cX11_renew 8 = .ok (.aload_n 0, 1) := by decide +kernel
theorem dX11_renew_9 : decode cX11_renew 9 = .ok (.iconst 0, 1) := by decide +kernel
theorem dX11_renew_10 : decode cX11_renew 10 = .ok (.putfield 188, 3) := by decide +kernel
theorem dX11_renew_13 : decode cX11_renew 13 = .ok (.aload_n 0, 1) := by decide +kernel
theorem dX11_renew_14 : decode cX11_renew 14 = .ok (.iconst 0, 1) := by decide +kernel
theorem dX11_renew_15 : decode cX11_renew 15 = .ok (.putfield 208, 3) := by decide +kernel
theorem dX11_renew_18 : decode cX11_renew 18 = .ok (.aload_n 0, 1) := by decide +kernel
theorem dX11_renew_19 : decode cX11_renew 19 = .ok (.getfield 69, 3) := by decide +kernel
theorem dX11_renew_22 : decode cX11_renew 22 = .ok (.aload_n 0, 1) := by decide +kernel
theorem dX11_renew_23 : decode cX11_renew 23 = .ok (.getfield 82, 3) := by decide +kernel
theorem dX11_renew_26 : decode cX11_renew 26 = .ok (.invokevirtual 211, 3) := by decide +kernel
theorem dX11_renew_29 : decode cX11_renew 29 = .ok (.return_, 1) := by decide +kernel
theorem dX11_ring_0 : decode cX11_ring 0 = .ok (.aload_n 0, 1) := by decide +kernel
theorem dX11_ring_1 : decode cX11_ring 1 = .ok (.getfield 78, 3) := by decide +kernel
theorem dX11_ring_4 : decode cX11_ring 4 = .ok (.invokevirtual 161, 3) := by decide +kernel
theorem dX11_ring_7 : decode cX11_ring 7 = .ok (.iload_n 1, 1) := by decide +kernel
theorem dX11_ring_8 : decode cX11_ring 8 = .ok (.ifCond .lt 26, 3) := by decide +kernel
theorem dX11_ring_11 : decode cX11_ring 11 = .ok (.iload_n 1, 1) := by decide +kernel
theorem dX11_ring_12 : decode cX11_ring 12 = .ok (.aload_n 0, 1) := by decide +kernel
theorem dX11_ring_13 : decode cX11_ring 13 = .ok (.getfield 78, 3) := by decide +kernel
theorem dX11_ring_16 : decode cX11_ring 16 = .ok (.getfield 226, 3) := by decide +kernel
theorem dX11_ring_19 : decode cX11_ring 19 = .ok (.if_icmp .ge 15, 3) := by decide +kernel
theorem dX11_ring_34 : decode cX11_ring 34 = .ok (.iconst (-1), 1) := by decide +kernel
theorem dX11_ring_35 : decode cX11_ring 35 = .ok (.ireturn, 1) := by decide +kernel
theorem dX11_rings_0 : decode cX11_rings 0 = .ok (.aload_n 0, 1) := by decide +kernel
theorem dX11_rings_1 : decode cX11_rings 1 = .ok (.getfield 78, 3) := by decide +kernel
theorem dX11_rings_4 : decode cX11_rings 4 = .ok (.invokevirtual 161, 3) := by decide +kernel
theorem dX11_rings_7 : decode cX11_rings 7 = .ok (.aload_n 0, 1) := by decide +kernel
theorem dX11_rings_8 : decode cX11_rings 8 = .ok (.getfield 78, 3) := by decide +kernel
theorem dX11_rings_11 : decode cX11_rings 11 = .ok (.getfield 226, 3) := by decide +kernel
theorem dX11_rings_14 : decode cX11_rings 14 = .ok (.ireturn, 1) := by decide +kernel
theorem dX11_sets_0 : decode cX11_sets 0 = .ok (.iload_n 1, 1) := by decide +kernel
theorem dX11_sets_1 : decode cX11_sets 1 = .ok (.tableswitch 74 0 2 #[27, 42, 50], 27) := by decide +kernel
theorem dX11_sets_28 : decode cX11_sets 28 = .ok (.aload_n 0, 1) := by decide +kernel
theorem dX11_sets_29 : decode cX11_sets 29 = .ok (.getfield 78, 3) := by decide +kernel
theorem dX11_sets_32 : decode cX11_sets 32 = .ok (.invokevirtual 161, 3) := by decide +kernel
theorem dX11_sets_35 : decode cX11_sets 35 = .ok (.aload_n 0, 1) := by decide +kernel
theorem dX11_sets_36 : decode cX11_sets 36 = .ok (.getfield 78, 3) := by decide +kernel
theorem dX11_sets_39 : decode cX11_sets 39 = .ok (.invokevirtual 237, 3) := by decide +kernel
theorem dX11_sets_42 : decode cX11_sets 42 = .ok (.ireturn, 1) := by decide +kernel
theorem dX11_sets_43 : decode cX11_sets 43 = .ok (.aload_n 0, 1) := by decide +kernel
theorem dX11_sets_44 : decode cX11_sets 44 = .ok (.getfield 62, 3) := by decide +kernel
theorem dX11_sets_47 : decode cX11_sets 47 = .ok (.invokevirtual 240, 3) := by decide +kernel
theorem dX11_sets_50 : decode cX11_sets 50 = .ok (.ireturn, 1) := by decide +kernel
theorem dX11_sets_51 : decode cX11_sets 51 = .ok (.aload_n 0, 1) := by decide +kernel
theorem dX11_sets_52 : decode cX11_sets 52 = .ok (.getfield 19, 3) := by decide +kernel
theorem dX11_sets_55 : decode cX11_sets 55 = .ok (.iload_n 2, 1) := by decide +kernel
theorem dX11_sets_56 : decode cX11_sets 56 = .ok (.invokevirtual 131, 3) := by decide +kernel
theorem dX11_sets_59 : decode cX11_sets 59 = .ok (.ifCond .eq 14, 3) := by decide +kernel
theorem dX11_sets_73 : decode cX11_sets 73 = .ok (.iconst (-1), 1) := by decide +kernel
theorem dX11_sets_74 : decode cX11_sets 74 = .ok (.ireturn, 1) := by decide +kernel
theorem dX11_sets_75 : decode cX11_sets 75 = .ok (.iconst (-1), 1) := by decide +kernel
theorem dX11_sets_76 : decode cX11_sets 76 = .ok (.ireturn, 1) := by decide +kernel
theorem dX11_text_0 : decode cX11_text 0 = .ok (.aload_n 0, 1) := by decide +kernel
theorem dX11_text_1 : decode cX11_text 1 = .ok (.getfield 53, 3) := by decide +kernel
theorem dX11_text_4 : decode cX11_text 4 = .ok (.aload_n 0, 1) := by decide +kernel
theorem dX11_text_5 : decode cX11_text 5 = .ok (.getfield 19, 3) := by decide +kernel
theorem dX11_text_8 : decode cX11_text 8 = .ok (.aload_n 0, 1) := by decide +kernel
theorem dX11_text_9 : decode cX11_text 9 = .ok (.getfield 39, 3) := by decide +kernel
theorem dX11_text_12 : decode cX11_text 12 = .ok (.invokevirtual 262, 3) := by decide +kernel
theorem dX11_text_15 : decode cX11_text 15 = .ok (.aload_n 0, 1) := by decide +kernel
theorem dX11_text_16 : decode cX11_text 16 = .ok (.getfield 53, 3) := by decide +kernel
theorem dX11_text_19 : decode cX11_text 19 = .ok (.getfield 266, 3) := by decide +kernel
theorem dX11_text_22 : decode cX11_text 22 = .ok (.ireturn, 1) := by decide +kernel
theorem dX8_append_0 : decode cX8_append 0 = .ok (.bipush 24, 2) := by decide +kernel
theorem dX8_append_2 : decode cX8_append 2 = .ok (.istore_n 2, 1) := by decide +kernel
theorem dX8_append_3 : decode cX8_append 3 = .ok (.iload_n 2, 1) := by decide +kernel
theorem dX8_append_4 : decode cX8_append 4 = .ok (.ifCond .lt 45, 3) := by decide +kernel
theorem dX8_append_7 : decode cX8_append 7 = .ok (.aload_n 0, 1) := by decide +kernel
theorem dX8_append_8 : decode cX8_append 8 = .ok (.getfield 15, 3) := by decide +kernel
theorem dX8_append_11 : decode cX8_append 11 = .ok (.sipush 440, 3) := by decide +kernel
theorem dX8_append_14 : decode cX8_append 14 = .ok (.if_icmp .ge 29, 3) := by decide +kernel
theorem dX8_append_17 : decode cX8_append 17 = .ok (.aload_n 0, 1) := by decide +kernel
theorem dX8_append_18 : decode cX8_append 18 = .ok (.getfield 9, 3) := by decide +kernel
theorem dX8_append_21 : decode cX8_append 21 = .ok (.aload_n 0, 1) := by decide +kernel
theorem dX8_append_22 : decode cX8_append 22 = .ok (.getfield 15, 3) := by decide +kernel
theorem dX8_append_25 : decode cX8_append 25 = .ok (.iload_n 1, 1) := by decide +kernel
theorem dX8_append_26 : decode cX8_append 26 = .ok (.iload_n 2, 1) := by decide +kernel
theorem dX8_append_27 : decode cX8_append 27 = .ok (.iushr, 1) := by decide +kernel
theorem dX8_append_28 : decode cX8_append 28 = .ok (.sipush 255, 3) := by decide +kernel
theorem dX8_append_31 : decode cX8_append 31 = .ok (.iand, 1) := by decide +kernel
theorem dX8_append_32 : decode cX8_append 32 = .ok (.iastore, 1) := by decide +kernel
theorem dX8_append_33 : decode cX8_append 33 = .ok (.aload_n 0, 1) := by decide +kernel
theorem dX8_append_34 : decode cX8_append 34 = .ok (.dup, 1) := by decide +kernel
theorem dX8_append_35 : decode cX8_append 35 = .ok (.getfield 15, 3) := by decide +kernel
theorem dX8_append_38 : decode cX8_append 38 = .ok (.iconst 1, 1) := by decide +kernel
theorem dX8_append_39 : decode cX8_append 39 = .ok (.iadd, 1) := by decide +kernel
theorem dX8_append_40 : decode cX8_append 40 = .ok (.putfield 15, 3) := by decide +kernel
theorem dX8_append_43 : decode cX8_append 43 = .ok (.iinc 2 (-8), 3) := by decide +kernel
theorem dX8_append_46 : decode cX8_append 46 = .ok (.goto (-43), 3) := by decide +kernel
theorem dX8_append_49 : decode cX8_append 49 = .ok (.return_, 1) := by decide +kernel
theorem dX9_tell_0 : decode cX9_tell 0 = .ok (.aload_n 0, 1) := by decide +kernel
theorem dX9_tell_1 : decode cX9_tell 1 = .ok (.iconst 0, 1) := by decide +kernel
theorem dX9_tell_2 : decode cX9_tell 2 = .ok (.putfield 15, 3) := by decide +kernel
theorem dX9_tell_5 : decode cX9_tell 5 = .ok (.iconst 0, 1) := by decide +kernel
theorem dX9_tell_6 : decode cX9_tell 6 = .ok (.istore_n 3, 1) := by decide +kernel
theorem dX9_tell_7 : decode cX9_tell 7 = .ok (.iload_n 3, 1) := by decide +kernel
theorem dX9_tell_8 : decode cX9_tell 8 = .ok (.aload_n 1, 1) := by decide +kernel
theorem dX9_tell_9 : decode cX9_tell 9 = .ok (.getfield 19, 3) := by decide +kernel
theorem dX9_tell_12 : decode cX9_tell 12 = .ok (.if_icmp .ge 59, 3) := by decide +kernel
theorem dX9_tell_71 : decode cX9_tell 71 = .ok (.iconst 0, 1) := by decide +kernel
theorem dX9_tell_72 : decode cX9_tell 72 = .ok (.istore_n 3, 1) := by decide +kernel
theorem dX9_tell_73 : decode cX9_tell 73 = .ok (.iload_n 3, 1) := by decide +kernel
theorem dX9_tell_74 : decode cX9_tell 74 = .ok (.aload_n 1, 1) := by decide +kernel
theorem dX9_tell_75 : decode cX9_tell 75 = .ok (.getfield 19, 3) := by decide +kernel
theorem dX9_tell_78 : decode cX9_tell 78 = .ok (.if_icmp .ge 90, 3) := by decide +kernel
theorem dX9_tell_168 : decode cX9_tell 168 = .ok (.return_, 1) := by decide +kernel
theorem tz_nin {i : Int32} {n : Nat} (h : (decide (i < 0) || decide (n ≤ i.toNatClampNeg)) = true) : ¬ vp_in i n := fun q => q (by simpa using h)
set_option maxHeartbeats 4000000 in
set_option maxRecDepth 100000 in
theorem c_X8_append_0 (l : Launch) (D : va_G) (g : Nat → ClassId) (sz : Nat) (tp : Nat) (p0 : Int32) (tp_bytes : Nat) (f : Nat → Int32) : Met l yX8_append (.code yX8_append cX8_append 3 none :: wsL_law) ({ frames := 0, cells := 0, slots := 0, locals := 0 }) (va_Pc [.ref tp, .int p0] (fun U => U.heap.size = sz ∧ va_P D vwCl [(tp, .inr (8, [.ref tp_bytes, .int 0])), (tp_bytes, .inl (g 0, 440, .inl f))] U.heap ∧ va_K D vwCl (TY g) U ∧ va_D (fun _ => True) [(tp, .inr (8, [.ref tp_bytes, .int 0])), (tp_bytes, .inl (g 0, 440, .inl f))])) (va_Qv (fun (_ : Unit) => True) (fun _ t => ∃ ff : Nat → Int32, va_P D vwCl [(tp, .inr (8, [.ref tp_bytes, .int 4])), (tp_bytes, .inl (g 0, 440, .inl ff))] t.heap ∧ va_D (va_A [(tp, .inr (8, [.ref tp_bytes, .int 0])), (tp_bytes, .inl (g 0, 440, .inl f))] sz) [(tp, .inr (8, [.ref tp_bytes, .int 4])), (tp_bytes, .inl (g 0, 440, .inl ff))]) (va_A [(tp, .inr (8, [.ref tp_bytes, .int 0])), (tp_bytes, .inl (g 0, 440, .inl f))] sz)) 0 0 (va_A [(tp, .inr (8, [.ref tp_bytes, .int 0])), (tp_bytes, .inl (g 0, 440, .inl f))] sz) := by
  refine Met.ofW (cc := cX8_append) (maxL := 3) (ret := none) (by decide) rfl ?_
  intro p e s m args below meth c s₁ B hml hv
  obtain ⟨rfl, hsz, hP, hK, hD0⟩ := hv
  have hx := B.exec
  have hb := B.bytes
  have hr := B.returns
  have hts0 := atoms_spec (ws := (.code yX8_append cX8_append 3 none :: wsL_law)) B.pre
  have hts : ∀ w ∈ wsL_law, w.before _ s = true := fun w h => hts0 w (List.mem_cons_of_mem _ h)
  have hown : s.vm.findClass RX8 = some m.cls := findClass_of_methodNamed B.named
  have hlocks := B.notSynchronized
  subst hsz
  have hD := hD0.self (sz := s.heap.size)
  generalize hAe : va_A [(tp, .inr (8, [.ref tp_bytes, .int 0])), (tp_bytes, .inl (g 0, 440, .inl f))] s.heap.size = A at hD ⊢
  have hA : ∀ q : Nat, s.heap.size ≤ q → A q := fun q h => by rw [← hAe]; exact Or.inr h
  have hS : va_S A s.heap s.heap [] := va_S.rf
  have hP : va_P D vwCl [(tp, .inr (8, [.ref tp_bytes, .int 0])), (tp_bytes, .inl (g 0, 440, .inl f))] s.heap := hP
  have hl := lv_entry ([.ref tp, .int p0]) (n := 3) (Nat.le_of_ble_eq_true rfl)
  rw [lg_entry_eq]
  generalize (lg_sl ([.ref tp, .int p0]) ++ List.replicate (3 - (lg_sl ([.ref tp, .int p0])).length) Slot.unset).toArray = ls at hl ⊢
  have hl : lv_has ls 3 [(0, .ref tp), (1, .int p0)] := hl
  refine lv_bipush (v := 24) hx hb dX8_append_0 (by decide) ?_
  refine lv_istore_n (lv' := [(2, .int 24), (0, .ref tp), (1, .int p0)]) hx hb dX8_append_2 rfl hl (by decide) rfl (fun ls hl => ?_)
  refine lv_iload_n hx hb dX8_append_3 rfl (lv_at hl 0 rfl) ?_
  refine lv_if_lt (tgt := 49) hx hb dX8_append_4 (by decide) (fun h9 => absurd h9 (by decide)) (fun _ => ?_)
  refine lv_aload_n hx hb dX8_append_7 rfl (lv_at hl 1 rfl) ?_
  refine va_get (D := D) (ci := 8) (v := .int 0) (C := RX8) (T := TX8) (N := 2) hx hb hts inlX8 hown hK hP 0 rfl rfl 1 (by decide) (hts (Cond.fieldLink RX8 15 "ChanceRings$Tape" "length" "I") qw_31) (fun _ h9 => h9) rfl dX8_append_8 ?_
  refine lv_sipush (v := 440) hx hb dX8_append_11 (by decide) ?_
  refine lv_icmp_ge (tgt := 43) hx hb dX8_append_14 (by decide) (fun h9 => absurd h9 (by decide)) (fun _ => ?_)
  refine lv_aload_n hx hb dX8_append_17 rfl (lv_at hl 1 rfl) ?_
  refine va_get (D := D) (ci := 8) (v := .ref tp_bytes) (C := RX8) (T := TX8) (N := 2) hx hb hts inlX8 hown hK hP 0 rfl rfl 0 (by decide) (hts (Cond.fieldLink RX8 9 "ChanceRings$Tape" "bytes" "[I") qw_151) (fun _ h9 => h9) rfl dX8_append_18 ?_
  refine lv_aload_n hx hb dX8_append_21 rfl (lv_at hl 1 rfl) ?_
  refine va_get (D := D) (ci := 8) (v := .int 0) (C := RX8) (T := TX8) (N := 2) hx hb hts inlX8 hown hK hP 0 rfl rfl 1 (by decide) (hts (Cond.fieldLink RX8 15 "ChanceRings$Tape" "length" "I") qw_31) (fun _ h9 => h9) rfl dX8_append_22 ?_
  refine lv_iload_n hx hb dX8_append_25 rfl (lv_at hl 2 rfl) ?_
  refine lv_iload_n hx hb dX8_append_26 rfl (lv_at hl 0 rfl) ?_
  refine lv_iushr (v := ((p0 : Int32).toUInt32 >>> ((24 : Int32).toUInt32 &&& Int32.toUInt32 31)).toInt32) hx hb dX8_append_27 rfl ?_
  refine lv_sipush (v := 255) hx hb dX8_append_28 (by decide) ?_
  refine lv_iand hx hb dX8_append_31 ?_
  refine va_iast hx hb hK hP hD hS 1 0 rfl rfl (tz_in (by decide +kernel)) dX8_append_32 (fun H locs hP hD hS => ?_)
  obtain ⟨f_117, hP, hD⟩ : ∃ FX : Nat → Int32, va_P D vwCl [(tp, .inr (8, [.ref tp_bytes, .int 0])), (tp_bytes, .inl (g 0, 440, .inl FX))] H ∧ va_D A [(tp, .inr (8, [.ref tp_bytes, .int 0])), (tp_bytes, .inl (g 0, 440, .inl FX))] := ⟨_, hP, hD⟩
  have hP : va_P D vwCl [(tp, .inr (8, [.ref tp_bytes, .int 0])), (tp_bytes, .inl (g 0, 440, .inl f_117))] H := hP
  have hD : va_D A [(tp, .inr (8, [.ref tp_bytes, .int 0])), (tp_bytes, .inl (g 0, 440, .inl f_117))] := hD
  refine lv_aload_n hx hb dX8_append_33 rfl (lv_at hl 1 rfl) ?_
  refine lv_dup hx hb dX8_append_34 rfl ?_
  refine va_get (D := D) (ci := 8) (v := .int 0) (C := RX8) (T := TX8) (N := 2) hx hb hts inlX8 hown hK hP 0 rfl rfl 1 (by decide) (hts (Cond.fieldLink RX8 15 "ChanceRings$Tape" "length" "I") qw_31) (fun _ h9 => h9) rfl dX8_append_35 ?_
  refine lv_iconst (v := 1) hx hb dX8_append_38 (by decide) ?_
  refine lv_iadd hx hb dX8_append_39 ?_
  refine tz_i (y := 1) (by decide +kernel) ?_
  refine va_put (D := D) (ci := 8) (v := .int 1) (ty := .int) (C := RX8) (T := TX8) (N := 2) hx hb hts inlX8 tyX8 tyX8_ok nmX8 hown hK hP hD hS 0 rfl rfl 1 (by decide) (hts (Cond.fieldLink RX8 15 "ChanceRings$Tape" "length" "I") qw_31) (fun _ h9 => h9) rfl (by decide +kernel) rfl rfl (Nat.le_of_ble_eq_true rfl) dX8_append_40 (fun H locs hP hD hS => ?_)
  have hP : va_P D vwCl [(tp, .inr (8, [.ref tp_bytes, .int 1])), (tp_bytes, .inl (g 0, 440, .inl f_117))] H := hP
  have hD : va_D A [(tp, .inr (8, [.ref tp_bytes, .int 1])), (tp_bytes, .inl (g 0, 440, .inl f_117))] := hD
  refine lv_iinc (v := 16) (lv' := [(2, .int 16), (0, .ref tp), (1, .int p0)]) hx hb dX8_append_43 hl (k := 0) rfl (by decide) (by decide) rfl (fun ls hl => ?_)
  refine lv_goto (tgt := 3) hx hb dX8_append_46 (by decide) ?_
  refine lv_iload_n hx hb dX8_append_3 rfl (lv_at hl 0 rfl) ?_
  refine lv_if_lt (tgt := 49) hx hb dX8_append_4 (by decide) (fun h9 => absurd h9 (by decide)) (fun _ => ?_)
  refine lv_aload_n hx hb dX8_append_7 rfl (lv_at hl 1 rfl) ?_
  refine va_get (D := D) (ci := 8) (v := .int 1) (C := RX8) (T := TX8) (N := 2) hx hb hts inlX8 hown hK hP 0 rfl rfl 1 (by decide) (hts (Cond.fieldLink RX8 15 "ChanceRings$Tape" "length" "I") qw_31) (fun _ h9 => h9) rfl dX8_append_8 ?_
  refine lv_sipush (v := 440) hx hb dX8_append_11 (by decide) ?_
  refine lv_icmp_ge (tgt := 43) hx hb dX8_append_14 (by decide) (fun h9 => absurd h9 (by decide)) (fun _ => ?_)
  refine lv_aload_n hx hb dX8_append_17 rfl (lv_at hl 1 rfl) ?_
  refine va_get (D := D) (ci := 8) (v := .ref tp_bytes) (C := RX8) (T := TX8) (N := 2) hx hb hts inlX8 hown hK hP 0 rfl rfl 0 (by decide) (hts (Cond.fieldLink RX8 9 "ChanceRings$Tape" "bytes" "[I") qw_151) (fun _ h9 => h9) rfl dX8_append_18 ?_
  refine lv_aload_n hx hb dX8_append_21 rfl (lv_at hl 1 rfl) ?_
  refine va_get (D := D) (ci := 8) (v := .int 1) (C := RX8) (T := TX8) (N := 2) hx hb hts inlX8 hown hK hP 0 rfl rfl 1 (by decide) (hts (Cond.fieldLink RX8 15 "ChanceRings$Tape" "length" "I") qw_31) (fun _ h9 => h9) rfl dX8_append_22 ?_
  refine lv_iload_n hx hb dX8_append_25 rfl (lv_at hl 2 rfl) ?_
  refine lv_iload_n hx hb dX8_append_26 rfl (lv_at hl 0 rfl) ?_
  refine lv_iushr (v := ((p0 : Int32).toUInt32 >>> ((16 : Int32).toUInt32 &&& Int32.toUInt32 31)).toInt32) hx hb dX8_append_27 rfl ?_
  refine lv_sipush (v := 255) hx hb dX8_append_28 (by decide) ?_
  refine lv_iand hx hb dX8_append_31 ?_
  refine va_iast hx hb hK hP hD hS 1 0 rfl rfl (tz_in (by decide +kernel)) dX8_append_32 (fun H locs hP hD hS => ?_)
  obtain ⟨f_118, hP, hD⟩ : ∃ FX : Nat → Int32, va_P D vwCl [(tp, .inr (8, [.ref tp_bytes, .int 1])), (tp_bytes, .inl (g 0, 440, .inl FX))] H ∧ va_D A [(tp, .inr (8, [.ref tp_bytes, .int 1])), (tp_bytes, .inl (g 0, 440, .inl FX))] := ⟨_, hP, hD⟩
  have hP : va_P D vwCl [(tp, .inr (8, [.ref tp_bytes, .int 1])), (tp_bytes, .inl (g 0, 440, .inl f_118))] H := hP
  have hD : va_D A [(tp, .inr (8, [.ref tp_bytes, .int 1])), (tp_bytes, .inl (g 0, 440, .inl f_118))] := hD
  refine lv_aload_n hx hb dX8_append_33 rfl (lv_at hl 1 rfl) ?_
  refine lv_dup hx hb dX8_append_34 rfl ?_
  refine va_get (D := D) (ci := 8) (v := .int 1) (C := RX8) (T := TX8) (N := 2) hx hb hts inlX8 hown hK hP 0 rfl rfl 1 (by decide) (hts (Cond.fieldLink RX8 15 "ChanceRings$Tape" "length" "I") qw_31) (fun _ h9 => h9) rfl dX8_append_35 ?_
  refine lv_iconst (v := 1) hx hb dX8_append_38 (by decide) ?_
  refine lv_iadd hx hb dX8_append_39 ?_
  refine tz_i (y := 2) (by decide +kernel) ?_
  refine va_put (D := D) (ci := 8) (v := .int 2) (ty := .int) (C := RX8) (T := TX8) (N := 2) hx hb hts inlX8 tyX8 tyX8_ok nmX8 hown hK hP hD hS 0 rfl rfl 1 (by decide) (hts (Cond.fieldLink RX8 15 "ChanceRings$Tape" "length" "I") qw_31) (fun _ h9 => h9) rfl (by decide +kernel) rfl rfl (Nat.le_of_ble_eq_true rfl) dX8_append_40 (fun H locs hP hD hS => ?_)
  have hP : va_P D vwCl [(tp, .inr (8, [.ref tp_bytes, .int 2])), (tp_bytes, .inl (g 0, 440, .inl f_118))] H := hP
  have hD : va_D A [(tp, .inr (8, [.ref tp_bytes, .int 2])), (tp_bytes, .inl (g 0, 440, .inl f_118))] := hD
  refine lv_iinc (v := 8) (lv' := [(2, .int 8), (0, .ref tp), (1, .int p0)]) hx hb dX8_append_43 hl (k := 0) rfl (by decide) (by decide) rfl (fun ls hl => ?_)
  refine lv_goto (tgt := 3) hx hb dX8_append_46 (by decide) ?_
  refine lv_iload_n hx hb dX8_append_3 rfl (lv_at hl 0 rfl) ?_
  refine lv_if_lt (tgt := 49) hx hb dX8_append_4 (by decide) (fun h9 => absurd h9 (by decide)) (fun _ => ?_)
  refine lv_aload_n hx hb dX8_append_7 rfl (lv_at hl 1 rfl) ?_
  refine va_get (D := D) (ci := 8) (v := .int 2) (C := RX8) (T := TX8) (N := 2) hx hb hts inlX8 hown hK hP 0 rfl rfl 1 (by decide) (hts (Cond.fieldLink RX8 15 "ChanceRings$Tape" "length" "I") qw_31) (fun _ h9 => h9) rfl dX8_append_8 ?_
  refine lv_sipush (v := 440) hx hb dX8_append_11 (by decide) ?_
  refine lv_icmp_ge (tgt := 43) hx hb dX8_append_14 (by decide) (fun h9 => absurd h9 (by decide)) (fun _ => ?_)
  refine lv_aload_n hx hb dX8_append_17 rfl (lv_at hl 1 rfl) ?_
  refine va_get (D := D) (ci := 8) (v := .ref tp_bytes) (C := RX8) (T := TX8) (N := 2) hx hb hts inlX8 hown hK hP 0 rfl rfl 0 (by decide) (hts (Cond.fieldLink RX8 9 "ChanceRings$Tape" "bytes" "[I") qw_151) (fun _ h9 => h9) rfl dX8_append_18 ?_
  refine lv_aload_n hx hb dX8_append_21 rfl (lv_at hl 1 rfl) ?_
  refine va_get (D := D) (ci := 8) (v := .int 2) (C := RX8) (T := TX8) (N := 2) hx hb hts inlX8 hown hK hP 0 rfl rfl 1 (by decide) (hts (Cond.fieldLink RX8 15 "ChanceRings$Tape" "length" "I") qw_31) (fun _ h9 => h9) rfl dX8_append_22 ?_
  refine lv_iload_n hx hb dX8_append_25 rfl (lv_at hl 2 rfl) ?_
  refine lv_iload_n hx hb dX8_append_26 rfl (lv_at hl 0 rfl) ?_
  refine lv_iushr (v := ((p0 : Int32).toUInt32 >>> ((8 : Int32).toUInt32 &&& Int32.toUInt32 31)).toInt32) hx hb dX8_append_27 rfl ?_
  refine lv_sipush (v := 255) hx hb dX8_append_28 (by decide) ?_
  refine lv_iand hx hb dX8_append_31 ?_
  refine va_iast hx hb hK hP hD hS 1 0 rfl rfl (tz_in (by decide +kernel)) dX8_append_32 (fun H locs hP hD hS => ?_)
  obtain ⟨f_119, hP, hD⟩ : ∃ FX : Nat → Int32, va_P D vwCl [(tp, .inr (8, [.ref tp_bytes, .int 2])), (tp_bytes, .inl (g 0, 440, .inl FX))] H ∧ va_D A [(tp, .inr (8, [.ref tp_bytes, .int 2])), (tp_bytes, .inl (g 0, 440, .inl FX))] := ⟨_, hP, hD⟩
  have hP : va_P D vwCl [(tp, .inr (8, [.ref tp_bytes, .int 2])), (tp_bytes, .inl (g 0, 440, .inl f_119))] H := hP
  have hD : va_D A [(tp, .inr (8, [.ref tp_bytes, .int 2])), (tp_bytes, .inl (g 0, 440, .inl f_119))] := hD
  refine lv_aload_n hx hb dX8_append_33 rfl (lv_at hl 1 rfl) ?_
  refine lv_dup hx hb dX8_append_34 rfl ?_
  refine va_get (D := D) (ci := 8) (v := .int 2) (C := RX8) (T := TX8) (N := 2) hx hb hts inlX8 hown hK hP 0 rfl rfl 1 (by decide) (hts (Cond.fieldLink RX8 15 "ChanceRings$Tape" "length" "I") qw_31) (fun _ h9 => h9) rfl dX8_append_35 ?_
  refine lv_iconst (v := 1) hx hb dX8_append_38 (by decide) ?_
  refine lv_iadd hx hb dX8_append_39 ?_
  refine tz_i (y := 3) (by decide +kernel) ?_
  refine va_put (D := D) (ci := 8) (v := .int 3) (ty := .int) (C := RX8) (T := TX8) (N := 2) hx hb hts inlX8 tyX8 tyX8_ok nmX8 hown hK hP hD hS 0 rfl rfl 1 (by decide) (hts (Cond.fieldLink RX8 15 "ChanceRings$Tape" "length" "I") qw_31) (fun _ h9 => h9) rfl (by decide +kernel) rfl rfl (Nat.le_of_ble_eq_true rfl) dX8_append_40 (fun H locs hP hD hS => ?_)
  have hP : va_P D vwCl [(tp, .inr (8, [.ref tp_bytes, .int 3])), (tp_bytes, .inl (g 0, 440, .inl f_119))] H := hP
  have hD : va_D A [(tp, .inr (8, [.ref tp_bytes, .int 3])), (tp_bytes, .inl (g 0, 440, .inl f_119))] := hD
  refine lv_iinc (v := 0) (lv' := [(2, .int 0), (0, .ref tp), (1, .int p0)]) hx hb dX8_append_43 hl (k := 0) rfl (by decide) (by decide) rfl (fun ls hl => ?_)
  refine lv_goto (tgt := 3) hx hb dX8_append_46 (by decide) ?_
  refine lv_iload_n hx hb dX8_append_3 rfl (lv_at hl 0 rfl) ?_
  refine lv_if_lt (tgt := 49) hx hb dX8_append_4 (by decide) (fun h9 => absurd h9 (by decide)) (fun _ => ?_)
  refine lv_aload_n hx hb dX8_append_7 rfl (lv_at hl 1 rfl) ?_
  refine va_get (D := D) (ci := 8) (v := .int 3) (C := RX8) (T := TX8) (N := 2) hx hb hts inlX8 hown hK hP 0 rfl rfl 1 (by decide) (hts (Cond.fieldLink RX8 15 "ChanceRings$Tape" "length" "I") qw_31) (fun _ h9 => h9) rfl dX8_append_8 ?_
  refine lv_sipush (v := 440) hx hb dX8_append_11 (by decide) ?_
  refine lv_icmp_ge (tgt := 43) hx hb dX8_append_14 (by decide) (fun h9 => absurd h9 (by decide)) (fun _ => ?_)
  refine lv_aload_n hx hb dX8_append_17 rfl (lv_at hl 1 rfl) ?_
  refine va_get (D := D) (ci := 8) (v := .ref tp_bytes) (C := RX8) (T := TX8) (N := 2) hx hb hts inlX8 hown hK hP 0 rfl rfl 0 (by decide) (hts (Cond.fieldLink RX8 9 "ChanceRings$Tape" "bytes" "[I") qw_151) (fun _ h9 => h9) rfl dX8_append_18 ?_
  refine lv_aload_n hx hb dX8_append_21 rfl (lv_at hl 1 rfl) ?_
  refine va_get (D := D) (ci := 8) (v := .int 3) (C := RX8) (T := TX8) (N := 2) hx hb hts inlX8 hown hK hP 0 rfl rfl 1 (by decide) (hts (Cond.fieldLink RX8 15 "ChanceRings$Tape" "length" "I") qw_31) (fun _ h9 => h9) rfl dX8_append_22 ?_
  refine lv_iload_n hx hb dX8_append_25 rfl (lv_at hl 2 rfl) ?_
  refine lv_iload_n hx hb dX8_append_26 rfl (lv_at hl 0 rfl) ?_
  refine lv_iushr (v := ((p0 : Int32).toUInt32 >>> ((0 : Int32).toUInt32 &&& Int32.toUInt32 31)).toInt32) hx hb dX8_append_27 rfl ?_
  refine lv_sipush (v := 255) hx hb dX8_append_28 (by decide) ?_
  refine lv_iand hx hb dX8_append_31 ?_
  refine va_iast hx hb hK hP hD hS 1 0 rfl rfl (tz_in (by decide +kernel)) dX8_append_32 (fun H locs hP hD hS => ?_)
  obtain ⟨f_120, hP, hD⟩ : ∃ FX : Nat → Int32, va_P D vwCl [(tp, .inr (8, [.ref tp_bytes, .int 3])), (tp_bytes, .inl (g 0, 440, .inl FX))] H ∧ va_D A [(tp, .inr (8, [.ref tp_bytes, .int 3])), (tp_bytes, .inl (g 0, 440, .inl FX))] := ⟨_, hP, hD⟩
  have hP : va_P D vwCl [(tp, .inr (8, [.ref tp_bytes, .int 3])), (tp_bytes, .inl (g 0, 440, .inl f_120))] H := hP
  have hD : va_D A [(tp, .inr (8, [.ref tp_bytes, .int 3])), (tp_bytes, .inl (g 0, 440, .inl f_120))] := hD
  refine lv_aload_n hx hb dX8_append_33 rfl (lv_at hl 1 rfl) ?_
  refine lv_dup hx hb dX8_append_34 rfl ?_
  refine va_get (D := D) (ci := 8) (v := .int 3) (C := RX8) (T := TX8) (N := 2) hx hb hts inlX8 hown hK hP 0 rfl rfl 1 (by decide) (hts (Cond.fieldLink RX8 15 "ChanceRings$Tape" "length" "I") qw_31) (fun _ h9 => h9) rfl dX8_append_35 ?_
  refine lv_iconst (v := 1) hx hb dX8_append_38 (by decide) ?_
  refine lv_iadd hx hb dX8_append_39 ?_
  refine tz_i (y := 4) (by decide +kernel) ?_
  refine va_put (D := D) (ci := 8) (v := .int 4) (ty := .int) (C := RX8) (T := TX8) (N := 2) hx hb hts inlX8 tyX8 tyX8_ok nmX8 hown hK hP hD hS 0 rfl rfl 1 (by decide) (hts (Cond.fieldLink RX8 15 "ChanceRings$Tape" "length" "I") qw_31) (fun _ h9 => h9) rfl (by decide +kernel) rfl rfl (Nat.le_of_ble_eq_true rfl) dX8_append_40 (fun H locs hP hD hS => ?_)
  have hP : va_P D vwCl [(tp, .inr (8, [.ref tp_bytes, .int 4])), (tp_bytes, .inl (g 0, 440, .inl f_120))] H := hP
  have hD : va_D A [(tp, .inr (8, [.ref tp_bytes, .int 4])), (tp_bytes, .inl (g 0, 440, .inl f_120))] := hD
  refine lv_iinc (v := (-8)) (lv' := [(2, .int (-8)), (0, .ref tp), (1, .int p0)]) hx hb dX8_append_43 hl (k := 0) rfl (by decide) (by decide) rfl (fun ls hl => ?_)
  refine lv_goto (tgt := 3) hx hb dX8_append_46 (by decide) ?_
  refine lv_iload_n hx hb dX8_append_3 rfl (lv_at hl 0 rfl) ?_
  refine lv_if_lt (tgt := 49) hx hb dX8_append_4 (by decide) (fun _ => ?_) (fun h9 => (h9 (by decide)).elim)
  have hP9 := hP.sub (ws' := [(tp, .inr (8, [.ref tp_bytes, .int 4])), (tp_bytes, .inl (g 0, 440, .inl f_120))]) [0, 1] rfl
  have hD9 := hD.sub (ws' := [(tp, .inr (8, [.ref tp_bytes, .int 4])), (tp_bytes, .inl (g 0, 440, .inl f_120))]) [0, 1] (by decide) rfl
  exact W.vret hx hb hr (fun t ht hW => ⟨⟨(), rfl, trivial, f_120, by rw [ht]; exact hP9, hD9⟩, hS.F ht⟩) hS.2.2 dX8_append_49
set_option maxHeartbeats 4000000 in
set_option maxRecDepth 100000 in
theorem c_X8_append_4 (l : Launch) (D : va_G) (g : Nat → ClassId) (sz : Nat) (tp : Nat) (p0 : Int32) (tp_bytes : Nat) (f : Nat → Int32) : Met l yX8_append (.code yX8_append cX8_append 3 none :: wsL_law) ({ frames := 0, cells := 0, slots := 0, locals := 0 }) (va_Pc [.ref tp, .int p0] (fun U => U.heap.size = sz ∧ va_P D vwCl [(tp, .inr (8, [.ref tp_bytes, .int 4])), (tp_bytes, .inl (g 0, 440, .inl f))] U.heap ∧ va_K D vwCl (TY g) U ∧ va_D (fun _ => True) [(tp, .inr (8, [.ref tp_bytes, .int 4])), (tp_bytes, .inl (g 0, 440, .inl f))])) (va_Qv (fun (_ : Unit) => True) (fun _ t => ∃ ff : Nat → Int32, va_P D vwCl [(tp, .inr (8, [.ref tp_bytes, .int 8])), (tp_bytes, .inl (g 0, 440, .inl ff))] t.heap ∧ va_D (va_A [(tp, .inr (8, [.ref tp_bytes, .int 4])), (tp_bytes, .inl (g 0, 440, .inl f))] sz) [(tp, .inr (8, [.ref tp_bytes, .int 8])), (tp_bytes, .inl (g 0, 440, .inl ff))]) (va_A [(tp, .inr (8, [.ref tp_bytes, .int 4])), (tp_bytes, .inl (g 0, 440, .inl f))] sz)) 0 0 (va_A [(tp, .inr (8, [.ref tp_bytes, .int 4])), (tp_bytes, .inl (g 0, 440, .inl f))] sz) := by
  refine Met.ofW (cc := cX8_append) (maxL := 3) (ret := none) (by decide) rfl ?_
  intro p e s m args below meth c s₁ B hml hv
  obtain ⟨rfl, hsz, hP, hK, hD0⟩ := hv
  have hx := B.exec
  have hb := B.bytes
  have hr := B.returns
  have hts0 := atoms_spec (ws := (.code yX8_append cX8_append 3 none :: wsL_law)) B.pre
  have hts : ∀ w ∈ wsL_law, w.before _ s = true := fun w h => hts0 w (List.mem_cons_of_mem _ h)
  have hown : s.vm.findClass RX8 = some m.cls := findClass_of_methodNamed B.named
  have hlocks := B.notSynchronized
  subst hsz
  have hD := hD0.self (sz := s.heap.size)
  generalize hAe : va_A [(tp, .inr (8, [.ref tp_bytes, .int 4])), (tp_bytes, .inl (g 0, 440, .inl f))] s.heap.size = A at hD ⊢
  have hA : ∀ q : Nat, s.heap.size ≤ q → A q := fun q h => by rw [← hAe]; exact Or.inr h
  have hS : va_S A s.heap s.heap [] := va_S.rf
  have hP : va_P D vwCl [(tp, .inr (8, [.ref tp_bytes, .int 4])), (tp_bytes, .inl (g 0, 440, .inl f))] s.heap := hP
  have hl := lv_entry ([.ref tp, .int p0]) (n := 3) (Nat.le_of_ble_eq_true rfl)
  rw [lg_entry_eq]
  generalize (lg_sl ([.ref tp, .int p0]) ++ List.replicate (3 - (lg_sl ([.ref tp, .int p0])).length) Slot.unset).toArray = ls at hl ⊢
  have hl : lv_has ls 3 [(0, .ref tp), (1, .int p0)] := hl
  refine lv_bipush (v := 24) hx hb dX8_append_0 (by decide) ?_
  refine lv_istore_n (lv' := [(2, .int 24), (0, .ref tp), (1, .int p0)]) hx hb dX8_append_2 rfl hl (by decide) rfl (fun ls hl => ?_)
  refine lv_iload_n hx hb dX8_append_3 rfl (lv_at hl 0 rfl) ?_
  refine lv_if_lt (tgt := 49) hx hb dX8_append_4 (by decide) (fun h9 => absurd h9 (by decide)) (fun _ => ?_)
  refine lv_aload_n hx hb dX8_append_7 rfl (lv_at hl 1 rfl) ?_
  refine va_get (D := D) (ci := 8) (v := .int 4) (C := RX8) (T := TX8) (N := 2) hx hb hts inlX8 hown hK hP 0 rfl rfl 1 (by decide) (hts (Cond.fieldLink RX8 15 "ChanceRings$Tape" "length" "I") qw_31) (fun _ h9 => h9) rfl dX8_append_8 ?_
  refine lv_sipush (v := 440) hx hb dX8_append_11 (by decide) ?_
  refine lv_icmp_ge (tgt := 43) hx hb dX8_append_14 (by decide) (fun h9 => absurd h9 (by decide)) (fun _ => ?_)
  refine lv_aload_n hx hb dX8_append_17 rfl (lv_at hl 1 rfl) ?_
  refine va_get (D := D) (ci := 8) (v := .ref tp_bytes) (C := RX8) (T := TX8) (N := 2) hx hb hts inlX8 hown hK hP 0 rfl rfl 0 (by decide) (hts (Cond.fieldLink RX8 9 "ChanceRings$Tape" "bytes" "[I") qw_151) (fun _ h9 => h9) rfl dX8_append_18 ?_
  refine lv_aload_n hx hb dX8_append_21 rfl (lv_at hl 1 rfl) ?_
  refine va_get (D := D) (ci := 8) (v := .int 4) (C := RX8) (T := TX8) (N := 2) hx hb hts inlX8 hown hK hP 0 rfl rfl 1 (by decide) (hts (Cond.fieldLink RX8 15 "ChanceRings$Tape" "length" "I") qw_31) (fun _ h9 => h9) rfl dX8_append_22 ?_
  refine lv_iload_n hx hb dX8_append_25 rfl (lv_at hl 2 rfl) ?_
  refine lv_iload_n hx hb dX8_append_26 rfl (lv_at hl 0 rfl) ?_
  refine lv_iushr (v := ((p0 : Int32).toUInt32 >>> ((24 : Int32).toUInt32 &&& Int32.toUInt32 31)).toInt32) hx hb dX8_append_27 rfl ?_
  refine lv_sipush (v := 255) hx hb dX8_append_28 (by decide) ?_
  refine lv_iand hx hb dX8_append_31 ?_
  refine va_iast hx hb hK hP hD hS 1 0 rfl rfl (tz_in (by decide +kernel)) dX8_append_32 (fun H locs hP hD hS => ?_)
  obtain ⟨f_121, hP, hD⟩ : ∃ FX : Nat → Int32, va_P D vwCl [(tp, .inr (8, [.ref tp_bytes, .int 4])), (tp_bytes, .inl (g 0, 440, .inl FX))] H ∧ va_D A [(tp, .inr (8, [.ref tp_bytes, .int 4])), (tp_bytes, .inl (g 0, 440, .inl FX))] := ⟨_, hP, hD⟩
  have hP : va_P D vwCl [(tp, .inr (8, [.ref tp_bytes, .int 4])), (tp_bytes, .inl (g 0, 440, .inl f_121))] H := hP
  have hD : va_D A [(tp, .inr (8, [.ref tp_bytes, .int 4])), (tp_bytes, .inl (g 0, 440, .inl f_121))] := hD
  refine lv_aload_n hx hb dX8_append_33 rfl (lv_at hl 1 rfl) ?_
  refine lv_dup hx hb dX8_append_34 rfl ?_
  refine va_get (D := D) (ci := 8) (v := .int 4) (C := RX8) (T := TX8) (N := 2) hx hb hts inlX8 hown hK hP 0 rfl rfl 1 (by decide) (hts (Cond.fieldLink RX8 15 "ChanceRings$Tape" "length" "I") qw_31) (fun _ h9 => h9) rfl dX8_append_35 ?_
  refine lv_iconst (v := 1) hx hb dX8_append_38 (by decide) ?_
  refine lv_iadd hx hb dX8_append_39 ?_
  refine tz_i (y := 5) (by decide +kernel) ?_
  refine va_put (D := D) (ci := 8) (v := .int 5) (ty := .int) (C := RX8) (T := TX8) (N := 2) hx hb hts inlX8 tyX8 tyX8_ok nmX8 hown hK hP hD hS 0 rfl rfl 1 (by decide) (hts (Cond.fieldLink RX8 15 "ChanceRings$Tape" "length" "I") qw_31) (fun _ h9 => h9) rfl (by decide +kernel) rfl rfl (Nat.le_of_ble_eq_true rfl) dX8_append_40 (fun H locs hP hD hS => ?_)
  have hP : va_P D vwCl [(tp, .inr (8, [.ref tp_bytes, .int 5])), (tp_bytes, .inl (g 0, 440, .inl f_121))] H := hP
  have hD : va_D A [(tp, .inr (8, [.ref tp_bytes, .int 5])), (tp_bytes, .inl (g 0, 440, .inl f_121))] := hD
  refine lv_iinc (v := 16) (lv' := [(2, .int 16), (0, .ref tp), (1, .int p0)]) hx hb dX8_append_43 hl (k := 0) rfl (by decide) (by decide) rfl (fun ls hl => ?_)
  refine lv_goto (tgt := 3) hx hb dX8_append_46 (by decide) ?_
  refine lv_iload_n hx hb dX8_append_3 rfl (lv_at hl 0 rfl) ?_
  refine lv_if_lt (tgt := 49) hx hb dX8_append_4 (by decide) (fun h9 => absurd h9 (by decide)) (fun _ => ?_)
  refine lv_aload_n hx hb dX8_append_7 rfl (lv_at hl 1 rfl) ?_
  refine va_get (D := D) (ci := 8) (v := .int 5) (C := RX8) (T := TX8) (N := 2) hx hb hts inlX8 hown hK hP 0 rfl rfl 1 (by decide) (hts (Cond.fieldLink RX8 15 "ChanceRings$Tape" "length" "I") qw_31) (fun _ h9 => h9) rfl dX8_append_8 ?_
  refine lv_sipush (v := 440) hx hb dX8_append_11 (by decide) ?_
  refine lv_icmp_ge (tgt := 43) hx hb dX8_append_14 (by decide) (fun h9 => absurd h9 (by decide)) (fun _ => ?_)
  refine lv_aload_n hx hb dX8_append_17 rfl (lv_at hl 1 rfl) ?_
  refine va_get (D := D) (ci := 8) (v := .ref tp_bytes) (C := RX8) (T := TX8) (N := 2) hx hb hts inlX8 hown hK hP 0 rfl rfl 0 (by decide) (hts (Cond.fieldLink RX8 9 "ChanceRings$Tape" "bytes" "[I") qw_151) (fun _ h9 => h9) rfl dX8_append_18 ?_
  refine lv_aload_n hx hb dX8_append_21 rfl (lv_at hl 1 rfl) ?_
  refine va_get (D := D) (ci := 8) (v := .int 5) (C := RX8) (T := TX8) (N := 2) hx hb hts inlX8 hown hK hP 0 rfl rfl 1 (by decide) (hts (Cond.fieldLink RX8 15 "ChanceRings$Tape" "length" "I") qw_31) (fun _ h9 => h9) rfl dX8_append_22 ?_
  refine lv_iload_n hx hb dX8_append_25 rfl (lv_at hl 2 rfl) ?_
  refine lv_iload_n hx hb dX8_append_26 rfl (lv_at hl 0 rfl) ?_
  refine lv_iushr (v := ((p0 : Int32).toUInt32 >>> ((16 : Int32).toUInt32 &&& Int32.toUInt32 31)).toInt32) hx hb dX8_append_27 rfl ?_
  refine lv_sipush (v := 255) hx hb dX8_append_28 (by decide) ?_
  refine lv_iand hx hb dX8_append_31 ?_
  refine va_iast hx hb hK hP hD hS 1 0 rfl rfl (tz_in (by decide +kernel)) dX8_append_32 (fun H locs hP hD hS => ?_)
  obtain ⟨f_122, hP, hD⟩ : ∃ FX : Nat → Int32, va_P D vwCl [(tp, .inr (8, [.ref tp_bytes, .int 5])), (tp_bytes, .inl (g 0, 440, .inl FX))] H ∧ va_D A [(tp, .inr (8, [.ref tp_bytes, .int 5])), (tp_bytes, .inl (g 0, 440, .inl FX))] := ⟨_, hP, hD⟩
  have hP : va_P D vwCl [(tp, .inr (8, [.ref tp_bytes, .int 5])), (tp_bytes, .inl (g 0, 440, .inl f_122))] H := hP
  have hD : va_D A [(tp, .inr (8, [.ref tp_bytes, .int 5])), (tp_bytes, .inl (g 0, 440, .inl f_122))] := hD
  refine lv_aload_n hx hb dX8_append_33 rfl (lv_at hl 1 rfl) ?_
  refine lv_dup hx hb dX8_append_34 rfl ?_
  refine va_get (D := D) (ci := 8) (v := .int 5) (C := RX8) (T := TX8) (N := 2) hx hb hts inlX8 hown hK hP 0 rfl rfl 1 (by decide) (hts (Cond.fieldLink RX8 15 "ChanceRings$Tape" "length" "I") qw_31) (fun _ h9 => h9) rfl dX8_append_35 ?_
  refine lv_iconst (v := 1) hx hb dX8_append_38 (by decide) ?_
  refine lv_iadd hx hb dX8_append_39 ?_
  refine tz_i (y := 6) (by decide +kernel) ?_
  refine va_put (D := D) (ci := 8) (v := .int 6) (ty := .int) (C := RX8) (T := TX8) (N := 2) hx hb hts inlX8 tyX8 tyX8_ok nmX8 hown hK hP hD hS 0 rfl rfl 1 (by decide) (hts (Cond.fieldLink RX8 15 "ChanceRings$Tape" "length" "I") qw_31) (fun _ h9 => h9) rfl (by decide +kernel) rfl rfl (Nat.le_of_ble_eq_true rfl) dX8_append_40 (fun H locs hP hD hS => ?_)
  have hP : va_P D vwCl [(tp, .inr (8, [.ref tp_bytes, .int 6])), (tp_bytes, .inl (g 0, 440, .inl f_122))] H := hP
  have hD : va_D A [(tp, .inr (8, [.ref tp_bytes, .int 6])), (tp_bytes, .inl (g 0, 440, .inl f_122))] := hD
  refine lv_iinc (v := 8) (lv' := [(2, .int 8), (0, .ref tp), (1, .int p0)]) hx hb dX8_append_43 hl (k := 0) rfl (by decide) (by decide) rfl (fun ls hl => ?_)
  refine lv_goto (tgt := 3) hx hb dX8_append_46 (by decide) ?_
  refine lv_iload_n hx hb dX8_append_3 rfl (lv_at hl 0 rfl) ?_
  refine lv_if_lt (tgt := 49) hx hb dX8_append_4 (by decide) (fun h9 => absurd h9 (by decide)) (fun _ => ?_)
  refine lv_aload_n hx hb dX8_append_7 rfl (lv_at hl 1 rfl) ?_
  refine va_get (D := D) (ci := 8) (v := .int 6) (C := RX8) (T := TX8) (N := 2) hx hb hts inlX8 hown hK hP 0 rfl rfl 1 (by decide) (hts (Cond.fieldLink RX8 15 "ChanceRings$Tape" "length" "I") qw_31) (fun _ h9 => h9) rfl dX8_append_8 ?_
  refine lv_sipush (v := 440) hx hb dX8_append_11 (by decide) ?_
  refine lv_icmp_ge (tgt := 43) hx hb dX8_append_14 (by decide) (fun h9 => absurd h9 (by decide)) (fun _ => ?_)
  refine lv_aload_n hx hb dX8_append_17 rfl (lv_at hl 1 rfl) ?_
  refine va_get (D := D) (ci := 8) (v := .ref tp_bytes) (C := RX8) (T := TX8) (N := 2) hx hb hts inlX8 hown hK hP 0 rfl rfl 0 (by decide) (hts (Cond.fieldLink RX8 9 "ChanceRings$Tape" "bytes" "[I") qw_151) (fun _ h9 => h9) rfl dX8_append_18 ?_
  refine lv_aload_n hx hb dX8_append_21 rfl (lv_at hl 1 rfl) ?_
  refine va_get (D := D) (ci := 8) (v := .int 6) (C := RX8) (T := TX8) (N := 2) hx hb hts inlX8 hown hK hP 0 rfl rfl 1 (by decide) (hts (Cond.fieldLink RX8 15 "ChanceRings$Tape" "length" "I") qw_31) (fun _ h9 => h9) rfl dX8_append_22 ?_
  refine lv_iload_n hx hb dX8_append_25 rfl (lv_at hl 2 rfl) ?_
  refine lv_iload_n hx hb dX8_append_26 rfl (lv_at hl 0 rfl) ?_
  refine lv_iushr (v := ((p0 : Int32).toUInt32 >>> ((8 : Int32).toUInt32 &&& Int32.toUInt32 31)).toInt32) hx hb dX8_append_27 rfl ?_
  refine lv_sipush (v := 255) hx hb dX8_append_28 (by decide) ?_
  refine lv_iand hx hb dX8_append_31 ?_
  refine va_iast hx hb hK hP hD hS 1 0 rfl rfl (tz_in (by decide +kernel)) dX8_append_32 (fun H locs hP hD hS => ?_)
  obtain ⟨f_123, hP, hD⟩ : ∃ FX : Nat → Int32, va_P D vwCl [(tp, .inr (8, [.ref tp_bytes, .int 6])), (tp_bytes, .inl (g 0, 440, .inl FX))] H ∧ va_D A [(tp, .inr (8, [.ref tp_bytes, .int 6])), (tp_bytes, .inl (g 0, 440, .inl FX))] := ⟨_, hP, hD⟩
  have hP : va_P D vwCl [(tp, .inr (8, [.ref tp_bytes, .int 6])), (tp_bytes, .inl (g 0, 440, .inl f_123))] H := hP
  have hD : va_D A [(tp, .inr (8, [.ref tp_bytes, .int 6])), (tp_bytes, .inl (g 0, 440, .inl f_123))] := hD
  refine lv_aload_n hx hb dX8_append_33 rfl (lv_at hl 1 rfl) ?_
  refine lv_dup hx hb dX8_append_34 rfl ?_
  refine va_get (D := D) (ci := 8) (v := .int 6) (C := RX8) (T := TX8) (N := 2) hx hb hts inlX8 hown hK hP 0 rfl rfl 1 (by decide) (hts (Cond.fieldLink RX8 15 "ChanceRings$Tape" "length" "I") qw_31) (fun _ h9 => h9) rfl dX8_append_35 ?_
  refine lv_iconst (v := 1) hx hb dX8_append_38 (by decide) ?_
  refine lv_iadd hx hb dX8_append_39 ?_
  refine tz_i (y := 7) (by decide +kernel) ?_
  refine va_put (D := D) (ci := 8) (v := .int 7) (ty := .int) (C := RX8) (T := TX8) (N := 2) hx hb hts inlX8 tyX8 tyX8_ok nmX8 hown hK hP hD hS 0 rfl rfl 1 (by decide) (hts (Cond.fieldLink RX8 15 "ChanceRings$Tape" "length" "I") qw_31) (fun _ h9 => h9) rfl (by decide +kernel) rfl rfl (Nat.le_of_ble_eq_true rfl) dX8_append_40 (fun H locs hP hD hS => ?_)
  have hP : va_P D vwCl [(tp, .inr (8, [.ref tp_bytes, .int 7])), (tp_bytes, .inl (g 0, 440, .inl f_123))] H := hP
  have hD : va_D A [(tp, .inr (8, [.ref tp_bytes, .int 7])), (tp_bytes, .inl (g 0, 440, .inl f_123))] := hD
  refine lv_iinc (v := 0) (lv' := [(2, .int 0), (0, .ref tp), (1, .int p0)]) hx hb dX8_append_43 hl (k := 0) rfl (by decide) (by decide) rfl (fun ls hl => ?_)
  refine lv_goto (tgt := 3) hx hb dX8_append_46 (by decide) ?_
  refine lv_iload_n hx hb dX8_append_3 rfl (lv_at hl 0 rfl) ?_
  refine lv_if_lt (tgt := 49) hx hb dX8_append_4 (by decide) (fun h9 => absurd h9 (by decide)) (fun _ => ?_)
  refine lv_aload_n hx hb dX8_append_7 rfl (lv_at hl 1 rfl) ?_
  refine va_get (D := D) (ci := 8) (v := .int 7) (C := RX8) (T := TX8) (N := 2) hx hb hts inlX8 hown hK hP 0 rfl rfl 1 (by decide) (hts (Cond.fieldLink RX8 15 "ChanceRings$Tape" "length" "I") qw_31) (fun _ h9 => h9) rfl dX8_append_8 ?_
  refine lv_sipush (v := 440) hx hb dX8_append_11 (by decide) ?_
  refine lv_icmp_ge (tgt := 43) hx hb dX8_append_14 (by decide) (fun h9 => absurd h9 (by decide)) (fun _ => ?_)
  refine lv_aload_n hx hb dX8_append_17 rfl (lv_at hl 1 rfl) ?_
  refine va_get (D := D) (ci := 8) (v := .ref tp_bytes) (C := RX8) (T := TX8) (N := 2) hx hb hts inlX8 hown hK hP 0 rfl rfl 0 (by decide) (hts (Cond.fieldLink RX8 9 "ChanceRings$Tape" "bytes" "[I") qw_151) (fun _ h9 => h9) rfl dX8_append_18 ?_
  refine lv_aload_n hx hb dX8_append_21 rfl (lv_at hl 1 rfl) ?_
  refine va_get (D := D) (ci := 8) (v := .int 7) (C := RX8) (T := TX8) (N := 2) hx hb hts inlX8 hown hK hP 0 rfl rfl 1 (by decide) (hts (Cond.fieldLink RX8 15 "ChanceRings$Tape" "length" "I") qw_31) (fun _ h9 => h9) rfl dX8_append_22 ?_
  refine lv_iload_n hx hb dX8_append_25 rfl (lv_at hl 2 rfl) ?_
  refine lv_iload_n hx hb dX8_append_26 rfl (lv_at hl 0 rfl) ?_
  refine lv_iushr (v := ((p0 : Int32).toUInt32 >>> ((0 : Int32).toUInt32 &&& Int32.toUInt32 31)).toInt32) hx hb dX8_append_27 rfl ?_
  refine lv_sipush (v := 255) hx hb dX8_append_28 (by decide) ?_
  refine lv_iand hx hb dX8_append_31 ?_
  refine va_iast hx hb hK hP hD hS 1 0 rfl rfl (tz_in (by decide +kernel)) dX8_append_32 (fun H locs hP hD hS => ?_)
  obtain ⟨f_124, hP, hD⟩ : ∃ FX : Nat → Int32, va_P D vwCl [(tp, .inr (8, [.ref tp_bytes, .int 7])), (tp_bytes, .inl (g 0, 440, .inl FX))] H ∧ va_D A [(tp, .inr (8, [.ref tp_bytes, .int 7])), (tp_bytes, .inl (g 0, 440, .inl FX))] := ⟨_, hP, hD⟩
  have hP : va_P D vwCl [(tp, .inr (8, [.ref tp_bytes, .int 7])), (tp_bytes, .inl (g 0, 440, .inl f_124))] H := hP
  have hD : va_D A [(tp, .inr (8, [.ref tp_bytes, .int 7])), (tp_bytes, .inl (g 0, 440, .inl f_124))] := hD
  refine lv_aload_n hx hb dX8_append_33 rfl (lv_at hl 1 rfl) ?_
  refine lv_dup hx hb dX8_append_34 rfl ?_
  refine va_get (D := D) (ci := 8) (v := .int 7) (C := RX8) (T := TX8) (N := 2) hx hb hts inlX8 hown hK hP 0 rfl rfl 1 (by decide) (hts (Cond.fieldLink RX8 15 "ChanceRings$Tape" "length" "I") qw_31) (fun _ h9 => h9) rfl dX8_append_35 ?_
  refine lv_iconst (v := 1) hx hb dX8_append_38 (by decide) ?_
  refine lv_iadd hx hb dX8_append_39 ?_
  refine tz_i (y := 8) (by decide +kernel) ?_
  refine va_put (D := D) (ci := 8) (v := .int 8) (ty := .int) (C := RX8) (T := TX8) (N := 2) hx hb hts inlX8 tyX8 tyX8_ok nmX8 hown hK hP hD hS 0 rfl rfl 1 (by decide) (hts (Cond.fieldLink RX8 15 "ChanceRings$Tape" "length" "I") qw_31) (fun _ h9 => h9) rfl (by decide +kernel) rfl rfl (Nat.le_of_ble_eq_true rfl) dX8_append_40 (fun H locs hP hD hS => ?_)
  have hP : va_P D vwCl [(tp, .inr (8, [.ref tp_bytes, .int 8])), (tp_bytes, .inl (g 0, 440, .inl f_124))] H := hP
  have hD : va_D A [(tp, .inr (8, [.ref tp_bytes, .int 8])), (tp_bytes, .inl (g 0, 440, .inl f_124))] := hD
  refine lv_iinc (v := (-8)) (lv' := [(2, .int (-8)), (0, .ref tp), (1, .int p0)]) hx hb dX8_append_43 hl (k := 0) rfl (by decide) (by decide) rfl (fun ls hl => ?_)
  refine lv_goto (tgt := 3) hx hb dX8_append_46 (by decide) ?_
  refine lv_iload_n hx hb dX8_append_3 rfl (lv_at hl 0 rfl) ?_
  refine lv_if_lt (tgt := 49) hx hb dX8_append_4 (by decide) (fun _ => ?_) (fun h9 => (h9 (by decide)).elim)
  have hP9 := hP.sub (ws' := [(tp, .inr (8, [.ref tp_bytes, .int 8])), (tp_bytes, .inl (g 0, 440, .inl f_124))]) [0, 1] rfl
  have hD9 := hD.sub (ws' := [(tp, .inr (8, [.ref tp_bytes, .int 8])), (tp_bytes, .inl (g 0, 440, .inl f_124))]) [0, 1] (by decide) rfl
  exact W.vret hx hb hr (fun t ht hW => ⟨⟨(), rfl, trivial, f_124, by rw [ht]; exact hP9, hD9⟩, hS.F ht⟩) hS.2.2 dX8_append_49
set_option maxHeartbeats 4000000 in
set_option maxRecDepth 100000 in
theorem c_X8_append_8 (l : Launch) (D : va_G) (g : Nat → ClassId) (sz : Nat) (tp : Nat) (p0 : Int32) (tp_bytes : Nat) (f : Nat → Int32) : Met l yX8_append (.code yX8_append cX8_append 3 none :: wsL_law) ({ frames := 0, cells := 0, slots := 0, locals := 0 }) (va_Pc [.ref tp, .int p0] (fun U => U.heap.size = sz ∧ va_P D vwCl [(tp, .inr (8, [.ref tp_bytes, .int 8])), (tp_bytes, .inl (g 0, 440, .inl f))] U.heap ∧ va_K D vwCl (TY g) U ∧ va_D (fun _ => True) [(tp, .inr (8, [.ref tp_bytes, .int 8])), (tp_bytes, .inl (g 0, 440, .inl f))])) (va_Qv (fun (_ : Unit) => True) (fun _ t => ∃ ff : Nat → Int32, va_P D vwCl [(tp, .inr (8, [.ref tp_bytes, .int 12])), (tp_bytes, .inl (g 0, 440, .inl ff))] t.heap ∧ va_D (va_A [(tp, .inr (8, [.ref tp_bytes, .int 8])), (tp_bytes, .inl (g 0, 440, .inl f))] sz) [(tp, .inr (8, [.ref tp_bytes, .int 12])), (tp_bytes, .inl (g 0, 440, .inl ff))]) (va_A [(tp, .inr (8, [.ref tp_bytes, .int 8])), (tp_bytes, .inl (g 0, 440, .inl f))] sz)) 0 0 (va_A [(tp, .inr (8, [.ref tp_bytes, .int 8])), (tp_bytes, .inl (g 0, 440, .inl f))] sz) := by
  refine Met.ofW (cc := cX8_append) (maxL := 3) (ret := none) (by decide) rfl ?_
  intro p e s m args below meth c s₁ B hml hv
  obtain ⟨rfl, hsz, hP, hK, hD0⟩ := hv
  have hx := B.exec
  have hb := B.bytes
  have hr := B.returns
  have hts0 := atoms_spec (ws := (.code yX8_append cX8_append 3 none :: wsL_law)) B.pre
  have hts : ∀ w ∈ wsL_law, w.before _ s = true := fun w h => hts0 w (List.mem_cons_of_mem _ h)
  have hown : s.vm.findClass RX8 = some m.cls := findClass_of_methodNamed B.named
  have hlocks := B.notSynchronized
  subst hsz
  have hD := hD0.self (sz := s.heap.size)
  generalize hAe : va_A [(tp, .inr (8, [.ref tp_bytes, .int 8])), (tp_bytes, .inl (g 0, 440, .inl f))] s.heap.size = A at hD ⊢
  have hA : ∀ q : Nat, s.heap.size ≤ q → A q := fun q h => by rw [← hAe]; exact Or.inr h
  have hS : va_S A s.heap s.heap [] := va_S.rf
  have hP : va_P D vwCl [(tp, .inr (8, [.ref tp_bytes, .int 8])), (tp_bytes, .inl (g 0, 440, .inl f))] s.heap := hP
  have hl := lv_entry ([.ref tp, .int p0]) (n := 3) (Nat.le_of_ble_eq_true rfl)
  rw [lg_entry_eq]
  generalize (lg_sl ([.ref tp, .int p0]) ++ List.replicate (3 - (lg_sl ([.ref tp, .int p0])).length) Slot.unset).toArray = ls at hl ⊢
  have hl : lv_has ls 3 [(0, .ref tp), (1, .int p0)] := hl
  refine lv_bipush (v := 24) hx hb dX8_append_0 (by decide) ?_
  refine lv_istore_n (lv' := [(2, .int 24), (0, .ref tp), (1, .int p0)]) hx hb dX8_append_2 rfl hl (by decide) rfl (fun ls hl => ?_)
  refine lv_iload_n hx hb dX8_append_3 rfl (lv_at hl 0 rfl) ?_
  refine lv_if_lt (tgt := 49) hx hb dX8_append_4 (by decide) (fun h9 => absurd h9 (by decide)) (fun _ => ?_)
  refine lv_aload_n hx hb dX8_append_7 rfl (lv_at hl 1 rfl) ?_
  refine va_get (D := D) (ci := 8) (v := .int 8) (C := RX8) (T := TX8) (N := 2) hx hb hts inlX8 hown hK hP 0 rfl rfl 1 (by decide) (hts (Cond.fieldLink RX8 15 "ChanceRings$Tape" "length" "I") qw_31) (fun _ h9 => h9) rfl dX8_append_8 ?_
  refine lv_sipush (v := 440) hx hb dX8_append_11 (by decide) ?_
  refine lv_icmp_ge (tgt := 43) hx hb dX8_append_14 (by decide) (fun h9 => absurd h9 (by decide)) (fun _ => ?_)
  refine lv_aload_n hx hb dX8_append_17 rfl (lv_at hl 1 rfl) ?_
  refine va_get (D := D) (ci := 8) (v := .ref tp_bytes) (C := RX8) (T := TX8) (N := 2) hx hb hts inlX8 hown hK hP 0 rfl rfl 0 (by decide) (hts (Cond.fieldLink RX8 9 "ChanceRings$Tape" "bytes" "[I") qw_151) (fun _ h9 => h9) rfl dX8_append_18 ?_
  refine lv_aload_n hx hb dX8_append_21 rfl (lv_at hl 1 rfl) ?_
  refine va_get (D := D) (ci := 8) (v := .int 8) (C := RX8) (T := TX8) (N := 2) hx hb hts inlX8 hown hK hP 0 rfl rfl 1 (by decide) (hts (Cond.fieldLink RX8 15 "ChanceRings$Tape" "length" "I") qw_31) (fun _ h9 => h9) rfl dX8_append_22 ?_
  refine lv_iload_n hx hb dX8_append_25 rfl (lv_at hl 2 rfl) ?_
  refine lv_iload_n hx hb dX8_append_26 rfl (lv_at hl 0 rfl) ?_
  refine lv_iushr (v := ((p0 : Int32).toUInt32 >>> ((24 : Int32).toUInt32 &&& Int32.toUInt32 31)).toInt32) hx hb dX8_append_27 rfl ?_
  refine lv_sipush (v := 255) hx hb dX8_append_28 (by decide) ?_
  refine lv_iand hx hb dX8_append_31 ?_
  refine va_iast hx hb hK hP hD hS 1 0 rfl rfl (tz_in (by decide +kernel)) dX8_append_32 (fun H locs hP hD hS => ?_)
  obtain ⟨f_125, hP, hD⟩ : ∃ FX : Nat → Int32, va_P D vwCl [(tp, .inr (8, [.ref tp_bytes, .int 8])), (tp_bytes, .inl (g 0, 440, .inl FX))] H ∧ va_D A [(tp, .inr (8, [.ref tp_bytes, .int 8])), (tp_bytes, .inl (g 0, 440, .inl FX))] := ⟨_, hP, hD⟩
  have hP : va_P D vwCl [(tp, .inr (8, [.ref tp_bytes, .int 8])), (tp_bytes, .inl (g 0, 440, .inl f_125))] H := hP
  have hD : va_D A [(tp, .inr (8, [.ref tp_bytes, .int 8])), (tp_bytes, .inl (g 0, 440, .inl f_125))] := hD
  refine lv_aload_n hx hb dX8_append_33 rfl (lv_at hl 1 rfl) ?_
  refine lv_dup hx hb dX8_append_34 rfl ?_
  refine va_get (D := D) (ci := 8) (v := .int 8) (C := RX8) (T := TX8) (N := 2) hx hb hts inlX8 hown hK hP 0 rfl rfl 1 (by decide) (hts (Cond.fieldLink RX8 15 "ChanceRings$Tape" "length" "I") qw_31) (fun _ h9 => h9) rfl dX8_append_35 ?_
  refine lv_iconst (v := 1) hx hb dX8_append_38 (by decide) ?_
  refine lv_iadd hx hb dX8_append_39 ?_
  refine tz_i (y := 9) (by decide +kernel) ?_
  refine va_put (D := D) (ci := 8) (v := .int 9) (ty := .int) (C := RX8) (T := TX8) (N := 2) hx hb hts inlX8 tyX8 tyX8_ok nmX8 hown hK hP hD hS 0 rfl rfl 1 (by decide) (hts (Cond.fieldLink RX8 15 "ChanceRings$Tape" "length" "I") qw_31) (fun _ h9 => h9) rfl (by decide +kernel) rfl rfl (Nat.le_of_ble_eq_true rfl) dX8_append_40 (fun H locs hP hD hS => ?_)
  have hP : va_P D vwCl [(tp, .inr (8, [.ref tp_bytes, .int 9])), (tp_bytes, .inl (g 0, 440, .inl f_125))] H := hP
  have hD : va_D A [(tp, .inr (8, [.ref tp_bytes, .int 9])), (tp_bytes, .inl (g 0, 440, .inl f_125))] := hD
  refine lv_iinc (v := 16) (lv' := [(2, .int 16), (0, .ref tp), (1, .int p0)]) hx hb dX8_append_43 hl (k := 0) rfl (by decide) (by decide) rfl (fun ls hl => ?_)
  refine lv_goto (tgt := 3) hx hb dX8_append_46 (by decide) ?_
  refine lv_iload_n hx hb dX8_append_3 rfl (lv_at hl 0 rfl) ?_
  refine lv_if_lt (tgt := 49) hx hb dX8_append_4 (by decide) (fun h9 => absurd h9 (by decide)) (fun _ => ?_)
  refine lv_aload_n hx hb dX8_append_7 rfl (lv_at hl 1 rfl) ?_
  refine va_get (D := D) (ci := 8) (v := .int 9) (C := RX8) (T := TX8) (N := 2) hx hb hts inlX8 hown hK hP 0 rfl rfl 1 (by decide) (hts (Cond.fieldLink RX8 15 "ChanceRings$Tape" "length" "I") qw_31) (fun _ h9 => h9) rfl dX8_append_8 ?_
  refine lv_sipush (v := 440) hx hb dX8_append_11 (by decide) ?_
  refine lv_icmp_ge (tgt := 43) hx hb dX8_append_14 (by decide) (fun h9 => absurd h9 (by decide)) (fun _ => ?_)
  refine lv_aload_n hx hb dX8_append_17 rfl (lv_at hl 1 rfl) ?_
  refine va_get (D := D) (ci := 8) (v := .ref tp_bytes) (C := RX8) (T := TX8) (N := 2) hx hb hts inlX8 hown hK hP 0 rfl rfl 0 (by decide) (hts (Cond.fieldLink RX8 9 "ChanceRings$Tape" "bytes" "[I") qw_151) (fun _ h9 => h9) rfl dX8_append_18 ?_
  refine lv_aload_n hx hb dX8_append_21 rfl (lv_at hl 1 rfl) ?_
  refine va_get (D := D) (ci := 8) (v := .int 9) (C := RX8) (T := TX8) (N := 2) hx hb hts inlX8 hown hK hP 0 rfl rfl 1 (by decide) (hts (Cond.fieldLink RX8 15 "ChanceRings$Tape" "length" "I") qw_31) (fun _ h9 => h9) rfl dX8_append_22 ?_
  refine lv_iload_n hx hb dX8_append_25 rfl (lv_at hl 2 rfl) ?_
  refine lv_iload_n hx hb dX8_append_26 rfl (lv_at hl 0 rfl) ?_
  refine lv_iushr (v := ((p0 : Int32).toUInt32 >>> ((16 : Int32).toUInt32 &&& Int32.toUInt32 31)).toInt32) hx hb dX8_append_27 rfl ?_
  refine lv_sipush (v := 255) hx hb dX8_append_28 (by decide) ?_
  refine lv_iand hx hb dX8_append_31 ?_
  refine va_iast hx hb hK hP hD hS 1 0 rfl rfl (tz_in (by decide +kernel)) dX8_append_32 (fun H locs hP hD hS => ?_)
  obtain ⟨f_126, hP, hD⟩ : ∃ FX : Nat → Int32, va_P D vwCl [(tp, .inr (8, [.ref tp_bytes, .int 9])), (tp_bytes, .inl (g 0, 440, .inl FX))] H ∧ va_D A [(tp, .inr (8, [.ref tp_bytes, .int 9])), (tp_bytes, .inl (g 0, 440, .inl FX))] := ⟨_, hP, hD⟩
  have hP : va_P D vwCl [(tp, .inr (8, [.ref tp_bytes, .int 9])), (tp_bytes, .inl (g 0, 440, .inl f_126))] H := hP
  have hD : va_D A [(tp, .inr (8, [.ref tp_bytes, .int 9])), (tp_bytes, .inl (g 0, 440, .inl f_126))] := hD
  refine lv_aload_n hx hb dX8_append_33 rfl (lv_at hl 1 rfl) ?_
  refine lv_dup hx hb dX8_append_34 rfl ?_
  refine va_get (D := D) (ci := 8) (v := .int 9) (C := RX8) (T := TX8) (N := 2) hx hb hts inlX8 hown hK hP 0 rfl rfl 1 (by decide) (hts (Cond.fieldLink RX8 15 "ChanceRings$Tape" "length" "I") qw_31) (fun _ h9 => h9) rfl dX8_append_35 ?_
  refine lv_iconst (v := 1) hx hb dX8_append_38 (by decide) ?_
  refine lv_iadd hx hb dX8_append_39 ?_
  refine tz_i (y := 10) (by decide +kernel) ?_
  refine va_put (D := D) (ci := 8) (v := .int 10) (ty := .int) (C := RX8) (T := TX8) (N := 2) hx hb hts inlX8 tyX8 tyX8_ok nmX8 hown hK hP hD hS 0 rfl rfl 1 (by decide) (hts (Cond.fieldLink RX8 15 "ChanceRings$Tape" "length" "I") qw_31) (fun _ h9 => h9) rfl (by decide +kernel) rfl rfl (Nat.le_of_ble_eq_true rfl) dX8_append_40 (fun H locs hP hD hS => ?_)
  have hP : va_P D vwCl [(tp, .inr (8, [.ref tp_bytes, .int 10])), (tp_bytes, .inl (g 0, 440, .inl f_126))] H := hP
  have hD : va_D A [(tp, .inr (8, [.ref tp_bytes, .int 10])), (tp_bytes, .inl (g 0, 440, .inl f_126))] := hD
  refine lv_iinc (v := 8) (lv' := [(2, .int 8), (0, .ref tp), (1, .int p0)]) hx hb dX8_append_43 hl (k := 0) rfl (by decide) (by decide) rfl (fun ls hl => ?_)
  refine lv_goto (tgt := 3) hx hb dX8_append_46 (by decide) ?_
  refine lv_iload_n hx hb dX8_append_3 rfl (lv_at hl 0 rfl) ?_
  refine lv_if_lt (tgt := 49) hx hb dX8_append_4 (by decide) (fun h9 => absurd h9 (by decide)) (fun _ => ?_)
  refine lv_aload_n hx hb dX8_append_7 rfl (lv_at hl 1 rfl) ?_
  refine va_get (D := D) (ci := 8) (v := .int 10) (C := RX8) (T := TX8) (N := 2) hx hb hts inlX8 hown hK hP 0 rfl rfl 1 (by decide) (hts (Cond.fieldLink RX8 15 "ChanceRings$Tape" "length" "I") qw_31) (fun _ h9 => h9) rfl dX8_append_8 ?_
  refine lv_sipush (v := 440) hx hb dX8_append_11 (by decide) ?_
  refine lv_icmp_ge (tgt := 43) hx hb dX8_append_14 (by decide) (fun h9 => absurd h9 (by decide)) (fun _ => ?_)
  refine lv_aload_n hx hb dX8_append_17 rfl (lv_at hl 1 rfl) ?_
  refine va_get (D := D) (ci := 8) (v := .ref tp_bytes) (C := RX8) (T := TX8) (N := 2) hx hb hts inlX8 hown hK hP 0 rfl rfl 0 (by decide) (hts (Cond.fieldLink RX8 9 "ChanceRings$Tape" "bytes" "[I") qw_151) (fun _ h9 => h9) rfl dX8_append_18 ?_
  refine lv_aload_n hx hb dX8_append_21 rfl (lv_at hl 1 rfl) ?_
  refine va_get (D := D) (ci := 8) (v := .int 10) (C := RX8) (T := TX8) (N := 2) hx hb hts inlX8 hown hK hP 0 rfl rfl 1 (by decide) (hts (Cond.fieldLink RX8 15 "ChanceRings$Tape" "length" "I") qw_31) (fun _ h9 => h9) rfl dX8_append_22 ?_
  refine lv_iload_n hx hb dX8_append_25 rfl (lv_at hl 2 rfl) ?_
  refine lv_iload_n hx hb dX8_append_26 rfl (lv_at hl 0 rfl) ?_
  refine lv_iushr (v := ((p0 : Int32).toUInt32 >>> ((8 : Int32).toUInt32 &&& Int32.toUInt32 31)).toInt32) hx hb dX8_append_27 rfl ?_
  refine lv_sipush (v := 255) hx hb dX8_append_28 (by decide) ?_
  refine lv_iand hx hb dX8_append_31 ?_
  refine va_iast hx hb hK hP hD hS 1 0 rfl rfl (tz_in (by decide +kernel)) dX8_append_32 (fun H locs hP hD hS => ?_)
  obtain ⟨f_127, hP, hD⟩ : ∃ FX : Nat → Int32, va_P D vwCl [(tp, .inr (8, [.ref tp_bytes, .int 10])), (tp_bytes, .inl (g 0, 440, .inl FX))] H ∧ va_D A [(tp, .inr (8, [.ref tp_bytes, .int 10])), (tp_bytes, .inl (g 0, 440, .inl FX))] := ⟨_, hP, hD⟩
  have hP : va_P D vwCl [(tp, .inr (8, [.ref tp_bytes, .int 10])), (tp_bytes, .inl (g 0, 440, .inl f_127))] H := hP
  have hD : va_D A [(tp, .inr (8, [.ref tp_bytes, .int 10])), (tp_bytes, .inl (g 0, 440, .inl f_127))] := hD
  refine lv_aload_n hx hb dX8_append_33 rfl (lv_at hl 1 rfl) ?_
  refine lv_dup hx hb dX8_append_34 rfl ?_
  refine va_get (D := D) (ci := 8) (v := .int 10) (C := RX8) (T := TX8) (N := 2) hx hb hts inlX8 hown hK hP 0 rfl rfl 1 (by decide) (hts (Cond.fieldLink RX8 15 "ChanceRings$Tape" "length" "I") qw_31) (fun _ h9 => h9) rfl dX8_append_35 ?_
  refine lv_iconst (v := 1) hx hb dX8_append_38 (by decide) ?_
  refine lv_iadd hx hb dX8_append_39 ?_
  refine tz_i (y := 11) (by decide +kernel) ?_
  refine va_put (D := D) (ci := 8) (v := .int 11) (ty := .int) (C := RX8) (T := TX8) (N := 2) hx hb hts inlX8 tyX8 tyX8_ok nmX8 hown hK hP hD hS 0 rfl rfl 1 (by decide) (hts (Cond.fieldLink RX8 15 "ChanceRings$Tape" "length" "I") qw_31) (fun _ h9 => h9) rfl (by decide +kernel) rfl rfl (Nat.le_of_ble_eq_true rfl) dX8_append_40 (fun H locs hP hD hS => ?_)
  have hP : va_P D vwCl [(tp, .inr (8, [.ref tp_bytes, .int 11])), (tp_bytes, .inl (g 0, 440, .inl f_127))] H := hP
  have hD : va_D A [(tp, .inr (8, [.ref tp_bytes, .int 11])), (tp_bytes, .inl (g 0, 440, .inl f_127))] := hD
  refine lv_iinc (v := 0) (lv' := [(2, .int 0), (0, .ref tp), (1, .int p0)]) hx hb dX8_append_43 hl (k := 0) rfl (by decide) (by decide) rfl (fun ls hl => ?_)
  refine lv_goto (tgt := 3) hx hb dX8_append_46 (by decide) ?_
  refine lv_iload_n hx hb dX8_append_3 rfl (lv_at hl 0 rfl) ?_
  refine lv_if_lt (tgt := 49) hx hb dX8_append_4 (by decide) (fun h9 => absurd h9 (by decide)) (fun _ => ?_)
  refine lv_aload_n hx hb dX8_append_7 rfl (lv_at hl 1 rfl) ?_
  refine va_get (D := D) (ci := 8) (v := .int 11) (C := RX8) (T := TX8) (N := 2) hx hb hts inlX8 hown hK hP 0 rfl rfl 1 (by decide) (hts (Cond.fieldLink RX8 15 "ChanceRings$Tape" "length" "I") qw_31) (fun _ h9 => h9) rfl dX8_append_8 ?_
  refine lv_sipush (v := 440) hx hb dX8_append_11 (by decide) ?_
  refine lv_icmp_ge (tgt := 43) hx hb dX8_append_14 (by decide) (fun h9 => absurd h9 (by decide)) (fun _ => ?_)
  refine lv_aload_n hx hb dX8_append_17 rfl (lv_at hl 1 rfl) ?_
  refine va_get (D := D) (ci := 8) (v := .ref tp_bytes) (C := RX8) (T := TX8) (N := 2) hx hb hts inlX8 hown hK hP 0 rfl rfl 0 (by decide) (hts (Cond.fieldLink RX8 9 "ChanceRings$Tape" "bytes" "[I") qw_151) (fun _ h9 => h9) rfl dX8_append_18 ?_
  refine lv_aload_n hx hb dX8_append_21 rfl (lv_at hl 1 rfl) ?_
  refine va_get (D := D) (ci := 8) (v := .int 11) (C := RX8) (T := TX8) (N := 2) hx hb hts inlX8 hown hK hP 0 rfl rfl 1 (by decide) (hts (Cond.fieldLink RX8 15 "ChanceRings$Tape" "length" "I") qw_31) (fun _ h9 => h9) rfl dX8_append_22 ?_
  refine lv_iload_n hx hb dX8_append_25 rfl (lv_at hl 2 rfl) ?_
  refine lv_iload_n hx hb dX8_append_26 rfl (lv_at hl 0 rfl) ?_
  refine lv_iushr (v := ((p0 : Int32).toUInt32 >>> ((0 : Int32).toUInt32 &&& Int32.toUInt32 31)).toInt32) hx hb dX8_append_27 rfl ?_
  refine lv_sipush (v := 255) hx hb dX8_append_28 (by decide) ?_
  refine lv_iand hx hb dX8_append_31 ?_
  refine va_iast hx hb hK hP hD hS 1 0 rfl rfl (tz_in (by decide +kernel)) dX8_append_32 (fun H locs hP hD hS => ?_)
  obtain ⟨f_128, hP, hD⟩ : ∃ FX : Nat → Int32, va_P D vwCl [(tp, .inr (8, [.ref tp_bytes, .int 11])), (tp_bytes, .inl (g 0, 440, .inl FX))] H ∧ va_D A [(tp, .inr (8, [.ref tp_bytes, .int 11])), (tp_bytes, .inl (g 0, 440, .inl FX))] := ⟨_, hP, hD⟩
  have hP : va_P D vwCl [(tp, .inr (8, [.ref tp_bytes, .int 11])), (tp_bytes, .inl (g 0, 440, .inl f_128))] H := hP
  have hD : va_D A [(tp, .inr (8, [.ref tp_bytes, .int 11])), (tp_bytes, .inl (g 0, 440, .inl f_128))] := hD
  refine lv_aload_n hx hb dX8_append_33 rfl (lv_at hl 1 rfl) ?_
  refine lv_dup hx hb dX8_append_34 rfl ?_
  refine va_get (D := D) (ci := 8) (v := .int 11) (C := RX8) (T := TX8) (N := 2) hx hb hts inlX8 hown hK hP 0 rfl rfl 1 (by decide) (hts (Cond.fieldLink RX8 15 "ChanceRings$Tape" "length" "I") qw_31) (fun _ h9 => h9) rfl dX8_append_35 ?_
  refine lv_iconst (v := 1) hx hb dX8_append_38 (by decide) ?_
  refine lv_iadd hx hb dX8_append_39 ?_
  refine tz_i (y := 12) (by decide +kernel) ?_
  refine va_put (D := D) (ci := 8) (v := .int 12) (ty := .int) (C := RX8) (T := TX8) (N := 2) hx hb hts inlX8 tyX8 tyX8_ok nmX8 hown hK hP hD hS 0 rfl rfl 1 (by decide) (hts (Cond.fieldLink RX8 15 "ChanceRings$Tape" "length" "I") qw_31) (fun _ h9 => h9) rfl (by decide +kernel) rfl rfl (Nat.le_of_ble_eq_true rfl) dX8_append_40 (fun H locs hP hD hS => ?_)
  have hP : va_P D vwCl [(tp, .inr (8, [.ref tp_bytes, .int 12])), (tp_bytes, .inl (g 0, 440, .inl f_128))] H := hP
  have hD : va_D A [(tp, .inr (8, [.ref tp_bytes, .int 12])), (tp_bytes, .inl (g 0, 440, .inl f_128))] := hD
  refine lv_iinc (v := (-8)) (lv' := [(2, .int (-8)), (0, .ref tp), (1, .int p0)]) hx hb dX8_append_43 hl (k := 0) rfl (by decide) (by decide) rfl (fun ls hl => ?_)
  refine lv_goto (tgt := 3) hx hb dX8_append_46 (by decide) ?_
  refine lv_iload_n hx hb dX8_append_3 rfl (lv_at hl 0 rfl) ?_
  refine lv_if_lt (tgt := 49) hx hb dX8_append_4 (by decide) (fun _ => ?_) (fun h9 => (h9 (by decide)).elim)
  have hP9 := hP.sub (ws' := [(tp, .inr (8, [.ref tp_bytes, .int 12])), (tp_bytes, .inl (g 0, 440, .inl f_128))]) [0, 1] rfl
  have hD9 := hD.sub (ws' := [(tp, .inr (8, [.ref tp_bytes, .int 12])), (tp_bytes, .inl (g 0, 440, .inl f_128))]) [0, 1] (by decide) rfl
  exact W.vret hx hb hr (fun t ht hW => ⟨⟨(), rfl, trivial, f_128, by rw [ht]; exact hP9, hD9⟩, hS.F ht⟩) hS.2.2 dX8_append_49
set_option maxHeartbeats 4000000 in
set_option maxRecDepth 100000 in
theorem c_X8_append_12 (l : Launch) (D : va_G) (g : Nat → ClassId) (sz : Nat) (tp : Nat) (p0 : Int32) (tp_bytes : Nat) (f : Nat → Int32) : Met l yX8_append (.code yX8_append cX8_append 3 none :: wsL_law) ({ frames := 0, cells := 0, slots := 0, locals := 0 }) (va_Pc [.ref tp, .int p0] (fun U => U.heap.size = sz ∧ va_P D vwCl [(tp, .inr (8, [.ref tp_bytes, .int 12])), (tp_bytes, .inl (g 0, 440, .inl f))] U.heap ∧ va_K D vwCl (TY g) U ∧ va_D (fun _ => True) [(tp, .inr (8, [.ref tp_bytes, .int 12])), (tp_bytes, .inl (g 0, 440, .inl f))])) (va_Qv (fun (_ : Unit) => True) (fun _ t => ∃ ff : Nat → Int32, va_P D vwCl [(tp, .inr (8, [.ref tp_bytes, .int 16])), (tp_bytes, .inl (g 0, 440, .inl ff))] t.heap ∧ va_D (va_A [(tp, .inr (8, [.ref tp_bytes, .int 12])), (tp_bytes, .inl (g 0, 440, .inl f))] sz) [(tp, .inr (8, [.ref tp_bytes, .int 16])), (tp_bytes, .inl (g 0, 440, .inl ff))]) (va_A [(tp, .inr (8, [.ref tp_bytes, .int 12])), (tp_bytes, .inl (g 0, 440, .inl f))] sz)) 0 0 (va_A [(tp, .inr (8, [.ref tp_bytes, .int 12])), (tp_bytes, .inl (g 0, 440, .inl f))] sz) := by
  refine Met.ofW (cc := cX8_append) (maxL := 3) (ret := none) (by decide) rfl ?_
  intro p e s m args below meth c s₁ B hml hv
  obtain ⟨rfl, hsz, hP, hK, hD0⟩ := hv
  have hx := B.exec
  have hb := B.bytes
  have hr := B.returns
  have hts0 := atoms_spec (ws := (.code yX8_append cX8_append 3 none :: wsL_law)) B.pre
  have hts : ∀ w ∈ wsL_law, w.before _ s = true := fun w h => hts0 w (List.mem_cons_of_mem _ h)
  have hown : s.vm.findClass RX8 = some m.cls := findClass_of_methodNamed B.named
  have hlocks := B.notSynchronized
  subst hsz
  have hD := hD0.self (sz := s.heap.size)
  generalize hAe : va_A [(tp, .inr (8, [.ref tp_bytes, .int 12])), (tp_bytes, .inl (g 0, 440, .inl f))] s.heap.size = A at hD ⊢
  have hA : ∀ q : Nat, s.heap.size ≤ q → A q := fun q h => by rw [← hAe]; exact Or.inr h
  have hS : va_S A s.heap s.heap [] := va_S.rf
  have hP : va_P D vwCl [(tp, .inr (8, [.ref tp_bytes, .int 12])), (tp_bytes, .inl (g 0, 440, .inl f))] s.heap := hP
  have hl := lv_entry ([.ref tp, .int p0]) (n := 3) (Nat.le_of_ble_eq_true rfl)
  rw [lg_entry_eq]
  generalize (lg_sl ([.ref tp, .int p0]) ++ List.replicate (3 - (lg_sl ([.ref tp, .int p0])).length) Slot.unset).toArray = ls at hl ⊢
  have hl : lv_has ls 3 [(0, .ref tp), (1, .int p0)] := hl
  refine lv_bipush (v := 24) hx hb dX8_append_0 (by decide) ?_
  refine lv_istore_n (lv' := [(2, .int 24), (0, .ref tp), (1, .int p0)]) hx hb dX8_append_2 rfl hl (by decide) rfl (fun ls hl => ?_)
  refine lv_iload_n hx hb dX8_append_3 rfl (lv_at hl 0 rfl) ?_
  refine lv_if_lt (tgt := 49) hx hb dX8_append_4 (by decide) (fun h9 => absurd h9 (by decide)) (fun _ => ?_)
  refine lv_aload_n hx hb dX8_append_7 rfl (lv_at hl 1 rfl) ?_
  refine va_get (D := D) (ci := 8) (v := .int 12) (C := RX8) (T := TX8) (N := 2) hx hb hts inlX8 hown hK hP 0 rfl rfl 1 (by decide) (hts (Cond.fieldLink RX8 15 "ChanceRings$Tape" "length" "I") qw_31) (fun _ h9 => h9) rfl dX8_append_8 ?_
  refine lv_sipush (v := 440) hx hb dX8_append_11 (by decide) ?_
  refine lv_icmp_ge (tgt := 43) hx hb dX8_append_14 (by decide) (fun h9 => absurd h9 (by decide)) (fun _ => ?_)
  refine lv_aload_n hx hb dX8_append_17 rfl (lv_at hl 1 rfl) ?_
  refine va_get (D := D) (ci := 8) (v := .ref tp_bytes) (C := RX8) (T := TX8) (N := 2) hx hb hts inlX8 hown hK hP 0 rfl rfl 0 (by decide) (hts (Cond.fieldLink RX8 9 "ChanceRings$Tape" "bytes" "[I") qw_151) (fun _ h9 => h9) rfl dX8_append_18 ?_
  refine lv_aload_n hx hb dX8_append_21 rfl (lv_at hl 1 rfl) ?_
  refine va_get (D := D) (ci := 8) (v := .int 12) (C := RX8) (T := TX8) (N := 2) hx hb hts inlX8 hown hK hP 0 rfl rfl 1 (by decide) (hts (Cond.fieldLink RX8 15 "ChanceRings$Tape" "length" "I") qw_31) (fun _ h9 => h9) rfl dX8_append_22 ?_
  refine lv_iload_n hx hb dX8_append_25 rfl (lv_at hl 2 rfl) ?_
  refine lv_iload_n hx hb dX8_append_26 rfl (lv_at hl 0 rfl) ?_
  refine lv_iushr (v := ((p0 : Int32).toUInt32 >>> ((24 : Int32).toUInt32 &&& Int32.toUInt32 31)).toInt32) hx hb dX8_append_27 rfl ?_
  refine lv_sipush (v := 255) hx hb dX8_append_28 (by decide) ?_
  refine lv_iand hx hb dX8_append_31 ?_
  refine va_iast hx hb hK hP hD hS 1 0 rfl rfl (tz_in (by decide +kernel)) dX8_append_32 (fun H locs hP hD hS => ?_)
  obtain ⟨f_129, hP, hD⟩ : ∃ FX : Nat → Int32, va_P D vwCl [(tp, .inr (8, [.ref tp_bytes, .int 12])), (tp_bytes, .inl (g 0, 440, .inl FX))] H ∧ va_D A [(tp, .inr (8, [.ref tp_bytes, .int 12])), (tp_bytes, .inl (g 0, 440, .inl FX))] := ⟨_, hP, hD⟩
  have hP : va_P D vwCl [(tp, .inr (8, [.ref tp_bytes, .int 12])), (tp_bytes, .inl (g 0, 440, .inl f_129))] H := hP
  have hD : va_D A [(tp, .inr (8, [.ref tp_bytes, .int 12])), (tp_bytes, .inl (g 0, 440, .inl f_129))] := hD
  refine lv_aload_n hx hb dX8_append_33 rfl (lv_at hl 1 rfl) ?_
  refine lv_dup hx hb dX8_append_34 rfl ?_
  refine va_get (D := D) (ci := 8) (v := .int 12) (C := RX8) (T := TX8) (N := 2) hx hb hts inlX8 hown hK hP 0 rfl rfl 1 (by decide) (hts (Cond.fieldLink RX8 15 "ChanceRings$Tape" "length" "I") qw_31) (fun _ h9 => h9) rfl dX8_append_35 ?_
  refine lv_iconst (v := 1) hx hb dX8_append_38 (by decide) ?_
  refine lv_iadd hx hb dX8_append_39 ?_
  refine tz_i (y := 13) (by decide +kernel) ?_
  refine va_put (D := D) (ci := 8) (v := .int 13) (ty := .int) (C := RX8) (T := TX8) (N := 2) hx hb hts inlX8 tyX8 tyX8_ok nmX8 hown hK hP hD hS 0 rfl rfl 1 (by decide) (hts (Cond.fieldLink RX8 15 "ChanceRings$Tape" "length" "I") qw_31) (fun _ h9 => h9) rfl (by decide +kernel) rfl rfl (Nat.le_of_ble_eq_true rfl) dX8_append_40 (fun H locs hP hD hS => ?_)
  have hP : va_P D vwCl [(tp, .inr (8, [.ref tp_bytes, .int 13])), (tp_bytes, .inl (g 0, 440, .inl f_129))] H := hP
  have hD : va_D A [(tp, .inr (8, [.ref tp_bytes, .int 13])), (tp_bytes, .inl (g 0, 440, .inl f_129))] := hD
  refine lv_iinc (v := 16) (lv' := [(2, .int 16), (0, .ref tp), (1, .int p0)]) hx hb dX8_append_43 hl (k := 0) rfl (by decide) (by decide) rfl (fun ls hl => ?_)
  refine lv_goto (tgt := 3) hx hb dX8_append_46 (by decide) ?_
  refine lv_iload_n hx hb dX8_append_3 rfl (lv_at hl 0 rfl) ?_
  refine lv_if_lt (tgt := 49) hx hb dX8_append_4 (by decide) (fun h9 => absurd h9 (by decide)) (fun _ => ?_)
  refine lv_aload_n hx hb dX8_append_7 rfl (lv_at hl 1 rfl) ?_
  refine va_get (D := D) (ci := 8) (v := .int 13) (C := RX8) (T := TX8) (N := 2) hx hb hts inlX8 hown hK hP 0 rfl rfl 1 (by decide) (hts (Cond.fieldLink RX8 15 "ChanceRings$Tape" "length" "I") qw_31) (fun _ h9 => h9) rfl dX8_append_8 ?_
  refine lv_sipush (v := 440) hx hb dX8_append_11 (by decide) ?_
  refine lv_icmp_ge (tgt := 43) hx hb dX8_append_14 (by decide) (fun h9 => absurd h9 (by decide)) (fun _ => ?_)
  refine lv_aload_n hx hb dX8_append_17 rfl (lv_at hl 1 rfl) ?_
  refine va_get (D := D) (ci := 8) (v := .ref tp_bytes) (C := RX8) (T := TX8) (N := 2) hx hb hts inlX8 hown hK hP 0 rfl rfl 0 (by decide) (hts (Cond.fieldLink RX8 9 "ChanceRings$Tape" "bytes" "[I") qw_151) (fun _ h9 => h9) rfl dX8_append_18 ?_
  refine lv_aload_n hx hb dX8_append_21 rfl (lv_at hl 1 rfl) ?_
  refine va_get (D := D) (ci := 8) (v := .int 13) (C := RX8) (T := TX8) (N := 2) hx hb hts inlX8 hown hK hP 0 rfl rfl 1 (by decide) (hts (Cond.fieldLink RX8 15 "ChanceRings$Tape" "length" "I") qw_31) (fun _ h9 => h9) rfl dX8_append_22 ?_
  refine lv_iload_n hx hb dX8_append_25 rfl (lv_at hl 2 rfl) ?_
  refine lv_iload_n hx hb dX8_append_26 rfl (lv_at hl 0 rfl) ?_
  refine lv_iushr (v := ((p0 : Int32).toUInt32 >>> ((16 : Int32).toUInt32 &&& Int32.toUInt32 31)).toInt32) hx hb dX8_append_27 rfl ?_
  refine lv_sipush (v := 255) hx hb dX8_append_28 (by decide) ?_
  refine lv_iand hx hb dX8_append_31 ?_
  refine va_iast hx hb hK hP hD hS 1 0 rfl rfl (tz_in (by decide +kernel)) dX8_append_32 (fun H locs hP hD hS => ?_)
  obtain ⟨f_130, hP, hD⟩ : ∃ FX : Nat → Int32, va_P D vwCl [(tp, .inr (8, [.ref tp_bytes, .int 13])), (tp_bytes, .inl (g 0, 440, .inl FX))] H ∧ va_D A [(tp, .inr (8, [.ref tp_bytes, .int 13])), (tp_bytes, .inl (g 0, 440, .inl FX))] := ⟨_, hP, hD⟩
  have hP : va_P D vwCl [(tp, .inr (8, [.ref tp_bytes, .int 13])), (tp_bytes, .inl (g 0, 440, .inl f_130))] H := hP
  have hD : va_D A [(tp, .inr (8, [.ref tp_bytes, .int 13])), (tp_bytes, .inl (g 0, 440, .inl f_130))] := hD
  refine lv_aload_n hx hb dX8_append_33 rfl (lv_at hl 1 rfl) ?_
  refine lv_dup hx hb dX8_append_34 rfl ?_
  refine va_get (D := D) (ci := 8) (v := .int 13) (C := RX8) (T := TX8) (N := 2) hx hb hts inlX8 hown hK hP 0 rfl rfl 1 (by decide) (hts (Cond.fieldLink RX8 15 "ChanceRings$Tape" "length" "I") qw_31) (fun _ h9 => h9) rfl dX8_append_35 ?_
  refine lv_iconst (v := 1) hx hb dX8_append_38 (by decide) ?_
  refine lv_iadd hx hb dX8_append_39 ?_
  refine tz_i (y := 14) (by decide +kernel) ?_
  refine va_put (D := D) (ci := 8) (v := .int 14) (ty := .int) (C := RX8) (T := TX8) (N := 2) hx hb hts inlX8 tyX8 tyX8_ok nmX8 hown hK hP hD hS 0 rfl rfl 1 (by decide) (hts (Cond.fieldLink RX8 15 "ChanceRings$Tape" "length" "I") qw_31) (fun _ h9 => h9) rfl (by decide +kernel) rfl rfl (Nat.le_of_ble_eq_true rfl) dX8_append_40 (fun H locs hP hD hS => ?_)
  have hP : va_P D vwCl [(tp, .inr (8, [.ref tp_bytes, .int 14])), (tp_bytes, .inl (g 0, 440, .inl f_130))] H := hP
  have hD : va_D A [(tp, .inr (8, [.ref tp_bytes, .int 14])), (tp_bytes, .inl (g 0, 440, .inl f_130))] := hD
  refine lv_iinc (v := 8) (lv' := [(2, .int 8), (0, .ref tp), (1, .int p0)]) hx hb dX8_append_43 hl (k := 0) rfl (by decide) (by decide) rfl (fun ls hl => ?_)
  refine lv_goto (tgt := 3) hx hb dX8_append_46 (by decide) ?_
  refine lv_iload_n hx hb dX8_append_3 rfl (lv_at hl 0 rfl) ?_
  refine lv_if_lt (tgt := 49) hx hb dX8_append_4 (by decide) (fun h9 => absurd h9 (by decide)) (fun _ => ?_)
  refine lv_aload_n hx hb dX8_append_7 rfl (lv_at hl 1 rfl) ?_
  refine va_get (D := D) (ci := 8) (v := .int 14) (C := RX8) (T := TX8) (N := 2) hx hb hts inlX8 hown hK hP 0 rfl rfl 1 (by decide) (hts (Cond.fieldLink RX8 15 "ChanceRings$Tape" "length" "I") qw_31) (fun _ h9 => h9) rfl dX8_append_8 ?_
  refine lv_sipush (v := 440) hx hb dX8_append_11 (by decide) ?_
  refine lv_icmp_ge (tgt := 43) hx hb dX8_append_14 (by decide) (fun h9 => absurd h9 (by decide)) (fun _ => ?_)
  refine lv_aload_n hx hb dX8_append_17 rfl (lv_at hl 1 rfl) ?_
  refine va_get (D := D) (ci := 8) (v := .ref tp_bytes) (C := RX8) (T := TX8) (N := 2) hx hb hts inlX8 hown hK hP 0 rfl rfl 0 (by decide) (hts (Cond.fieldLink RX8 9 "ChanceRings$Tape" "bytes" "[I") qw_151) (fun _ h9 => h9) rfl dX8_append_18 ?_
  refine lv_aload_n hx hb dX8_append_21 rfl (lv_at hl 1 rfl) ?_
  refine va_get (D := D) (ci := 8) (v := .int 14) (C := RX8) (T := TX8) (N := 2) hx hb hts inlX8 hown hK hP 0 rfl rfl 1 (by decide) (hts (Cond.fieldLink RX8 15 "ChanceRings$Tape" "length" "I") qw_31) (fun _ h9 => h9) rfl dX8_append_22 ?_
  refine lv_iload_n hx hb dX8_append_25 rfl (lv_at hl 2 rfl) ?_
  refine lv_iload_n hx hb dX8_append_26 rfl (lv_at hl 0 rfl) ?_
  refine lv_iushr (v := ((p0 : Int32).toUInt32 >>> ((8 : Int32).toUInt32 &&& Int32.toUInt32 31)).toInt32) hx hb dX8_append_27 rfl ?_
  refine lv_sipush (v := 255) hx hb dX8_append_28 (by decide) ?_
  refine lv_iand hx hb dX8_append_31 ?_
  refine va_iast hx hb hK hP hD hS 1 0 rfl rfl (tz_in (by decide +kernel)) dX8_append_32 (fun H locs hP hD hS => ?_)
  obtain ⟨f_131, hP, hD⟩ : ∃ FX : Nat → Int32, va_P D vwCl [(tp, .inr (8, [.ref tp_bytes, .int 14])), (tp_bytes, .inl (g 0, 440, .inl FX))] H ∧ va_D A [(tp, .inr (8, [.ref tp_bytes, .int 14])), (tp_bytes, .inl (g 0, 440, .inl FX))] := ⟨_, hP, hD⟩
  have hP : va_P D vwCl [(tp, .inr (8, [.ref tp_bytes, .int 14])), (tp_bytes, .inl (g 0, 440, .inl f_131))] H := hP
  have hD : va_D A [(tp, .inr (8, [.ref tp_bytes, .int 14])), (tp_bytes, .inl (g 0, 440, .inl f_131))] := hD
  refine lv_aload_n hx hb dX8_append_33 rfl (lv_at hl 1 rfl) ?_
  refine lv_dup hx hb dX8_append_34 rfl ?_
  refine va_get (D := D) (ci := 8) (v := .int 14) (C := RX8) (T := TX8) (N := 2) hx hb hts inlX8 hown hK hP 0 rfl rfl 1 (by decide) (hts (Cond.fieldLink RX8 15 "ChanceRings$Tape" "length" "I") qw_31) (fun _ h9 => h9) rfl dX8_append_35 ?_
  refine lv_iconst (v := 1) hx hb dX8_append_38 (by decide) ?_
  refine lv_iadd hx hb dX8_append_39 ?_
  refine tz_i (y := 15) (by decide +kernel) ?_
  refine va_put (D := D) (ci := 8) (v := .int 15) (ty := .int) (C := RX8) (T := TX8) (N := 2) hx hb hts inlX8 tyX8 tyX8_ok nmX8 hown hK hP hD hS 0 rfl rfl 1 (by decide) (hts (Cond.fieldLink RX8 15 "ChanceRings$Tape" "length" "I") qw_31) (fun _ h9 => h9) rfl (by decide +kernel) rfl rfl (Nat.le_of_ble_eq_true rfl) dX8_append_40 (fun H locs hP hD hS => ?_)
  have hP : va_P D vwCl [(tp, .inr (8, [.ref tp_bytes, .int 15])), (tp_bytes, .inl (g 0, 440, .inl f_131))] H := hP
  have hD : va_D A [(tp, .inr (8, [.ref tp_bytes, .int 15])), (tp_bytes, .inl (g 0, 440, .inl f_131))] := hD
  refine lv_iinc (v := 0) (lv' := [(2, .int 0), (0, .ref tp), (1, .int p0)]) hx hb dX8_append_43 hl (k := 0) rfl (by decide) (by decide) rfl (fun ls hl => ?_)
  refine lv_goto (tgt := 3) hx hb dX8_append_46 (by decide) ?_
  refine lv_iload_n hx hb dX8_append_3 rfl (lv_at hl 0 rfl) ?_
  refine lv_if_lt (tgt := 49) hx hb dX8_append_4 (by decide) (fun h9 => absurd h9 (by decide)) (fun _ => ?_)
  refine lv_aload_n hx hb dX8_append_7 rfl (lv_at hl 1 rfl) ?_
  refine va_get (D := D) (ci := 8) (v := .int 15) (C := RX8) (T := TX8) (N := 2) hx hb hts inlX8 hown hK hP 0 rfl rfl 1 (by decide) (hts (Cond.fieldLink RX8 15 "ChanceRings$Tape" "length" "I") qw_31) (fun _ h9 => h9) rfl dX8_append_8 ?_
  refine lv_sipush (v := 440) hx hb dX8_append_11 (by decide) ?_
  refine lv_icmp_ge (tgt := 43) hx hb dX8_append_14 (by decide) (fun h9 => absurd h9 (by decide)) (fun _ => ?_)
  refine lv_aload_n hx hb dX8_append_17 rfl (lv_at hl 1 rfl) ?_
  refine va_get (D := D) (ci := 8) (v := .ref tp_bytes) (C := RX8) (T := TX8) (N := 2) hx hb hts inlX8 hown hK hP 0 rfl rfl 0 (by decide) (hts (Cond.fieldLink RX8 9 "ChanceRings$Tape" "bytes" "[I") qw_151) (fun _ h9 => h9) rfl dX8_append_18 ?_
  refine lv_aload_n hx hb dX8_append_21 rfl (lv_at hl 1 rfl) ?_
  refine va_get (D := D) (ci := 8) (v := .int 15) (C := RX8) (T := TX8) (N := 2) hx hb hts inlX8 hown hK hP 0 rfl rfl 1 (by decide) (hts (Cond.fieldLink RX8 15 "ChanceRings$Tape" "length" "I") qw_31) (fun _ h9 => h9) rfl dX8_append_22 ?_
  refine lv_iload_n hx hb dX8_append_25 rfl (lv_at hl 2 rfl) ?_
  refine lv_iload_n hx hb dX8_append_26 rfl (lv_at hl 0 rfl) ?_
  refine lv_iushr (v := ((p0 : Int32).toUInt32 >>> ((0 : Int32).toUInt32 &&& Int32.toUInt32 31)).toInt32) hx hb dX8_append_27 rfl ?_
  refine lv_sipush (v := 255) hx hb dX8_append_28 (by decide) ?_
  refine lv_iand hx hb dX8_append_31 ?_
  refine va_iast hx hb hK hP hD hS 1 0 rfl rfl (tz_in (by decide +kernel)) dX8_append_32 (fun H locs hP hD hS => ?_)
  obtain ⟨f_132, hP, hD⟩ : ∃ FX : Nat → Int32, va_P D vwCl [(tp, .inr (8, [.ref tp_bytes, .int 15])), (tp_bytes, .inl (g 0, 440, .inl FX))] H ∧ va_D A [(tp, .inr (8, [.ref tp_bytes, .int 15])), (tp_bytes, .inl (g 0, 440, .inl FX))] := ⟨_, hP, hD⟩
  have hP : va_P D vwCl [(tp, .inr (8, [.ref tp_bytes, .int 15])), (tp_bytes, .inl (g 0, 440, .inl f_132))] H := hP
  have hD : va_D A [(tp, .inr (8, [.ref tp_bytes, .int 15])), (tp_bytes, .inl (g 0, 440, .inl f_132))] := hD
  refine lv_aload_n hx hb dX8_append_33 rfl (lv_at hl 1 rfl) ?_
  refine lv_dup hx hb dX8_append_34 rfl ?_
  refine va_get (D := D) (ci := 8) (v := .int 15) (C := RX8) (T := TX8) (N := 2) hx hb hts inlX8 hown hK hP 0 rfl rfl 1 (by decide) (hts (Cond.fieldLink RX8 15 "ChanceRings$Tape" "length" "I") qw_31) (fun _ h9 => h9) rfl dX8_append_35 ?_
  refine lv_iconst (v := 1) hx hb dX8_append_38 (by decide) ?_
  refine lv_iadd hx hb dX8_append_39 ?_
  refine tz_i (y := 16) (by decide +kernel) ?_
  refine va_put (D := D) (ci := 8) (v := .int 16) (ty := .int) (C := RX8) (T := TX8) (N := 2) hx hb hts inlX8 tyX8 tyX8_ok nmX8 hown hK hP hD hS 0 rfl rfl 1 (by decide) (hts (Cond.fieldLink RX8 15 "ChanceRings$Tape" "length" "I") qw_31) (fun _ h9 => h9) rfl (by decide +kernel) rfl rfl (Nat.le_of_ble_eq_true rfl) dX8_append_40 (fun H locs hP hD hS => ?_)
  have hP : va_P D vwCl [(tp, .inr (8, [.ref tp_bytes, .int 16])), (tp_bytes, .inl (g 0, 440, .inl f_132))] H := hP
  have hD : va_D A [(tp, .inr (8, [.ref tp_bytes, .int 16])), (tp_bytes, .inl (g 0, 440, .inl f_132))] := hD
  refine lv_iinc (v := (-8)) (lv' := [(2, .int (-8)), (0, .ref tp), (1, .int p0)]) hx hb dX8_append_43 hl (k := 0) rfl (by decide) (by decide) rfl (fun ls hl => ?_)
  refine lv_goto (tgt := 3) hx hb dX8_append_46 (by decide) ?_
  refine lv_iload_n hx hb dX8_append_3 rfl (lv_at hl 0 rfl) ?_
  refine lv_if_lt (tgt := 49) hx hb dX8_append_4 (by decide) (fun _ => ?_) (fun h9 => (h9 (by decide)).elim)
  have hP9 := hP.sub (ws' := [(tp, .inr (8, [.ref tp_bytes, .int 16])), (tp_bytes, .inl (g 0, 440, .inl f_132))]) [0, 1] rfl
  have hD9 := hD.sub (ws' := [(tp, .inr (8, [.ref tp_bytes, .int 16])), (tp_bytes, .inl (g 0, 440, .inl f_132))]) [0, 1] (by decide) rfl
  exact W.vret hx hb hr (fun t ht hW => ⟨⟨(), rfl, trivial, f_132, by rw [ht]; exact hP9, hD9⟩, hS.F ht⟩) hS.2.2 dX8_append_49
set_option maxHeartbeats 4000000 in
set_option maxRecDepth 100000 in
theorem c_X8_append_16 (l : Launch) (D : va_G) (g : Nat → ClassId) (sz : Nat) (tp : Nat) (p0 : Int32) (tp_bytes : Nat) (f : Nat → Int32) : Met l yX8_append (.code yX8_append cX8_append 3 none :: wsL_law) ({ frames := 0, cells := 0, slots := 0, locals := 0 }) (va_Pc [.ref tp, .int p0] (fun U => U.heap.size = sz ∧ va_P D vwCl [(tp, .inr (8, [.ref tp_bytes, .int 16])), (tp_bytes, .inl (g 0, 440, .inl f))] U.heap ∧ va_K D vwCl (TY g) U ∧ va_D (fun _ => True) [(tp, .inr (8, [.ref tp_bytes, .int 16])), (tp_bytes, .inl (g 0, 440, .inl f))])) (va_Qv (fun (_ : Unit) => True) (fun _ t => ∃ ff : Nat → Int32, va_P D vwCl [(tp, .inr (8, [.ref tp_bytes, .int 20])), (tp_bytes, .inl (g 0, 440, .inl ff))] t.heap ∧ va_D (va_A [(tp, .inr (8, [.ref tp_bytes, .int 16])), (tp_bytes, .inl (g 0, 440, .inl f))] sz) [(tp, .inr (8, [.ref tp_bytes, .int 20])), (tp_bytes, .inl (g 0, 440, .inl ff))]) (va_A [(tp, .inr (8, [.ref tp_bytes, .int 16])), (tp_bytes, .inl (g 0, 440, .inl f))] sz)) 0 0 (va_A [(tp, .inr (8, [.ref tp_bytes, .int 16])), (tp_bytes, .inl (g 0, 440, .inl f))] sz) := by
  refine Met.ofW (cc := cX8_append) (maxL := 3) (ret := none) (by decide) rfl ?_
  intro p e s m args below meth c s₁ B hml hv
  obtain ⟨rfl, hsz, hP, hK, hD0⟩ := hv
  have hx := B.exec
  have hb := B.bytes
  have hr := B.returns
  have hts0 := atoms_spec (ws := (.code yX8_append cX8_append 3 none :: wsL_law)) B.pre
  have hts : ∀ w ∈ wsL_law, w.before _ s = true := fun w h => hts0 w (List.mem_cons_of_mem _ h)
  have hown : s.vm.findClass RX8 = some m.cls := findClass_of_methodNamed B.named
  have hlocks := B.notSynchronized
  subst hsz
  have hD := hD0.self (sz := s.heap.size)
  generalize hAe : va_A [(tp, .inr (8, [.ref tp_bytes, .int 16])), (tp_bytes, .inl (g 0, 440, .inl f))] s.heap.size = A at hD ⊢
  have hA : ∀ q : Nat, s.heap.size ≤ q → A q := fun q h => by rw [← hAe]; exact Or.inr h
  have hS : va_S A s.heap s.heap [] := va_S.rf
  have hP : va_P D vwCl [(tp, .inr (8, [.ref tp_bytes, .int 16])), (tp_bytes, .inl (g 0, 440, .inl f))] s.heap := hP
  have hl := lv_entry ([.ref tp, .int p0]) (n := 3) (Nat.le_of_ble_eq_true rfl)
  rw [lg_entry_eq]
  generalize (lg_sl ([.ref tp, .int p0]) ++ List.replicate (3 - (lg_sl ([.ref tp, .int p0])).length) Slot.unset).toArray = ls at hl ⊢
  have hl : lv_has ls 3 [(0, .ref tp), (1, .int p0)] := hl
  refine lv_bipush (v := 24) hx hb dX8_append_0 (by decide) ?_
  refine lv_istore_n (lv' := [(2, .int 24), (0, .ref tp), (1, .int p0)]) hx hb dX8_append_2 rfl hl (by decide) rfl (fun ls hl => ?_)
  refine lv_iload_n hx hb dX8_append_3 rfl (lv_at hl 0 rfl) ?_
  refine lv_if_lt (tgt := 49) hx hb dX8_append_4 (by decide) (fun h9 => absurd h9 (by decide)) (fun _ => ?_)
  refine lv_aload_n hx hb dX8_append_7 rfl (lv_at hl 1 rfl) ?_
  refine va_get (D := D) (ci := 8) (v := .int 16) (C := RX8) (T := TX8) (N := 2) hx hb hts inlX8 hown hK hP 0 rfl rfl 1 (by decide) (hts (Cond.fieldLink RX8 15 "ChanceRings$Tape" "length" "I") qw_31) (fun _ h9 => h9) rfl dX8_append_8 ?_
  refine lv_sipush (v := 440) hx hb dX8_append_11 (by decide) ?_
  refine lv_icmp_ge (tgt := 43) hx hb dX8_append_14 (by decide) (fun h9 => absurd h9 (by decide)) (fun _ => ?_)
  refine lv_aload_n hx hb dX8_append_17 rfl (lv_at hl 1 rfl) ?_
  refine va_get (D := D) (ci := 8) (v := .ref tp_bytes) (C := RX8) (T := TX8) (N := 2) hx hb hts inlX8 hown hK hP 0 rfl rfl 0 (by decide) (hts (Cond.fieldLink RX8 9 "ChanceRings$Tape" "bytes" "[I") qw_151) (fun _ h9 => h9) rfl dX8_append_18 ?_
  refine lv_aload_n hx hb dX8_append_21 rfl (lv_at hl 1 rfl) ?_
  refine va_get (D := D) (ci := 8) (v := .int 16) (C := RX8) (T := TX8) (N := 2) hx hb hts inlX8 hown hK hP 0 rfl rfl 1 (by decide) (hts (Cond.fieldLink RX8 15 "ChanceRings$Tape" "length" "I") qw_31) (fun _ h9 => h9) rfl dX8_append_22 ?_
  refine lv_iload_n hx hb dX8_append_25 rfl (lv_at hl 2 rfl) ?_
  refine lv_iload_n hx hb dX8_append_26 rfl (lv_at hl 0 rfl) ?_
  refine lv_iushr (v := ((p0 : Int32).toUInt32 >>> ((24 : Int32).toUInt32 &&& Int32.toUInt32 31)).toInt32) hx hb dX8_append_27 rfl ?_
  refine lv_sipush (v := 255) hx hb dX8_append_28 (by decide) ?_
  refine lv_iand hx hb dX8_append_31 ?_
  refine va_iast hx hb hK hP hD hS 1 0 rfl rfl (tz_in (by decide +kernel)) dX8_append_32 (fun H locs hP hD hS => ?_)
  obtain ⟨f_133, hP, hD⟩ : ∃ FX : Nat → Int32, va_P D vwCl [(tp, .inr (8, [.ref tp_bytes, .int 16])), (tp_bytes, .inl (g 0, 440, .inl FX))] H ∧ va_D A [(tp, .inr (8, [.ref tp_bytes, .int 16])), (tp_bytes, .inl (g 0, 440, .inl FX))] := ⟨_, hP, hD⟩
  have hP : va_P D vwCl [(tp, .inr (8, [.ref tp_bytes, .int 16])), (tp_bytes, .inl (g 0, 440, .inl f_133))] H := hP
  have hD : va_D A [(tp, .inr (8, [.ref tp_bytes, .int 16])), (tp_bytes, .inl (g 0, 440, .inl f_133))] := hD
  refine lv_aload_n hx hb dX8_append_33 rfl (lv_at hl 1 rfl) ?_
  refine lv_dup hx hb dX8_append_34 rfl ?_
  refine va_get (D := D) (ci := 8) (v := .int 16) (C := RX8) (T := TX8) (N := 2) hx hb hts inlX8 hown hK hP 0 rfl rfl 1 (by decide) (hts (Cond.fieldLink RX8 15 "ChanceRings$Tape" "length" "I") qw_31) (fun _ h9 => h9) rfl dX8_append_35 ?_
  refine lv_iconst (v := 1) hx hb dX8_append_38 (by decide) ?_
  refine lv_iadd hx hb dX8_append_39 ?_
  refine tz_i (y := 17) (by decide +kernel) ?_
  refine va_put (D := D) (ci := 8) (v := .int 17) (ty := .int) (C := RX8) (T := TX8) (N := 2) hx hb hts inlX8 tyX8 tyX8_ok nmX8 hown hK hP hD hS 0 rfl rfl 1 (by decide) (hts (Cond.fieldLink RX8 15 "ChanceRings$Tape" "length" "I") qw_31) (fun _ h9 => h9) rfl (by decide +kernel) rfl rfl (Nat.le_of_ble_eq_true rfl) dX8_append_40 (fun H locs hP hD hS => ?_)
  have hP : va_P D vwCl [(tp, .inr (8, [.ref tp_bytes, .int 17])), (tp_bytes, .inl (g 0, 440, .inl f_133))] H := hP
  have hD : va_D A [(tp, .inr (8, [.ref tp_bytes, .int 17])), (tp_bytes, .inl (g 0, 440, .inl f_133))] := hD
  refine lv_iinc (v := 16) (lv' := [(2, .int 16), (0, .ref tp), (1, .int p0)]) hx hb dX8_append_43 hl (k := 0) rfl (by decide) (by decide) rfl (fun ls hl => ?_)
  refine lv_goto (tgt := 3) hx hb dX8_append_46 (by decide) ?_
  refine lv_iload_n hx hb dX8_append_3 rfl (lv_at hl 0 rfl) ?_
  refine lv_if_lt (tgt := 49) hx hb dX8_append_4 (by decide) (fun h9 => absurd h9 (by decide)) (fun _ => ?_)
  refine lv_aload_n hx hb dX8_append_7 rfl (lv_at hl 1 rfl) ?_
  refine va_get (D := D) (ci := 8) (v := .int 17) (C := RX8) (T := TX8) (N := 2) hx hb hts inlX8 hown hK hP 0 rfl rfl 1 (by decide) (hts (Cond.fieldLink RX8 15 "ChanceRings$Tape" "length" "I") qw_31) (fun _ h9 => h9) rfl dX8_append_8 ?_
  refine lv_sipush (v := 440) hx hb dX8_append_11 (by decide) ?_
  refine lv_icmp_ge (tgt := 43) hx hb dX8_append_14 (by decide) (fun h9 => absurd h9 (by decide)) (fun _ => ?_)
  refine lv_aload_n hx hb dX8_append_17 rfl (lv_at hl 1 rfl) ?_
  refine va_get (D := D) (ci := 8) (v := .ref tp_bytes) (C := RX8) (T := TX8) (N := 2) hx hb hts inlX8 hown hK hP 0 rfl rfl 0 (by decide) (hts (Cond.fieldLink RX8 9 "ChanceRings$Tape" "bytes" "[I") qw_151) (fun _ h9 => h9) rfl dX8_append_18 ?_
  refine lv_aload_n hx hb dX8_append_21 rfl (lv_at hl 1 rfl) ?_
  refine va_get (D := D) (ci := 8) (v := .int 17) (C := RX8) (T := TX8) (N := 2) hx hb hts inlX8 hown hK hP 0 rfl rfl 1 (by decide) (hts (Cond.fieldLink RX8 15 "ChanceRings$Tape" "length" "I") qw_31) (fun _ h9 => h9) rfl dX8_append_22 ?_
  refine lv_iload_n hx hb dX8_append_25 rfl (lv_at hl 2 rfl) ?_
  refine lv_iload_n hx hb dX8_append_26 rfl (lv_at hl 0 rfl) ?_
  refine lv_iushr (v := ((p0 : Int32).toUInt32 >>> ((16 : Int32).toUInt32 &&& Int32.toUInt32 31)).toInt32) hx hb dX8_append_27 rfl ?_
  refine lv_sipush (v := 255) hx hb dX8_append_28 (by decide) ?_
  refine lv_iand hx hb dX8_append_31 ?_
  refine va_iast hx hb hK hP hD hS 1 0 rfl rfl (tz_in (by decide +kernel)) dX8_append_32 (fun H locs hP hD hS => ?_)
  obtain ⟨f_134, hP, hD⟩ : ∃ FX : Nat → Int32, va_P D vwCl [(tp, .inr (8, [.ref tp_bytes, .int 17])), (tp_bytes, .inl (g 0, 440, .inl FX))] H ∧ va_D A [(tp, .inr (8, [.ref tp_bytes, .int 17])), (tp_bytes, .inl (g 0, 440, .inl FX))] := ⟨_, hP, hD⟩
  have hP : va_P D vwCl [(tp, .inr (8, [.ref tp_bytes, .int 17])), (tp_bytes, .inl (g 0, 440, .inl f_134))] H := hP
  have hD : va_D A [(tp, .inr (8, [.ref tp_bytes, .int 17])), (tp_bytes, .inl (g 0, 440, .inl f_134))] := hD
  refine lv_aload_n hx hb dX8_append_33 rfl (lv_at hl 1 rfl) ?_
  refine lv_dup hx hb dX8_append_34 rfl ?_
  refine va_get (D := D) (ci := 8) (v := .int 17) (C := RX8) (T := TX8) (N := 2) hx hb hts inlX8 hown hK hP 0 rfl rfl 1 (by decide) (hts (Cond.fieldLink RX8 15 "ChanceRings$Tape" "length" "I") qw_31) (fun _ h9 => h9) rfl dX8_append_35 ?_
  refine lv_iconst (v := 1) hx hb dX8_append_38 (by decide) ?_
  refine lv_iadd hx hb dX8_append_39 ?_
  refine tz_i (y := 18) (by decide +kernel) ?_
  refine va_put (D := D) (ci := 8) (v := .int 18) (ty := .int) (C := RX8) (T := TX8) (N := 2) hx hb hts inlX8 tyX8 tyX8_ok nmX8 hown hK hP hD hS 0 rfl rfl 1 (by decide) (hts (Cond.fieldLink RX8 15 "ChanceRings$Tape" "length" "I") qw_31) (fun _ h9 => h9) rfl (by decide +kernel) rfl rfl (Nat.le_of_ble_eq_true rfl) dX8_append_40 (fun H locs hP hD hS => ?_)
  have hP : va_P D vwCl [(tp, .inr (8, [.ref tp_bytes, .int 18])), (tp_bytes, .inl (g 0, 440, .inl f_134))] H := hP
  have hD : va_D A [(tp, .inr (8, [.ref tp_bytes, .int 18])), (tp_bytes, .inl (g 0, 440, .inl f_134))] := hD
  refine lv_iinc (v := 8) (lv' := [(2, .int 8), (0, .ref tp), (1, .int p0)]) hx hb dX8_append_43 hl (k := 0) rfl (by decide) (by decide) rfl (fun ls hl => ?_)
  refine lv_goto (tgt := 3) hx hb dX8_append_46 (by decide) ?_
  refine lv_iload_n hx hb dX8_append_3 rfl (lv_at hl 0 rfl) ?_
  refine lv_if_lt (tgt := 49) hx hb dX8_append_4 (by decide) (fun h9 => absurd h9 (by decide)) (fun _ => ?_)
  refine lv_aload_n hx hb dX8_append_7 rfl (lv_at hl 1 rfl) ?_
  refine va_get (D := D) (ci := 8) (v := .int 18) (C := RX8) (T := TX8) (N := 2) hx hb hts inlX8 hown hK hP 0 rfl rfl 1 (by decide) (hts (Cond.fieldLink RX8 15 "ChanceRings$Tape" "length" "I") qw_31) (fun _ h9 => h9) rfl dX8_append_8 ?_
  refine lv_sipush (v := 440) hx hb dX8_append_11 (by decide) ?_
  refine lv_icmp_ge (tgt := 43) hx hb dX8_append_14 (by decide) (fun h9 => absurd h9 (by decide)) (fun _ => ?_)
  refine lv_aload_n hx hb dX8_append_17 rfl (lv_at hl 1 rfl) ?_
  refine va_get (D := D) (ci := 8) (v := .ref tp_bytes) (C := RX8) (T := TX8) (N := 2) hx hb hts inlX8 hown hK hP 0 rfl rfl 0 (by decide) (hts (Cond.fieldLink RX8 9 "ChanceRings$Tape" "bytes" "[I") qw_151) (fun _ h9 => h9) rfl dX8_append_18 ?_
  refine lv_aload_n hx hb dX8_append_21 rfl (lv_at hl 1 rfl) ?_
  refine va_get (D := D) (ci := 8) (v := .int 18) (C := RX8) (T := TX8) (N := 2) hx hb hts inlX8 hown hK hP 0 rfl rfl 1 (by decide) (hts (Cond.fieldLink RX8 15 "ChanceRings$Tape" "length" "I") qw_31) (fun _ h9 => h9) rfl dX8_append_22 ?_
  refine lv_iload_n hx hb dX8_append_25 rfl (lv_at hl 2 rfl) ?_
  refine lv_iload_n hx hb dX8_append_26 rfl (lv_at hl 0 rfl) ?_
  refine lv_iushr (v := ((p0 : Int32).toUInt32 >>> ((8 : Int32).toUInt32 &&& Int32.toUInt32 31)).toInt32) hx hb dX8_append_27 rfl ?_
  refine lv_sipush (v := 255) hx hb dX8_append_28 (by decide) ?_
  refine lv_iand hx hb dX8_append_31 ?_
  refine va_iast hx hb hK hP hD hS 1 0 rfl rfl (tz_in (by decide +kernel)) dX8_append_32 (fun H locs hP hD hS => ?_)
  obtain ⟨f_135, hP, hD⟩ : ∃ FX : Nat → Int32, va_P D vwCl [(tp, .inr (8, [.ref tp_bytes, .int 18])), (tp_bytes, .inl (g 0, 440, .inl FX))] H ∧ va_D A [(tp, .inr (8, [.ref tp_bytes, .int 18])), (tp_bytes, .inl (g 0, 440, .inl FX))] := ⟨_, hP, hD⟩
  have hP : va_P D vwCl [(tp, .inr (8, [.ref tp_bytes, .int 18])), (tp_bytes, .inl (g 0, 440, .inl f_135))] H := hP
  have hD : va_D A [(tp, .inr (8, [.ref tp_bytes, .int 18])), (tp_bytes, .inl (g 0, 440, .inl f_135))] := hD
  refine lv_aload_n hx hb dX8_append_33 rfl (lv_at hl 1 rfl) ?_
  refine lv_dup hx hb dX8_append_34 rfl ?_
  refine va_get (D := D) (ci := 8) (v := .int 18) (C := RX8) (T := TX8) (N := 2) hx hb hts inlX8 hown hK hP 0 rfl rfl 1 (by decide) (hts (Cond.fieldLink RX8 15 "ChanceRings$Tape" "length" "I") qw_31) (fun _ h9 => h9) rfl dX8_append_35 ?_
  refine lv_iconst (v := 1) hx hb dX8_append_38 (by decide) ?_
  refine lv_iadd hx hb dX8_append_39 ?_
  refine tz_i (y := 19) (by decide +kernel) ?_
  refine va_put (D := D) (ci := 8) (v := .int 19) (ty := .int) (C := RX8) (T := TX8) (N := 2) hx hb hts inlX8 tyX8 tyX8_ok nmX8 hown hK hP hD hS 0 rfl rfl 1 (by decide) (hts (Cond.fieldLink RX8 15 "ChanceRings$Tape" "length" "I") qw_31) (fun _ h9 => h9) rfl (by decide +kernel) rfl rfl (Nat.le_of_ble_eq_true rfl) dX8_append_40 (fun H locs hP hD hS => ?_)
  have hP : va_P D vwCl [(tp, .inr (8, [.ref tp_bytes, .int 19])), (tp_bytes, .inl (g 0, 440, .inl f_135))] H := hP
  have hD : va_D A [(tp, .inr (8, [.ref tp_bytes, .int 19])), (tp_bytes, .inl (g 0, 440, .inl f_135))] := hD
  refine lv_iinc (v := 0) (lv' := [(2, .int 0), (0, .ref tp), (1, .int p0)]) hx hb dX8_append_43 hl (k := 0) rfl (by decide) (by decide) rfl (fun ls hl => ?_)
  refine lv_goto (tgt := 3) hx hb dX8_append_46 (by decide) ?_
  refine lv_iload_n hx hb dX8_append_3 rfl (lv_at hl 0 rfl) ?_
  refine lv_if_lt (tgt := 49) hx hb dX8_append_4 (by decide) (fun h9 => absurd h9 (by decide)) (fun _ => ?_)
  refine lv_aload_n hx hb dX8_append_7 rfl (lv_at hl 1 rfl) ?_
  refine va_get (D := D) (ci := 8) (v := .int 19) (C := RX8) (T := TX8) (N := 2) hx hb hts inlX8 hown hK hP 0 rfl rfl 1 (by decide) (hts (Cond.fieldLink RX8 15 "ChanceRings$Tape" "length" "I") qw_31) (fun _ h9 => h9) rfl dX8_append_8 ?_
  refine lv_sipush (v := 440) hx hb dX8_append_11 (by decide) ?_
  refine lv_icmp_ge (tgt := 43) hx hb dX8_append_14 (by decide) (fun h9 => absurd h9 (by decide)) (fun _ => ?_)
  refine lv_aload_n hx hb dX8_append_17 rfl (lv_at hl 1 rfl) ?_
  refine va_get (D := D) (ci := 8) (v := .ref tp_bytes) (C := RX8) (T := TX8) (N := 2) hx hb hts inlX8 hown hK hP 0 rfl rfl 0 (by decide) (hts (Cond.fieldLink RX8 9 "ChanceRings$Tape" "bytes" "[I") qw_151) (fun _ h9 => h9) rfl dX8_append_18 ?_
  refine lv_aload_n hx hb dX8_append_21 rfl (lv_at hl 1 rfl) ?_
  refine va_get (D := D) (ci := 8) (v := .int 19) (C := RX8) (T := TX8) (N := 2) hx hb hts inlX8 hown hK hP 0 rfl rfl 1 (by decide) (hts (Cond.fieldLink RX8 15 "ChanceRings$Tape" "length" "I") qw_31) (fun _ h9 => h9) rfl dX8_append_22 ?_
  refine lv_iload_n hx hb dX8_append_25 rfl (lv_at hl 2 rfl) ?_
  refine lv_iload_n hx hb dX8_append_26 rfl (lv_at hl 0 rfl) ?_
  refine lv_iushr (v := ((p0 : Int32).toUInt32 >>> ((0 : Int32).toUInt32 &&& Int32.toUInt32 31)).toInt32) hx hb dX8_append_27 rfl ?_
  refine lv_sipush (v := 255) hx hb dX8_append_28 (by decide) ?_
  refine lv_iand hx hb dX8_append_31 ?_
  refine va_iast hx hb hK hP hD hS 1 0 rfl rfl (tz_in (by decide +kernel)) dX8_append_32 (fun H locs hP hD hS => ?_)
  obtain ⟨f_136, hP, hD⟩ : ∃ FX : Nat → Int32, va_P D vwCl [(tp, .inr (8, [.ref tp_bytes, .int 19])), (tp_bytes, .inl (g 0, 440, .inl FX))] H ∧ va_D A [(tp, .inr (8, [.ref tp_bytes, .int 19])), (tp_bytes, .inl (g 0, 440, .inl FX))] := ⟨_, hP, hD⟩
  have hP : va_P D vwCl [(tp, .inr (8, [.ref tp_bytes, .int 19])), (tp_bytes, .inl (g 0, 440, .inl f_136))] H := hP
  have hD : va_D A [(tp, .inr (8, [.ref tp_bytes, .int 19])), (tp_bytes, .inl (g 0, 440, .inl f_136))] := hD
  refine lv_aload_n hx hb dX8_append_33 rfl (lv_at hl 1 rfl) ?_
  refine lv_dup hx hb dX8_append_34 rfl ?_
  refine va_get (D := D) (ci := 8) (v := .int 19) (C := RX8) (T := TX8) (N := 2) hx hb hts inlX8 hown hK hP 0 rfl rfl 1 (by decide) (hts (Cond.fieldLink RX8 15 "ChanceRings$Tape" "length" "I") qw_31) (fun _ h9 => h9) rfl dX8_append_35 ?_
  refine lv_iconst (v := 1) hx hb dX8_append_38 (by decide) ?_
  refine lv_iadd hx hb dX8_append_39 ?_
  refine tz_i (y := 20) (by decide +kernel) ?_
  refine va_put (D := D) (ci := 8) (v := .int 20) (ty := .int) (C := RX8) (T := TX8) (N := 2) hx hb hts inlX8 tyX8 tyX8_ok nmX8 hown hK hP hD hS 0 rfl rfl 1 (by decide) (hts (Cond.fieldLink RX8 15 "ChanceRings$Tape" "length" "I") qw_31) (fun _ h9 => h9) rfl (by decide +kernel) rfl rfl (Nat.le_of_ble_eq_true rfl) dX8_append_40 (fun H locs hP hD hS => ?_)
  have hP : va_P D vwCl [(tp, .inr (8, [.ref tp_bytes, .int 20])), (tp_bytes, .inl (g 0, 440, .inl f_136))] H := hP
  have hD : va_D A [(tp, .inr (8, [.ref tp_bytes, .int 20])), (tp_bytes, .inl (g 0, 440, .inl f_136))] := hD
  refine lv_iinc (v := (-8)) (lv' := [(2, .int (-8)), (0, .ref tp), (1, .int p0)]) hx hb dX8_append_43 hl (k := 0) rfl (by decide) (by decide) rfl (fun ls hl => ?_)
  refine lv_goto (tgt := 3) hx hb dX8_append_46 (by decide) ?_
  refine lv_iload_n hx hb dX8_append_3 rfl (lv_at hl 0 rfl) ?_
  refine lv_if_lt (tgt := 49) hx hb dX8_append_4 (by decide) (fun _ => ?_) (fun h9 => (h9 (by decide)).elim)
  have hP9 := hP.sub (ws' := [(tp, .inr (8, [.ref tp_bytes, .int 20])), (tp_bytes, .inl (g 0, 440, .inl f_136))]) [0, 1] rfl
  have hD9 := hD.sub (ws' := [(tp, .inr (8, [.ref tp_bytes, .int 20])), (tp_bytes, .inl (g 0, 440, .inl f_136))]) [0, 1] (by decide) rfl
  exact W.vret hx hb hr (fun t ht hW => ⟨⟨(), rfl, trivial, f_136, by rw [ht]; exact hP9, hD9⟩, hS.F ht⟩) hS.2.2 dX8_append_49
set_option maxHeartbeats 4000000 in
set_option maxRecDepth 100000 in
theorem c_X11_feed (l : Launch) (D : va_G) (g : Nat → ClassId) (sz : Nat) (x : Nat) (p0 : Int32) (p1 : Int32) (p2 : Int32) (p3 : Int32) (p4 : Int32) (tp : Nat) (n : Nat) (dr : Nat) (x_images : Nat) (x_kept : Nat) (rd : Nat) (st : Nat) (tl : Nat) (rg : Nat) (sv : Nat) (oc : Nat) (x_tried : Nat) (lf : Nat) (x_stoppedWays : Nat) (x_stoppedWorth : Nat) (x_withinWorth : Nat) (tp_bytes : Nat) (f : Nat → Int32) : Met l yX11_feed (.code yX11_feed cX11_feed 6 (some .int) :: wsL_law) ({ frames := 1, cells := 0, slots := 0, locals := 22 }) (va_Pc [.ref x, .int p0, .int p1, .int p2, .int p3, .int p4] (fun U => U.heap.size = sz ∧ va_P D vwCl [(x, .inr (11, [.ref tp, .ref n, .ref dr, .ref x_images, .ref x_kept, .ref rd, .ref st, .ref tl, .ref rg, .ref sv, .ref oc, .ref x_tried, .ref lf, .int 0, .ref x_stoppedWays, .ref x_stoppedWorth, .int 0, .ref x_withinWorth])), (tp, .inr (8, [.ref tp_bytes, .int 0])), (tp_bytes, .inl (g 0, 440, .inl f))] U.heap ∧ va_K D vwCl (TY g) U ∧ va_D (fun _ => True) [(x, .inr (11, [.ref tp, .ref n, .ref dr, .ref x_images, .ref x_kept, .ref rd, .ref st, .ref tl, .ref rg, .ref sv, .ref oc, .ref x_tried, .ref lf, .int 0, .ref x_stoppedWays, .ref x_stoppedWorth, .int 0, .ref x_withinWorth])), (tp, .inr (8, [.ref tp_bytes, .int 0])), (tp_bytes, .inl (g 0, 440, .inl f))])) (va_Qi (fun r (_ : Unit) => r = 20) (fun _ _ => True) (va_A [(x, .inr (11, [.ref tp, .ref n, .ref dr, .ref x_images, .ref x_kept, .ref rd, .ref st, .ref tl, .ref rg, .ref sv, .ref oc, .ref x_tried, .ref lf, .int 0, .ref x_stoppedWays, .ref x_stoppedWorth, .int 0, .ref x_withinWorth])), (tp, .inr (8, [.ref tp_bytes, .int 0])), (tp_bytes, .inl (g 0, 440, .inl f))] sz)) 0 0 (va_A [(x, .inr (11, [.ref tp, .ref n, .ref dr, .ref x_images, .ref x_kept, .ref rd, .ref st, .ref tl, .ref rg, .ref sv, .ref oc, .ref x_tried, .ref lf, .int 0, .ref x_stoppedWays, .ref x_stoppedWorth, .int 0, .ref x_withinWorth])), (tp, .inr (8, [.ref tp_bytes, .int 0])), (tp_bytes, .inl (g 0, 440, .inl f))] sz) := by
  refine Met.ofW (cc := cX11_feed) (maxL := 6) (ret := (some .int)) (by decide) rfl ?_
  intro p e s m args below meth c s₁ B hml hv
  obtain ⟨rfl, hsz, hP, hK, hD0⟩ := hv
  have hx := B.exec
  have hb := B.bytes
  have hr := B.returns
  have hts0 := atoms_spec (ws := (.code yX11_feed cX11_feed 6 (some .int) :: wsL_law)) B.pre
  have hts : ∀ w ∈ wsL_law, w.before _ s = true := fun w h => hts0 w (List.mem_cons_of_mem _ h)
  have hown : s.vm.findClass RX11 = some m.cls := findClass_of_methodNamed B.named
  have hlocks := B.notSynchronized
  subst hsz
  have hD := hD0.self (sz := s.heap.size)
  generalize hAe : va_A [(x, .inr (11, [.ref tp, .ref n, .ref dr, .ref x_images, .ref x_kept, .ref rd, .ref st, .ref tl, .ref rg, .ref sv, .ref oc, .ref x_tried, .ref lf, .int 0, .ref x_stoppedWays, .ref x_stoppedWorth, .int 0, .ref x_withinWorth])), (tp, .inr (8, [.ref tp_bytes, .int 0])), (tp_bytes, .inl (g 0, 440, .inl f))] s.heap.size = A at hD ⊢
  have hA : ∀ q : Nat, s.heap.size ≤ q → A q := fun q h => by rw [← hAe]; exact Or.inr h
  have hS : va_S A s.heap s.heap [] := va_S.rf
  have hP : va_P D vwCl [(x, .inr (11, [.ref tp, .ref n, .ref dr, .ref x_images, .ref x_kept, .ref rd, .ref st, .ref tl, .ref rg, .ref sv, .ref oc, .ref x_tried, .ref lf, .int 0, .ref x_stoppedWays, .ref x_stoppedWorth, .int 0, .ref x_withinWorth])), (tp, .inr (8, [.ref tp_bytes, .int 0])), (tp_bytes, .inl (g 0, 440, .inl f))] s.heap := hP
  have hl := lv_entry ([.ref x, .int p0, .int p1, .int p2, .int p3, .int p4]) (n := 6) (Nat.le_of_ble_eq_true rfl)
  rw [lg_entry_eq]
  generalize (lg_sl ([.ref x, .int p0, .int p1, .int p2, .int p3, .int p4]) ++ List.replicate (6 - (lg_sl ([.ref x, .int p0, .int p1, .int p2, .int p3, .int p4])).length) Slot.unset).toArray = ls at hl ⊢
  have hl : lv_has ls 6 [(0, .ref x), (1, .int p0), (2, .int p1), (3, .int p2), (4, .int p3), (5, .int p4)] := hl
  refine lv_aload_n hx hb dX11_feed_0 rfl (lv_at hl 0 rfl) ?_
  refine va_get (D := D) (ci := 11) (v := .ref tp) (C := RX11) (T := TX11) (N := 18) hx hb hts inlX11 hown hK hP 0 rfl rfl 0 (by decide) (hts (Cond.fieldLink RX11 10 "ChanceRings" "tape" "LChanceRings$Tape;") qw_149) (fun _ h9 => h9) rfl dX11_feed_1 ?_
  refine va_get (D := D) (ci := 8) (v := .int 0) (C := RX8) (T := TX8) (N := 2) hx hb hts inlX8 hown hK hP 1 rfl rfl 1 (by decide) (hts (Cond.fieldLink RX11 102 "ChanceRings$Tape" "length" "I") qw_150) (fun _ h9 => h9) rfl dX11_feed_4 ?_
  refine lv_bipush (v := 20) hx hb dX11_feed_7 (by decide) ?_
  refine lv_iadd hx hb dX11_feed_9 ?_
  refine tz_i (y := 20) (by decide +kernel) ?_
  refine lv_sipush (v := 440) hx hb dX11_feed_10 (by decide) ?_
  refine lv_icmp_le (tgt := 18) hx hb dX11_feed_13 (by decide) (fun _ => ?_) (fun h9 => (h9 (by decide)).elim)
  refine lv_aload_n hx hb dX11_feed_18 rfl (lv_at hl 0 rfl) ?_
  refine va_get (D := D) (ci := 11) (v := .ref tp) (C := RX11) (T := TX11) (N := 18) hx hb hts inlX11 hown hK hP 0 rfl rfl 0 (by decide) (hts (Cond.fieldLink RX11 10 "ChanceRings" "tape" "LChanceRings$Tape;") qw_149) (fun _ h9 => h9) rfl dX11_feed_19 ?_
  refine lv_iload_n hx hb dX11_feed_22 rfl (lv_at hl 1 rfl) ?_
  have hPc := hP.sub (ws' := [(tp, .inr (8, [.ref tp_bytes, .int 0])), (tp_bytes, .inl (g 0, 440, .inl f))]) [1, 2] rfl
  have hDc := hD.sub (ws' := [(tp, .inr (8, [.ref tp_bytes, .int 0])), (tp_bytes, .inl (g 0, 440, .inl f))]) [1, 2] (by decide) rfl
  have hFc := va_free (wc := [(tp, .inr (8, [.ref tp_bytes, .int 0])), (tp_bytes, .inl (g 0, 440, .inl f))]) hD hS hA [1, 2] rfl
  refine va_callv (va_runV (As := [.int p0]) (rest := []) ⟨hx, hb, hml, hown, hts⟩ (c_X8_append_0 l D g s.heap.size tp p0 tp_bytes f) (cwV 1 hts (tz_gV qw_152 qw_153 qw_154 qw_155 qw_156) rfl rfl rfl (by decide +kernel) ⟨Nat.le_of_ble_eq_true rfl, Nat.le_of_ble_eq_true rfl⟩) ⟨tz_blQ, va_recv hK hPc (ci := 8) (q0 := 0) rfl rfl, tz_preQ hPc hK hDc⟩ rfl rfl hl.1 rfl (lv_room (Nat.le_of_ble_eq_true rfl)) dX11_feed_23 ⟨Nat.le_of_ble_eq_true rfl, Nat.le_of_ble_eq_true rfl⟩) hS (fun q _ h => hFc q h) hFc (fun u t H1 locs ht hvm hw hB hz1 hk1 hS => ?_)
  obtain ⟨ff_138, hP1, hD1⟩ := hB
  rw [ht] at hP1
  obtain ⟨hP, hD⟩ := va_join (wr := [(x, .inr (11, [.ref tp, .ref n, .ref dr, .ref x_images, .ref x_kept, .ref rd, .ref st, .ref tl, .ref rg, .ref sv, .ref oc, .ref x_tried, .ref lf, .int 0, .ref x_stoppedWays, .ref x_stoppedWorth, .int 0, .ref x_withinWorth]))]) (w1 := [(tp, .inr (8, [.ref tp_bytes, .int 4])), (tp_bytes, .inl (g 0, 440, .inl ff_138))]) hP hD [1, 2] [0] rfl rfl (by decide) (by decide) hk1 hFc hP1 hD1
  generalize H1 = H at hP hS ⊢
  have hP : va_P D vwCl [(x, .inr (11, [.ref tp, .ref n, .ref dr, .ref x_images, .ref x_kept, .ref rd, .ref st, .ref tl, .ref rg, .ref sv, .ref oc, .ref x_tried, .ref lf, .int 0, .ref x_stoppedWays, .ref x_stoppedWorth, .int 0, .ref x_withinWorth])), (tp, .inr (8, [.ref tp_bytes, .int 4])), (tp_bytes, .inl (g 0, 440, .inl ff_138))] H := hP
  have hD : va_D A [(x, .inr (11, [.ref tp, .ref n, .ref dr, .ref x_images, .ref x_kept, .ref rd, .ref st, .ref tl, .ref rg, .ref sv, .ref oc, .ref x_tried, .ref lf, .int 0, .ref x_stoppedWays, .ref x_stoppedWorth, .int 0, .ref x_withinWorth])), (tp, .inr (8, [.ref tp_bytes, .int 4])), (tp_bytes, .inl (g 0, 440, .inl ff_138))] := hD
  refine lv_aload_n hx hb dX11_feed_26 rfl (lv_at hl 0 rfl) ?_
  refine va_get (D := D) (ci := 11) (v := .ref tp) (C := RX11) (T := TX11) (N := 18) hx hb hts inlX11 hown hK hP 0 rfl rfl 0 (by decide) (hts (Cond.fieldLink RX11 10 "ChanceRings" "tape" "LChanceRings$Tape;") qw_149) (fun _ h9 => h9) rfl dX11_feed_27 ?_
  refine lv_iload_n hx hb dX11_feed_30 rfl (lv_at hl 2 rfl) ?_
  have hPc := hP.sub (ws' := [(tp, .inr (8, [.ref tp_bytes, .int 4])), (tp_bytes, .inl (g 0, 440, .inl ff_138))]) [1, 2] rfl
  have hDc := hD.sub (ws' := [(tp, .inr (8, [.ref tp_bytes, .int 4])), (tp_bytes, .inl (g 0, 440, .inl ff_138))]) [1, 2] (by decide) rfl
  have hFc := va_free (wc := [(tp, .inr (8, [.ref tp_bytes, .int 4])), (tp_bytes, .inl (g 0, 440, .inl ff_138))]) hD hS hA [1, 2] rfl
  refine va_callv (va_runV (As := [.int p1]) (rest := []) ⟨hx, hb, hml, hown, hts⟩ (c_X8_append_4 l D g H.size tp p1 tp_bytes ff_138) (cwV 1 hts (tz_gV qw_152 qw_153 qw_154 qw_155 qw_156) rfl rfl rfl (by decide +kernel) ⟨Nat.le_of_ble_eq_true rfl, Nat.le_of_ble_eq_true rfl⟩) ⟨tz_blQ, va_recv hK hPc (ci := 8) (q0 := 0) rfl rfl, tz_preQ hPc hK hDc⟩ rfl rfl hl.1 rfl (lv_room (Nat.le_of_ble_eq_true rfl)) dX11_feed_31 ⟨Nat.le_of_ble_eq_true rfl, Nat.le_of_ble_eq_true rfl⟩) hS (fun q _ h => hFc q h) hFc (fun u t H1 locs ht hvm hw hB hz1 hk1 hS => ?_)
  obtain ⟨ff_140, hP1, hD1⟩ := hB
  rw [ht] at hP1
  obtain ⟨hP, hD⟩ := va_join (wr := [(x, .inr (11, [.ref tp, .ref n, .ref dr, .ref x_images, .ref x_kept, .ref rd, .ref st, .ref tl, .ref rg, .ref sv, .ref oc, .ref x_tried, .ref lf, .int 0, .ref x_stoppedWays, .ref x_stoppedWorth, .int 0, .ref x_withinWorth]))]) (w1 := [(tp, .inr (8, [.ref tp_bytes, .int 8])), (tp_bytes, .inl (g 0, 440, .inl ff_140))]) hP hD [1, 2] [0] rfl rfl (by decide) (by decide) hk1 hFc hP1 hD1
  generalize H1 = H at hP hS ⊢
  have hP : va_P D vwCl [(x, .inr (11, [.ref tp, .ref n, .ref dr, .ref x_images, .ref x_kept, .ref rd, .ref st, .ref tl, .ref rg, .ref sv, .ref oc, .ref x_tried, .ref lf, .int 0, .ref x_stoppedWays, .ref x_stoppedWorth, .int 0, .ref x_withinWorth])), (tp, .inr (8, [.ref tp_bytes, .int 8])), (tp_bytes, .inl (g 0, 440, .inl ff_140))] H := hP
  have hD : va_D A [(x, .inr (11, [.ref tp, .ref n, .ref dr, .ref x_images, .ref x_kept, .ref rd, .ref st, .ref tl, .ref rg, .ref sv, .ref oc, .ref x_tried, .ref lf, .int 0, .ref x_stoppedWays, .ref x_stoppedWorth, .int 0, .ref x_withinWorth])), (tp, .inr (8, [.ref tp_bytes, .int 8])), (tp_bytes, .inl (g 0, 440, .inl ff_140))] := hD
  refine lv_aload_n hx hb dX11_feed_34 rfl (lv_at hl 0 rfl) ?_
  refine va_get (D := D) (ci := 11) (v := .ref tp) (C := RX11) (T := TX11) (N := 18) hx hb hts inlX11 hown hK hP 0 rfl rfl 0 (by decide) (hts (Cond.fieldLink RX11 10 "ChanceRings" "tape" "LChanceRings$Tape;") qw_149) (fun _ h9 => h9) rfl dX11_feed_35 ?_
  refine lv_iload_n hx hb dX11_feed_38 rfl (lv_at hl 3 rfl) ?_
  have hPc := hP.sub (ws' := [(tp, .inr (8, [.ref tp_bytes, .int 8])), (tp_bytes, .inl (g 0, 440, .inl ff_140))]) [1, 2] rfl
  have hDc := hD.sub (ws' := [(tp, .inr (8, [.ref tp_bytes, .int 8])), (tp_bytes, .inl (g 0, 440, .inl ff_140))]) [1, 2] (by decide) rfl
  have hFc := va_free (wc := [(tp, .inr (8, [.ref tp_bytes, .int 8])), (tp_bytes, .inl (g 0, 440, .inl ff_140))]) hD hS hA [1, 2] rfl
  refine va_callv (va_runV (As := [.int p2]) (rest := []) ⟨hx, hb, hml, hown, hts⟩ (c_X8_append_8 l D g H.size tp p2 tp_bytes ff_140) (cwV 1 hts (tz_gV qw_152 qw_153 qw_154 qw_155 qw_156) rfl rfl rfl (by decide +kernel) ⟨Nat.le_of_ble_eq_true rfl, Nat.le_of_ble_eq_true rfl⟩) ⟨tz_blQ, va_recv hK hPc (ci := 8) (q0 := 0) rfl rfl, tz_preQ hPc hK hDc⟩ rfl rfl hl.1 rfl (lv_room (Nat.le_of_ble_eq_true rfl)) dX11_feed_39 ⟨Nat.le_of_ble_eq_true rfl, Nat.le_of_ble_eq_true rfl⟩) hS (fun q _ h => hFc q h) hFc (fun u t H1 locs ht hvm hw hB hz1 hk1 hS => ?_)
  obtain ⟨ff_142, hP1, hD1⟩ := hB
  rw [ht] at hP1
  obtain ⟨hP, hD⟩ := va_join (wr := [(x, .inr (11, [.ref tp, .ref n, .ref dr, .ref x_images, .ref x_kept, .ref rd, .ref st, .ref tl, .ref rg, .ref sv, .ref oc, .ref x_tried, .ref lf, .int 0, .ref x_stoppedWays, .ref x_stoppedWorth, .int 0, .ref x_withinWorth]))]) (w1 := [(tp, .inr (8, [.ref tp_bytes, .int 12])), (tp_bytes, .inl (g 0, 440, .inl ff_142))]) hP hD [1, 2] [0] rfl rfl (by decide) (by decide) hk1 hFc hP1 hD1
  generalize H1 = H at hP hS ⊢
  have hP : va_P D vwCl [(x, .inr (11, [.ref tp, .ref n, .ref dr, .ref x_images, .ref x_kept, .ref rd, .ref st, .ref tl, .ref rg, .ref sv, .ref oc, .ref x_tried, .ref lf, .int 0, .ref x_stoppedWays, .ref x_stoppedWorth, .int 0, .ref x_withinWorth])), (tp, .inr (8, [.ref tp_bytes, .int 12])), (tp_bytes, .inl (g 0, 440, .inl ff_142))] H := hP
  have hD : va_D A [(x, .inr (11, [.ref tp, .ref n, .ref dr, .ref x_images, .ref x_kept, .ref rd, .ref st, .ref tl, .ref rg, .ref sv, .ref oc, .ref x_tried, .ref lf, .int 0, .ref x_stoppedWays, .ref x_stoppedWorth, .int 0, .ref x_withinWorth])), (tp, .inr (8, [.ref tp_bytes, .int 12])), (tp_bytes, .inl (g 0, 440, .inl ff_142))] := hD
  refine lv_aload_n hx hb dX11_feed_42 rfl (lv_at hl 0 rfl) ?_
  refine va_get (D := D) (ci := 11) (v := .ref tp) (C := RX11) (T := TX11) (N := 18) hx hb hts inlX11 hown hK hP 0 rfl rfl 0 (by decide) (hts (Cond.fieldLink RX11 10 "ChanceRings" "tape" "LChanceRings$Tape;") qw_149) (fun _ h9 => h9) rfl dX11_feed_43 ?_
  refine lv_iload hx hb dX11_feed_46 (lv_at hl 4 rfl) ?_
  have hPc := hP.sub (ws' := [(tp, .inr (8, [.ref tp_bytes, .int 12])), (tp_bytes, .inl (g 0, 440, .inl ff_142))]) [1, 2] rfl
  have hDc := hD.sub (ws' := [(tp, .inr (8, [.ref tp_bytes, .int 12])), (tp_bytes, .inl (g 0, 440, .inl ff_142))]) [1, 2] (by decide) rfl
  have hFc := va_free (wc := [(tp, .inr (8, [.ref tp_bytes, .int 12])), (tp_bytes, .inl (g 0, 440, .inl ff_142))]) hD hS hA [1, 2] rfl
  refine va_callv (va_runV (As := [.int p3]) (rest := []) ⟨hx, hb, hml, hown, hts⟩ (c_X8_append_12 l D g H.size tp p3 tp_bytes ff_142) (cwV 1 hts (tz_gV qw_152 qw_153 qw_154 qw_155 qw_156) rfl rfl rfl (by decide +kernel) ⟨Nat.le_of_ble_eq_true rfl, Nat.le_of_ble_eq_true rfl⟩) ⟨tz_blQ, va_recv hK hPc (ci := 8) (q0 := 0) rfl rfl, tz_preQ hPc hK hDc⟩ rfl rfl hl.1 rfl (lv_room (Nat.le_of_ble_eq_true rfl)) dX11_feed_48 ⟨Nat.le_of_ble_eq_true rfl, Nat.le_of_ble_eq_true rfl⟩) hS (fun q _ h => hFc q h) hFc (fun u t H1 locs ht hvm hw hB hz1 hk1 hS => ?_)
  obtain ⟨ff_144, hP1, hD1⟩ := hB
  rw [ht] at hP1
  obtain ⟨hP, hD⟩ := va_join (wr := [(x, .inr (11, [.ref tp, .ref n, .ref dr, .ref x_images, .ref x_kept, .ref rd, .ref st, .ref tl, .ref rg, .ref sv, .ref oc, .ref x_tried, .ref lf, .int 0, .ref x_stoppedWays, .ref x_stoppedWorth, .int 0, .ref x_withinWorth]))]) (w1 := [(tp, .inr (8, [.ref tp_bytes, .int 16])), (tp_bytes, .inl (g 0, 440, .inl ff_144))]) hP hD [1, 2] [0] rfl rfl (by decide) (by decide) hk1 hFc hP1 hD1
  generalize H1 = H at hP hS ⊢
  have hP : va_P D vwCl [(x, .inr (11, [.ref tp, .ref n, .ref dr, .ref x_images, .ref x_kept, .ref rd, .ref st, .ref tl, .ref rg, .ref sv, .ref oc, .ref x_tried, .ref lf, .int 0, .ref x_stoppedWays, .ref x_stoppedWorth, .int 0, .ref x_withinWorth])), (tp, .inr (8, [.ref tp_bytes, .int 16])), (tp_bytes, .inl (g 0, 440, .inl ff_144))] H := hP
  have hD : va_D A [(x, .inr (11, [.ref tp, .ref n, .ref dr, .ref x_images, .ref x_kept, .ref rd, .ref st, .ref tl, .ref rg, .ref sv, .ref oc, .ref x_tried, .ref lf, .int 0, .ref x_stoppedWays, .ref x_stoppedWorth, .int 0, .ref x_withinWorth])), (tp, .inr (8, [.ref tp_bytes, .int 16])), (tp_bytes, .inl (g 0, 440, .inl ff_144))] := hD
  refine lv_aload_n hx hb dX11_feed_51 rfl (lv_at hl 0 rfl) ?_
  refine va_get (D := D) (ci := 11) (v := .ref tp) (C := RX11) (T := TX11) (N := 18) hx hb hts inlX11 hown hK hP 0 rfl rfl 0 (by decide) (hts (Cond.fieldLink RX11 10 "ChanceRings" "tape" "LChanceRings$Tape;") qw_149) (fun _ h9 => h9) rfl dX11_feed_52 ?_
  refine lv_iload hx hb dX11_feed_55 (lv_at hl 5 rfl) ?_
  have hPc := hP.sub (ws' := [(tp, .inr (8, [.ref tp_bytes, .int 16])), (tp_bytes, .inl (g 0, 440, .inl ff_144))]) [1, 2] rfl
  have hDc := hD.sub (ws' := [(tp, .inr (8, [.ref tp_bytes, .int 16])), (tp_bytes, .inl (g 0, 440, .inl ff_144))]) [1, 2] (by decide) rfl
  have hFc := va_free (wc := [(tp, .inr (8, [.ref tp_bytes, .int 16])), (tp_bytes, .inl (g 0, 440, .inl ff_144))]) hD hS hA [1, 2] rfl
  refine va_callv (va_runV (As := [.int p4]) (rest := []) ⟨hx, hb, hml, hown, hts⟩ (c_X8_append_16 l D g H.size tp p4 tp_bytes ff_144) (cwV 1 hts (tz_gV qw_152 qw_153 qw_154 qw_155 qw_156) rfl rfl rfl (by decide +kernel) ⟨Nat.le_of_ble_eq_true rfl, Nat.le_of_ble_eq_true rfl⟩) ⟨tz_blQ, va_recv hK hPc (ci := 8) (q0 := 0) rfl rfl, tz_preQ hPc hK hDc⟩ rfl rfl hl.1 rfl (lv_room (Nat.le_of_ble_eq_true rfl)) dX11_feed_57 ⟨Nat.le_of_ble_eq_true rfl, Nat.le_of_ble_eq_true rfl⟩) hS (fun q _ h => hFc q h) hFc (fun u t H1 locs ht hvm hw hB hz1 hk1 hS => ?_)
  obtain ⟨ff_146, hP1, hD1⟩ := hB
  rw [ht] at hP1
  obtain ⟨hP, hD⟩ := va_join (wr := [(x, .inr (11, [.ref tp, .ref n, .ref dr, .ref x_images, .ref x_kept, .ref rd, .ref st, .ref tl, .ref rg, .ref sv, .ref oc, .ref x_tried, .ref lf, .int 0, .ref x_stoppedWays, .ref x_stoppedWorth, .int 0, .ref x_withinWorth]))]) (w1 := [(tp, .inr (8, [.ref tp_bytes, .int 20])), (tp_bytes, .inl (g 0, 440, .inl ff_146))]) hP hD [1, 2] [0] rfl rfl (by decide) (by decide) hk1 hFc hP1 hD1
  generalize H1 = H at hP hS ⊢
  have hP : va_P D vwCl [(x, .inr (11, [.ref tp, .ref n, .ref dr, .ref x_images, .ref x_kept, .ref rd, .ref st, .ref tl, .ref rg, .ref sv, .ref oc, .ref x_tried, .ref lf, .int 0, .ref x_stoppedWays, .ref x_stoppedWorth, .int 0, .ref x_withinWorth])), (tp, .inr (8, [.ref tp_bytes, .int 20])), (tp_bytes, .inl (g 0, 440, .inl ff_146))] H := hP
  have hD : va_D A [(x, .inr (11, [.ref tp, .ref n, .ref dr, .ref x_images, .ref x_kept, .ref rd, .ref st, .ref tl, .ref rg, .ref sv, .ref oc, .ref x_tried, .ref lf, .int 0, .ref x_stoppedWays, .ref x_stoppedWorth, .int 0, .ref x_withinWorth])), (tp, .inr (8, [.ref tp_bytes, .int 20])), (tp_bytes, .inl (g 0, 440, .inl ff_146))] := hD
  refine lv_aload_n hx hb dX11_feed_60 rfl (lv_at hl 0 rfl) ?_
  refine va_get (D := D) (ci := 11) (v := .ref tp) (C := RX11) (T := TX11) (N := 18) hx hb hts inlX11 hown hK hP 0 rfl rfl 0 (by decide) (hts (Cond.fieldLink RX11 10 "ChanceRings" "tape" "LChanceRings$Tape;") qw_149) (fun _ h9 => h9) rfl dX11_feed_61 ?_
  refine va_get (D := D) (ci := 8) (v := .int 20) (C := RX8) (T := TX8) (N := 2) hx hb hts inlX8 hown hK hP 1 rfl rfl 1 (by decide) (hts (Cond.fieldLink RX11 102 "ChanceRings$Tape" "length" "I") qw_150) (fun _ h9 => h9) rfl dX11_feed_64 ?_
  exact W.iret (v := 20) hx hb hr (fun t ht hW => ⟨⟨20, (), rfl, rfl, trivial⟩, hS.F ht⟩) hS.2.2 dX11_feed_67
set_option maxHeartbeats 4000000 in
set_option maxRecDepth 100000 in
theorem c_X11_knowLeft (l : Launch) (D : va_G) (g : Nat → ClassId) (sz : Nat) (x : Nat) (tp : Nat) (n : Nat) (dr : Nat) (x_images : Nat) (x_kept : Nat) (rd : Nat) (st : Nat) (tl : Nat) (rg : Nat) (sv : Nat) (oc : Nat) (x_tried : Nat) (lf : Nat) (x_stoppedWays : Nat) (x_stoppedWorth : Nat) (x_withinWorth : Nat) (co : Nat) (sv_keep : Nat) (sv_scaled : Nat) (eq : Nat) (co_place : Nat) (n_kind : Nat) (n_pay : Nat) (n_name : Nat) (n_ways : Nat) (n_held : Nat) (n_targets : Nat) (n_weights : Nat) (lf_part : Nat) (lfw : Int64) (eq_rows : Nat) (eq_right : Nat) (ew : Int64) (fr : Nat → Int64) (rr : Nat → Nat) (f0 : Nat → Int64) (f1 : Nat → Int64) (f2 : Nat → Int64) (f3 : Nat → Int64) (f4 : Nat → Int64) (f5 : Nat → Int64) (f6 : Nat → Int64) (f7 : Nat → Int64) : Met l yX11_knowLeft (.code yX11_knowLeft cX11_knowLeft 1 none :: wsL_law) ({ frames := 4, cells := 0, slots := 0, locals := 106 }) (va_Pc [.ref x] (fun U => U.heap.size = sz ∧ va_P D vwCl [(x, .inr (11, [.ref tp, .ref n, .ref dr, .ref x_images, .ref x_kept, .ref rd, .ref st, .ref tl, .ref rg, .ref sv, .ref oc, .ref x_tried, .ref lf, .int 0, .ref x_stoppedWays, .ref x_stoppedWorth, .int 0, .ref x_withinWorth])), (sv, .inr (6, [.ref n, .ref co, .ref sv_keep, .ref sv_scaled])), (co, .inr (0, [.ref n, .ref eq, .ref co_place])), (n, .inr (2, [.int 0, .ref n_kind, .ref n_pay, .ref n_name, .ref n_ways, .ref n_held, .ref n_targets, .ref n_weights])), (lf, .inr (10, [.ref lf_part, .long lfw])), (eq, .inr (1, [.ref eq_rows, .ref eq_right, .long ew])), (eq_right, .inl (g 1, 8, .inr (.inl fr))), (eq_rows, .inl (g 5, 8, .inr (.inr (.inr (.inr (fun i => if i < 8 then some (rr i) else none)))))), ((rr 0), .inl (g 1, 8, .inr (.inl f0))), ((rr 1), .inl (g 1, 8, .inr (.inl f1))), ((rr 2), .inl (g 1, 8, .inr (.inl f2))), ((rr 3), .inl (g 1, 8, .inr (.inl f3))), ((rr 4), .inl (g 1, 8, .inr (.inl f4))), ((rr 5), .inl (g 1, 8, .inr (.inl f5))), ((rr 6), .inl (g 1, 8, .inr (.inl f6))), ((rr 7), .inl (g 1, 8, .inr (.inl f7)))] U.heap ∧ va_K D vwCl (TY g) U ∧ va_D (fun _ => True) [(x, .inr (11, [.ref tp, .ref n, .ref dr, .ref x_images, .ref x_kept, .ref rd, .ref st, .ref tl, .ref rg, .ref sv, .ref oc, .ref x_tried, .ref lf, .int 0, .ref x_stoppedWays, .ref x_stoppedWorth, .int 0, .ref x_withinWorth])), (sv, .inr (6, [.ref n, .ref co, .ref sv_keep, .ref sv_scaled])), (co, .inr (0, [.ref n, .ref eq, .ref co_place])), (n, .inr (2, [.int 0, .ref n_kind, .ref n_pay, .ref n_name, .ref n_ways, .ref n_held, .ref n_targets, .ref n_weights])), (lf, .inr (10, [.ref lf_part, .long lfw])), (eq, .inr (1, [.ref eq_rows, .ref eq_right, .long ew])), (eq_right, .inl (g 1, 8, .inr (.inl fr))), (eq_rows, .inl (g 5, 8, .inr (.inr (.inr (.inr (fun i => if i < 8 then some (rr i) else none)))))), ((rr 0), .inl (g 1, 8, .inr (.inl f0))), ((rr 1), .inl (g 1, 8, .inr (.inl f1))), ((rr 2), .inl (g 1, 8, .inr (.inl f2))), ((rr 3), .inl (g 1, 8, .inr (.inl f3))), ((rr 4), .inl (g 1, 8, .inr (.inl f4))), ((rr 5), .inl (g 1, 8, .inr (.inl f5))), ((rr 6), .inl (g 1, 8, .inr (.inl f6))), ((rr 7), .inl (g 1, 8, .inr (.inl f7)))])) (va_Qv (fun (_ : Unit) => True) (fun _ t => ∃ gr : Nat → Int64, ∃ g0 : Nat → Int64, ∃ g1 : Nat → Int64, ∃ g2 : Nat → Int64, ∃ g3 : Nat → Int64, ∃ g4 : Nat → Int64, ∃ g5 : Nat → Int64, ∃ g6 : Nat → Int64, ∃ g7 : Nat → Int64, va_P D vwCl [(x, .inr (11, [.ref tp, .ref n, .ref dr, .ref x_images, .ref x_kept, .ref rd, .ref st, .ref tl, .ref rg, .ref sv, .ref oc, .ref x_tried, .ref lf, .int 1, .ref x_stoppedWays, .ref x_stoppedWorth, .int 0, .ref x_withinWorth])), (sv, .inr (6, [.ref n, .ref co, .ref sv_keep, .ref sv_scaled])), (co, .inr (0, [.ref n, .ref eq, .ref co_place])), (n, .inr (2, [.int 0, .ref n_kind, .ref n_pay, .ref n_name, .ref n_ways, .ref n_held, .ref n_targets, .ref n_weights])), (lf, .inr (10, [.ref lf_part, .long 1])), (eq, .inr (1, [.ref eq_rows, .ref eq_right, .long 1])), (eq_right, .inl (g 1, 8, .inr (.inl gr))), (eq_rows, .inl (g 5, 8, .inr (.inr (.inr (.inr (fun i => if i < 8 then some (rr i) else none)))))), ((rr 0), .inl (g 1, 8, .inr (.inl g0))), ((rr 1), .inl (g 1, 8, .inr (.inl g1))), ((rr 2), .inl (g 1, 8, .inr (.inl g2))), ((rr 3), .inl (g 1, 8, .inr (.inl g3))), ((rr 4), .inl (g 1, 8, .inr (.inl g4))), ((rr 5), .inl (g 1, 8, .inr (.inl g5))), ((rr 6), .inl (g 1, 8, .inr (.inl g6))), ((rr 7), .inl (g 1, 8, .inr (.inl g7)))] t.heap ∧ va_D (va_A [(x, .inr (11, [.ref tp, .ref n, .ref dr, .ref x_images, .ref x_kept, .ref rd, .ref st, .ref tl, .ref rg, .ref sv, .ref oc, .ref x_tried, .ref lf, .int 0, .ref x_stoppedWays, .ref x_stoppedWorth, .int 0, .ref x_withinWorth])), (sv, .inr (6, [.ref n, .ref co, .ref sv_keep, .ref sv_scaled])), (co, .inr (0, [.ref n, .ref eq, .ref co_place])), (n, .inr (2, [.int 0, .ref n_kind, .ref n_pay, .ref n_name, .ref n_ways, .ref n_held, .ref n_targets, .ref n_weights])), (lf, .inr (10, [.ref lf_part, .long lfw])), (eq, .inr (1, [.ref eq_rows, .ref eq_right, .long ew])), (eq_right, .inl (g 1, 8, .inr (.inl fr))), (eq_rows, .inl (g 5, 8, .inr (.inr (.inr (.inr (fun i => if i < 8 then some (rr i) else none)))))), ((rr 0), .inl (g 1, 8, .inr (.inl f0))), ((rr 1), .inl (g 1, 8, .inr (.inl f1))), ((rr 2), .inl (g 1, 8, .inr (.inl f2))), ((rr 3), .inl (g 1, 8, .inr (.inl f3))), ((rr 4), .inl (g 1, 8, .inr (.inl f4))), ((rr 5), .inl (g 1, 8, .inr (.inl f5))), ((rr 6), .inl (g 1, 8, .inr (.inl f6))), ((rr 7), .inl (g 1, 8, .inr (.inl f7)))] sz) [(x, .inr (11, [.ref tp, .ref n, .ref dr, .ref x_images, .ref x_kept, .ref rd, .ref st, .ref tl, .ref rg, .ref sv, .ref oc, .ref x_tried, .ref lf, .int 1, .ref x_stoppedWays, .ref x_stoppedWorth, .int 0, .ref x_withinWorth])), (sv, .inr (6, [.ref n, .ref co, .ref sv_keep, .ref sv_scaled])), (co, .inr (0, [.ref n, .ref eq, .ref co_place])), (n, .inr (2, [.int 0, .ref n_kind, .ref n_pay, .ref n_name, .ref n_ways, .ref n_held, .ref n_targets, .ref n_weights])), (lf, .inr (10, [.ref lf_part, .long 1])), (eq, .inr (1, [.ref eq_rows, .ref eq_right, .long 1])), (eq_right, .inl (g 1, 8, .inr (.inl gr))), (eq_rows, .inl (g 5, 8, .inr (.inr (.inr (.inr (fun i => if i < 8 then some (rr i) else none)))))), ((rr 0), .inl (g 1, 8, .inr (.inl g0))), ((rr 1), .inl (g 1, 8, .inr (.inl g1))), ((rr 2), .inl (g 1, 8, .inr (.inl g2))), ((rr 3), .inl (g 1, 8, .inr (.inl g3))), ((rr 4), .inl (g 1, 8, .inr (.inl g4))), ((rr 5), .inl (g 1, 8, .inr (.inl g5))), ((rr 6), .inl (g 1, 8, .inr (.inl g6))), ((rr 7), .inl (g 1, 8, .inr (.inl g7)))]) (va_A [(x, .inr (11, [.ref tp, .ref n, .ref dr, .ref x_images, .ref x_kept, .ref rd, .ref st, .ref tl, .ref rg, .ref sv, .ref oc, .ref x_tried, .ref lf, .int 0, .ref x_stoppedWays, .ref x_stoppedWorth, .int 0, .ref x_withinWorth])), (sv, .inr (6, [.ref n, .ref co, .ref sv_keep, .ref sv_scaled])), (co, .inr (0, [.ref n, .ref eq, .ref co_place])), (n, .inr (2, [.int 0, .ref n_kind, .ref n_pay, .ref n_name, .ref n_ways, .ref n_held, .ref n_targets, .ref n_weights])), (lf, .inr (10, [.ref lf_part, .long lfw])), (eq, .inr (1, [.ref eq_rows, .ref eq_right, .long ew])), (eq_right, .inl (g 1, 8, .inr (.inl fr))), (eq_rows, .inl (g 5, 8, .inr (.inr (.inr (.inr (fun i => if i < 8 then some (rr i) else none)))))), ((rr 0), .inl (g 1, 8, .inr (.inl f0))), ((rr 1), .inl (g 1, 8, .inr (.inl f1))), ((rr 2), .inl (g 1, 8, .inr (.inl f2))), ((rr 3), .inl (g 1, 8, .inr (.inl f3))), ((rr 4), .inl (g 1, 8, .inr (.inl f4))), ((rr 5), .inl (g 1, 8, .inr (.inl f5))), ((rr 6), .inl (g 1, 8, .inr (.inl f6))), ((rr 7), .inl (g 1, 8, .inr (.inl f7)))] sz)) 0 0 (va_A [(x, .inr (11, [.ref tp, .ref n, .ref dr, .ref x_images, .ref x_kept, .ref rd, .ref st, .ref tl, .ref rg, .ref sv, .ref oc, .ref x_tried, .ref lf, .int 0, .ref x_stoppedWays, .ref x_stoppedWorth, .int 0, .ref x_withinWorth])), (sv, .inr (6, [.ref n, .ref co, .ref sv_keep, .ref sv_scaled])), (co, .inr (0, [.ref n, .ref eq, .ref co_place])), (n, .inr (2, [.int 0, .ref n_kind, .ref n_pay, .ref n_name, .ref n_ways, .ref n_held, .ref n_targets, .ref n_weights])), (lf, .inr (10, [.ref lf_part, .long lfw])), (eq, .inr (1, [.ref eq_rows, .ref eq_right, .long ew])), (eq_right, .inl (g 1, 8, .inr (.inl fr))), (eq_rows, .inl (g 5, 8, .inr (.inr (.inr (.inr (fun i => if i < 8 then some (rr i) else none)))))), ((rr 0), .inl (g 1, 8, .inr (.inl f0))), ((rr 1), .inl (g 1, 8, .inr (.inl f1))), ((rr 2), .inl (g 1, 8, .inr (.inl f2))), ((rr 3), .inl (g 1, 8, .inr (.inl f3))), ((rr 4), .inl (g 1, 8, .inr (.inl f4))), ((rr 5), .inl (g 1, 8, .inr (.inl f5))), ((rr 6), .inl (g 1, 8, .inr (.inl f6))), ((rr 7), .inl (g 1, 8, .inr (.inl f7)))] sz) := by
  refine Met.ofW (cc := cX11_knowLeft) (maxL := 1) (ret := none) (by decide) rfl ?_
  intro p e s m args below meth c s₁ B hml hv
  obtain ⟨rfl, hsz, hP, hK, hD0⟩ := hv
  have hx := B.exec
  have hb := B.bytes
  have hr := B.returns
  have hts0 := atoms_spec (ws := (.code yX11_knowLeft cX11_knowLeft 1 none :: wsL_law)) B.pre
  have hts : ∀ w ∈ wsL_law, w.before _ s = true := fun w h => hts0 w (List.mem_cons_of_mem _ h)
  have hown : s.vm.findClass RX11 = some m.cls := findClass_of_methodNamed B.named
  have hlocks := B.notSynchronized
  subst hsz
  have hD := hD0.self (sz := s.heap.size)
  generalize hAe : va_A [(x, .inr (11, [.ref tp, .ref n, .ref dr, .ref x_images, .ref x_kept, .ref rd, .ref st, .ref tl, .ref rg, .ref sv, .ref oc, .ref x_tried, .ref lf, .int 0, .ref x_stoppedWays, .ref x_stoppedWorth, .int 0, .ref x_withinWorth])), (sv, .inr (6, [.ref n, .ref co, .ref sv_keep, .ref sv_scaled])), (co, .inr (0, [.ref n, .ref eq, .ref co_place])), (n, .inr (2, [.int 0, .ref n_kind, .ref n_pay, .ref n_name, .ref n_ways, .ref n_held, .ref n_targets, .ref n_weights])), (lf, .inr (10, [.ref lf_part, .long lfw])), (eq, .inr (1, [.ref eq_rows, .ref eq_right, .long ew])), (eq_right, .inl (g 1, 8, .inr (.inl fr))), (eq_rows, .inl (g 5, 8, .inr (.inr (.inr (.inr (fun i => if i < 8 then some (rr i) else none)))))), ((rr 0), .inl (g 1, 8, .inr (.inl f0))), ((rr 1), .inl (g 1, 8, .inr (.inl f1))), ((rr 2), .inl (g 1, 8, .inr (.inl f2))), ((rr 3), .inl (g 1, 8, .inr (.inl f3))), ((rr 4), .inl (g 1, 8, .inr (.inl f4))), ((rr 5), .inl (g 1, 8, .inr (.inl f5))), ((rr 6), .inl (g 1, 8, .inr (.inl f6))), ((rr 7), .inl (g 1, 8, .inr (.inl f7)))] s.heap.size = A at hD ⊢
  have hA : ∀ q : Nat, s.heap.size ≤ q → A q := fun q h => by rw [← hAe]; exact Or.inr h
  have hS : va_S A s.heap s.heap [] := va_S.rf
  have hP : va_P D vwCl [(x, .inr (11, [.ref tp, .ref n, .ref dr, .ref x_images, .ref x_kept, .ref rd, .ref st, .ref tl, .ref rg, .ref sv, .ref oc, .ref x_tried, .ref lf, .int 0, .ref x_stoppedWays, .ref x_stoppedWorth, .int 0, .ref x_withinWorth])), (sv, .inr (6, [.ref n, .ref co, .ref sv_keep, .ref sv_scaled])), (co, .inr (0, [.ref n, .ref eq, .ref co_place])), (n, .inr (2, [.int 0, .ref n_kind, .ref n_pay, .ref n_name, .ref n_ways, .ref n_held, .ref n_targets, .ref n_weights])), (lf, .inr (10, [.ref lf_part, .long lfw])), (eq, .inr (1, [.ref eq_rows, .ref eq_right, .long ew])), (eq_right, .inl (g 1, 8, .inr (.inl fr))), (eq_rows, .inl (g 5, 8, .inr (.inr (.inr (.inr (fun i => if i < 8 then some (rr i) else none)))))), ((rr 0), .inl (g 1, 8, .inr (.inl f0))), ((rr 1), .inl (g 1, 8, .inr (.inl f1))), ((rr 2), .inl (g 1, 8, .inr (.inl f2))), ((rr 3), .inl (g 1, 8, .inr (.inl f3))), ((rr 4), .inl (g 1, 8, .inr (.inl f4))), ((rr 5), .inl (g 1, 8, .inr (.inl f5))), ((rr 6), .inl (g 1, 8, .inr (.inl f6))), ((rr 7), .inl (g 1, 8, .inr (.inl f7)))] s.heap := hP
  have hl := lv_entry ([.ref x]) (n := 1) (Nat.le_of_ble_eq_true rfl)
  rw [lg_entry_eq]
  generalize (lg_sl ([.ref x]) ++ List.replicate (1 - (lg_sl ([.ref x])).length) Slot.unset).toArray = ls at hl ⊢
  have hl : lv_has ls 1 [(0, .ref x)] := hl
  refine lv_aload_n hx hb dX11_knowLeft_0 rfl (lv_at hl 0 rfl) ?_
  refine va_get (D := D) (ci := 11) (v := .int 0) (C := RX11) (T := TX11) (N := 18) hx hb hts inlX11 hown hK hP 0 rfl rfl 13 (by decide) (hts (Cond.fieldLink RX11 188 "ChanceRings" "leftKnown" "Z") qw_157) (fun _ h9 => h9) rfl dX11_knowLeft_1 ?_
  refine lv_if_ne (tgt := 29) hx hb dX11_knowLeft_4 (by decide) (fun h9 => (h9 (by decide)).elim) (fun _ => ?_)
  refine lv_aload_n hx hb dX11_knowLeft_7 rfl (lv_at hl 0 rfl) ?_
  refine va_get (D := D) (ci := 11) (v := .ref sv) (C := RX11) (T := TX11) (N := 18) hx hb hts inlX11 hown hK hP 0 rfl rfl 9 (by decide) (hts (Cond.fieldLink RX11 69 "ChanceRings" "solver" "LChanceRings$Solver;") qw_158) (fun _ h9 => h9) rfl dX11_knowLeft_8 ?_
  refine lv_aload_n hx hb dX11_knowLeft_11 rfl (lv_at hl 0 rfl) ?_
  refine va_get (D := D) (ci := 11) (v := .ref x_tried) (C := RX11) (T := TX11) (N := 18) hx hb hts inlX11 hown hK hP 0 rfl rfl 11 (by decide) (hts (Cond.fieldLink RX11 82 "ChanceRings" "tried" "[I") qw_159) (fun _ h9 => h9) rfl dX11_knowLeft_12 ?_
  refine lv_iconst (v := 1) hx hb dX11_knowLeft_15 (by decide) ?_
  refine lv_iconst (v := 1) hx hb dX11_knowLeft_16 (by decide) ?_
  refine lv_aload_n hx hb dX11_knowLeft_17 rfl (lv_at hl 0 rfl) ?_
  refine va_get (D := D) (ci := 11) (v := .ref lf) (C := RX11) (T := TX11) (N := 18) hx hb hts inlX11 hown hK hP 0 rfl rfl 12 (by decide) (hts (Cond.fieldLink RX11 89 "ChanceRings" "left" "LChanceRings$Values;") qw_160) (fun _ h9 => h9) rfl dX11_knowLeft_18 ?_
  have hPc := hP.sub (ws' := [(sv, .inr (6, [.ref n, .ref co, .ref sv_keep, .ref sv_scaled])), (co, .inr (0, [.ref n, .ref eq, .ref co_place])), (n, .inr (2, [.int 0, .ref n_kind, .ref n_pay, .ref n_name, .ref n_ways, .ref n_held, .ref n_targets, .ref n_weights])), (lf, .inr (10, [.ref lf_part, .long lfw])), (eq, .inr (1, [.ref eq_rows, .ref eq_right, .long ew])), (eq_right, .inl (g 1, 8, .inr (.inl fr))), (eq_rows, .inl (g 5, 8, .inr (.inr (.inr (.inr (fun i => if i < 8 then some (rr i) else none)))))), ((rr 0), .inl (g 1, 8, .inr (.inl f0))), ((rr 1), .inl (g 1, 8, .inr (.inl f1))), ((rr 2), .inl (g 1, 8, .inr (.inl f2))), ((rr 3), .inl (g 1, 8, .inr (.inl f3))), ((rr 4), .inl (g 1, 8, .inr (.inl f4))), ((rr 5), .inl (g 1, 8, .inr (.inl f5))), ((rr 6), .inl (g 1, 8, .inr (.inl f6))), ((rr 7), .inl (g 1, 8, .inr (.inl f7)))]) [1, 2, 3, 4, 5, 6, 7, 8, 9, 10, 11, 12, 13, 14, 15] rfl
  have hDc := hD.sub (ws' := [(sv, .inr (6, [.ref n, .ref co, .ref sv_keep, .ref sv_scaled])), (co, .inr (0, [.ref n, .ref eq, .ref co_place])), (n, .inr (2, [.int 0, .ref n_kind, .ref n_pay, .ref n_name, .ref n_ways, .ref n_held, .ref n_targets, .ref n_weights])), (lf, .inr (10, [.ref lf_part, .long lfw])), (eq, .inr (1, [.ref eq_rows, .ref eq_right, .long ew])), (eq_right, .inl (g 1, 8, .inr (.inl fr))), (eq_rows, .inl (g 5, 8, .inr (.inr (.inr (.inr (fun i => if i < 8 then some (rr i) else none)))))), ((rr 0), .inl (g 1, 8, .inr (.inl f0))), ((rr 1), .inl (g 1, 8, .inr (.inl f1))), ((rr 2), .inl (g 1, 8, .inr (.inl f2))), ((rr 3), .inl (g 1, 8, .inr (.inl f3))), ((rr 4), .inl (g 1, 8, .inr (.inl f4))), ((rr 5), .inl (g 1, 8, .inr (.inl f5))), ((rr 6), .inl (g 1, 8, .inr (.inl f6))), ((rr 7), .inl (g 1, 8, .inr (.inl f7)))]) [1, 2, 3, 4, 5, 6, 7, 8, 9, 10, 11, 12, 13, 14, 15] (by decide) rfl
  have hFc := va_free (wc := [(sv, .inr (6, [.ref n, .ref co, .ref sv_keep, .ref sv_scaled])), (co, .inr (0, [.ref n, .ref eq, .ref co_place])), (n, .inr (2, [.int 0, .ref n_kind, .ref n_pay, .ref n_name, .ref n_ways, .ref n_held, .ref n_targets, .ref n_weights])), (lf, .inr (10, [.ref lf_part, .long lfw])), (eq, .inr (1, [.ref eq_rows, .ref eq_right, .long ew])), (eq_right, .inl (g 1, 8, .inr (.inl fr))), (eq_rows, .inl (g 5, 8, .inr (.inr (.inr (.inr (fun i => if i < 8 then some (rr i) else none)))))), ((rr 0), .inl (g 1, 8, .inr (.inl f0))), ((rr 1), .inl (g 1, 8, .inr (.inl f1))), ((rr 2), .inl (g 1, 8, .inr (.inl f2))), ((rr 3), .inl (g 1, 8, .inr (.inl f3))), ((rr 4), .inl (g 1, 8, .inr (.inl f4))), ((rr 5), .inl (g 1, 8, .inr (.inl f5))), ((rr 6), .inl (g 1, 8, .inr (.inl f6))), ((rr 7), .inl (g 1, 8, .inr (.inl f7)))]) hD hS hA [1, 2, 3, 4, 5, 6, 7, 8, 9, 10, 11, 12, 13, 14, 15] rfl
  refine va_callv (va_runV (As := [.ref x_tried, .int 1, .int 1, .ref lf]) (rest := []) ⟨hx, hb, hml, hown, hts⟩ (c_X6_findLeft l D g s.heap.size sv x_tried 1 1 lf n co sv_keep sv_scaled eq co_place n_kind n_pay n_name n_ways n_held n_targets n_weights lf_part lfw eq_rows eq_right ew fr rr f0 f1 f2 f3 f4 f5 f6 f7) (cwV 4 hts (tz_gV qw_161 qw_72 qw_73 qw_11 qw_74) rfl rfl rfl (by decide +kernel) ⟨Nat.le_of_ble_eq_true rfl, Nat.le_of_ble_eq_true rfl⟩) ⟨tz_blQ, va_recv hK hPc (ci := 6) (q0 := 0) rfl rfl, tz_preQ hPc hK hDc⟩ rfl rfl hl.1 rfl (lv_room (Nat.le_of_ble_eq_true rfl)) dX11_knowLeft_21 ⟨Nat.le_of_ble_eq_true rfl, Nat.le_of_ble_eq_true rfl⟩) hS (fun q _ h => hFc q h) hFc (fun u t H1 locs ht hvm hw hB hz1 hk1 hS => ?_)
  obtain ⟨gr_148, g0_149, g1_150, g2_151, g3_152, g4_153, g5_154, g6_155, g7_156, hP1, hD1⟩ := hB
  rw [ht] at hP1
  obtain ⟨hP, hD⟩ := va_join (wr := [(x, .inr (11, [.ref tp, .ref n, .ref dr, .ref x_images, .ref x_kept, .ref rd, .ref st, .ref tl, .ref rg, .ref sv, .ref oc, .ref x_tried, .ref lf, .int 0, .ref x_stoppedWays, .ref x_stoppedWorth, .int 0, .ref x_withinWorth]))]) (w1 := [(sv, .inr (6, [.ref n, .ref co, .ref sv_keep, .ref sv_scaled])), (co, .inr (0, [.ref n, .ref eq, .ref co_place])), (n, .inr (2, [.int 0, .ref n_kind, .ref n_pay, .ref n_name, .ref n_ways, .ref n_held, .ref n_targets, .ref n_weights])), (lf, .inr (10, [.ref lf_part, .long 1])), (eq, .inr (1, [.ref eq_rows, .ref eq_right, .long 1])), (eq_right, .inl (g 1, 8, .inr (.inl gr_148))), (eq_rows, .inl (g 5, 8, .inr (.inr (.inr (.inr (fun i => if i < 8 then some (rr i) else none)))))), ((rr 0), .inl (g 1, 8, .inr (.inl g0_149))), ((rr 1), .inl (g 1, 8, .inr (.inl g1_150))), ((rr 2), .inl (g 1, 8, .inr (.inl g2_151))), ((rr 3), .inl (g 1, 8, .inr (.inl g3_152))), ((rr 4), .inl (g 1, 8, .inr (.inl g4_153))), ((rr 5), .inl (g 1, 8, .inr (.inl g5_154))), ((rr 6), .inl (g 1, 8, .inr (.inl g6_155))), ((rr 7), .inl (g 1, 8, .inr (.inl g7_156)))]) hP hD [1, 2, 3, 4, 5, 6, 7, 8, 9, 10, 11, 12, 13, 14, 15] [0] rfl rfl (by decide) (by decide) hk1 hFc hP1 hD1
  generalize H1 = H at hP hS ⊢
  have hP : va_P D vwCl [(x, .inr (11, [.ref tp, .ref n, .ref dr, .ref x_images, .ref x_kept, .ref rd, .ref st, .ref tl, .ref rg, .ref sv, .ref oc, .ref x_tried, .ref lf, .int 0, .ref x_stoppedWays, .ref x_stoppedWorth, .int 0, .ref x_withinWorth])), (sv, .inr (6, [.ref n, .ref co, .ref sv_keep, .ref sv_scaled])), (co, .inr (0, [.ref n, .ref eq, .ref co_place])), (n, .inr (2, [.int 0, .ref n_kind, .ref n_pay, .ref n_name, .ref n_ways, .ref n_held, .ref n_targets, .ref n_weights])), (lf, .inr (10, [.ref lf_part, .long 1])), (eq, .inr (1, [.ref eq_rows, .ref eq_right, .long 1])), (eq_right, .inl (g 1, 8, .inr (.inl gr_148))), (eq_rows, .inl (g 5, 8, .inr (.inr (.inr (.inr (fun i => if i < 8 then some (rr i) else none)))))), ((rr 0), .inl (g 1, 8, .inr (.inl g0_149))), ((rr 1), .inl (g 1, 8, .inr (.inl g1_150))), ((rr 2), .inl (g 1, 8, .inr (.inl g2_151))), ((rr 3), .inl (g 1, 8, .inr (.inl g3_152))), ((rr 4), .inl (g 1, 8, .inr (.inl g4_153))), ((rr 5), .inl (g 1, 8, .inr (.inl g5_154))), ((rr 6), .inl (g 1, 8, .inr (.inl g6_155))), ((rr 7), .inl (g 1, 8, .inr (.inl g7_156)))] H := hP
  have hD : va_D A [(x, .inr (11, [.ref tp, .ref n, .ref dr, .ref x_images, .ref x_kept, .ref rd, .ref st, .ref tl, .ref rg, .ref sv, .ref oc, .ref x_tried, .ref lf, .int 0, .ref x_stoppedWays, .ref x_stoppedWorth, .int 0, .ref x_withinWorth])), (sv, .inr (6, [.ref n, .ref co, .ref sv_keep, .ref sv_scaled])), (co, .inr (0, [.ref n, .ref eq, .ref co_place])), (n, .inr (2, [.int 0, .ref n_kind, .ref n_pay, .ref n_name, .ref n_ways, .ref n_held, .ref n_targets, .ref n_weights])), (lf, .inr (10, [.ref lf_part, .long 1])), (eq, .inr (1, [.ref eq_rows, .ref eq_right, .long 1])), (eq_right, .inl (g 1, 8, .inr (.inl gr_148))), (eq_rows, .inl (g 5, 8, .inr (.inr (.inr (.inr (fun i => if i < 8 then some (rr i) else none)))))), ((rr 0), .inl (g 1, 8, .inr (.inl g0_149))), ((rr 1), .inl (g 1, 8, .inr (.inl g1_150))), ((rr 2), .inl (g 1, 8, .inr (.inl g2_151))), ((rr 3), .inl (g 1, 8, .inr (.inl g3_152))), ((rr 4), .inl (g 1, 8, .inr (.inl g4_153))), ((rr 5), .inl (g 1, 8, .inr (.inl g5_154))), ((rr 6), .inl (g 1, 8, .inr (.inl g6_155))), ((rr 7), .inl (g 1, 8, .inr (.inl g7_156)))] := hD
  refine lv_aload_n hx hb dX11_knowLeft_24 rfl (lv_at hl 0 rfl) ?_
  refine lv_iconst (v := 1) hx hb dX11_knowLeft_25 (by decide) ?_
  refine va_put (D := D) (ci := 11) (v := .int 1) (ty := .boolean) (C := RX11) (T := TX11) (N := 18) hx hb hts inlX11 tyX11 tyX11_ok nmX11 hown hK hP hD hS 0 rfl rfl 13 (by decide) (hts (Cond.fieldLink RX11 188 "ChanceRings" "leftKnown" "Z") qw_157) (fun _ h9 => h9) rfl (by decide +kernel) (by decide) rfl (Nat.le_of_ble_eq_true rfl) dX11_knowLeft_26 (fun H locs hP hD hS => ?_)
  have hP : va_P D vwCl [(x, .inr (11, [.ref tp, .ref n, .ref dr, .ref x_images, .ref x_kept, .ref rd, .ref st, .ref tl, .ref rg, .ref sv, .ref oc, .ref x_tried, .ref lf, .int 1, .ref x_stoppedWays, .ref x_stoppedWorth, .int 0, .ref x_withinWorth])), (sv, .inr (6, [.ref n, .ref co, .ref sv_keep, .ref sv_scaled])), (co, .inr (0, [.ref n, .ref eq, .ref co_place])), (n, .inr (2, [.int 0, .ref n_kind, .ref n_pay, .ref n_name, .ref n_ways, .ref n_held, .ref n_targets, .ref n_weights])), (lf, .inr (10, [.ref lf_part, .long 1])), (eq, .inr (1, [.ref eq_rows, .ref eq_right, .long 1])), (eq_right, .inl (g 1, 8, .inr (.inl gr_148))), (eq_rows, .inl (g 5, 8, .inr (.inr (.inr (.inr (fun i => if i < 8 then some (rr i) else none)))))), ((rr 0), .inl (g 1, 8, .inr (.inl g0_149))), ((rr 1), .inl (g 1, 8, .inr (.inl g1_150))), ((rr 2), .inl (g 1, 8, .inr (.inl g2_151))), ((rr 3), .inl (g 1, 8, .inr (.inl g3_152))), ((rr 4), .inl (g 1, 8, .inr (.inl g4_153))), ((rr 5), .inl (g 1, 8, .inr (.inl g5_154))), ((rr 6), .inl (g 1, 8, .inr (.inl g6_155))), ((rr 7), .inl (g 1, 8, .inr (.inl g7_156)))] H := hP
  have hD : va_D A [(x, .inr (11, [.ref tp, .ref n, .ref dr, .ref x_images, .ref x_kept, .ref rd, .ref st, .ref tl, .ref rg, .ref sv, .ref oc, .ref x_tried, .ref lf, .int 1, .ref x_stoppedWays, .ref x_stoppedWorth, .int 0, .ref x_withinWorth])), (sv, .inr (6, [.ref n, .ref co, .ref sv_keep, .ref sv_scaled])), (co, .inr (0, [.ref n, .ref eq, .ref co_place])), (n, .inr (2, [.int 0, .ref n_kind, .ref n_pay, .ref n_name, .ref n_ways, .ref n_held, .ref n_targets, .ref n_weights])), (lf, .inr (10, [.ref lf_part, .long 1])), (eq, .inr (1, [.ref eq_rows, .ref eq_right, .long 1])), (eq_right, .inl (g 1, 8, .inr (.inl gr_148))), (eq_rows, .inl (g 5, 8, .inr (.inr (.inr (.inr (fun i => if i < 8 then some (rr i) else none)))))), ((rr 0), .inl (g 1, 8, .inr (.inl g0_149))), ((rr 1), .inl (g 1, 8, .inr (.inl g1_150))), ((rr 2), .inl (g 1, 8, .inr (.inl g2_151))), ((rr 3), .inl (g 1, 8, .inr (.inl g3_152))), ((rr 4), .inl (g 1, 8, .inr (.inl g4_153))), ((rr 5), .inl (g 1, 8, .inr (.inl g5_154))), ((rr 6), .inl (g 1, 8, .inr (.inl g6_155))), ((rr 7), .inl (g 1, 8, .inr (.inl g7_156)))] := hD
  have hP9 := hP.sub (ws' := [(x, .inr (11, [.ref tp, .ref n, .ref dr, .ref x_images, .ref x_kept, .ref rd, .ref st, .ref tl, .ref rg, .ref sv, .ref oc, .ref x_tried, .ref lf, .int 1, .ref x_stoppedWays, .ref x_stoppedWorth, .int 0, .ref x_withinWorth])), (sv, .inr (6, [.ref n, .ref co, .ref sv_keep, .ref sv_scaled])), (co, .inr (0, [.ref n, .ref eq, .ref co_place])), (n, .inr (2, [.int 0, .ref n_kind, .ref n_pay, .ref n_name, .ref n_ways, .ref n_held, .ref n_targets, .ref n_weights])), (lf, .inr (10, [.ref lf_part, .long 1])), (eq, .inr (1, [.ref eq_rows, .ref eq_right, .long 1])), (eq_right, .inl (g 1, 8, .inr (.inl gr_148))), (eq_rows, .inl (g 5, 8, .inr (.inr (.inr (.inr (fun i => if i < 8 then some (rr i) else none)))))), ((rr 0), .inl (g 1, 8, .inr (.inl g0_149))), ((rr 1), .inl (g 1, 8, .inr (.inl g1_150))), ((rr 2), .inl (g 1, 8, .inr (.inl g2_151))), ((rr 3), .inl (g 1, 8, .inr (.inl g3_152))), ((rr 4), .inl (g 1, 8, .inr (.inl g4_153))), ((rr 5), .inl (g 1, 8, .inr (.inl g5_154))), ((rr 6), .inl (g 1, 8, .inr (.inl g6_155))), ((rr 7), .inl (g 1, 8, .inr (.inl g7_156)))]) [0, 1, 2, 3, 4, 5, 6, 7, 8, 9, 10, 11, 12, 13, 14, 15] rfl
  have hD9 := hD.sub (ws' := [(x, .inr (11, [.ref tp, .ref n, .ref dr, .ref x_images, .ref x_kept, .ref rd, .ref st, .ref tl, .ref rg, .ref sv, .ref oc, .ref x_tried, .ref lf, .int 1, .ref x_stoppedWays, .ref x_stoppedWorth, .int 0, .ref x_withinWorth])), (sv, .inr (6, [.ref n, .ref co, .ref sv_keep, .ref sv_scaled])), (co, .inr (0, [.ref n, .ref eq, .ref co_place])), (n, .inr (2, [.int 0, .ref n_kind, .ref n_pay, .ref n_name, .ref n_ways, .ref n_held, .ref n_targets, .ref n_weights])), (lf, .inr (10, [.ref lf_part, .long 1])), (eq, .inr (1, [.ref eq_rows, .ref eq_right, .long 1])), (eq_right, .inl (g 1, 8, .inr (.inl gr_148))), (eq_rows, .inl (g 5, 8, .inr (.inr (.inr (.inr (fun i => if i < 8 then some (rr i) else none)))))), ((rr 0), .inl (g 1, 8, .inr (.inl g0_149))), ((rr 1), .inl (g 1, 8, .inr (.inl g1_150))), ((rr 2), .inl (g 1, 8, .inr (.inl g2_151))), ((rr 3), .inl (g 1, 8, .inr (.inl g3_152))), ((rr 4), .inl (g 1, 8, .inr (.inl g4_153))), ((rr 5), .inl (g 1, 8, .inr (.inl g5_154))), ((rr 6), .inl (g 1, 8, .inr (.inl g6_155))), ((rr 7), .inl (g 1, 8, .inr (.inl g7_156)))]) [0, 1, 2, 3, 4, 5, 6, 7, 8, 9, 10, 11, 12, 13, 14, 15] (by decide) rfl
  exact W.vret hx hb hr (fun t ht hW => ⟨⟨(), rfl, trivial, gr_148, g0_149, g1_150, g2_151, g3_152, g4_153, g5_154, g6_155, g7_156, by rw [ht]; exact hP9, hD9⟩, hS.F ht⟩) hS.2.2 dX11_knowLeft_29
set_option maxHeartbeats 4000000 in
set_option maxRecDepth 100000 in
theorem c_X11_improve (l : Launch) (D : va_G) (g : Nat → ClassId) (sz : Nat) (x : Nat) (tp : Nat) (n : Nat) (dr : Nat) (x_images : Nat) (x_kept : Nat) (rd : Nat) (st : Nat) (tl : Nat) (rg : Nat) (sv : Nat) (oc : Nat) (x_tried : Nat) (lf : Nat) (x_stoppedWays : Nat) (x_stoppedWorth : Nat) (x_withinWorth : Nat) (co : Nat) (sv_keep : Nat) (sv_scaled : Nat) (eq : Nat) (co_place : Nat) (n_kind : Nat) (n_pay : Nat) (n_name : Nat) (n_ways : Nat) (n_held : Nat) (n_targets : Nat) (n_weights : Nat) (lf_part : Nat) (lfw : Int64) (eq_rows : Nat) (eq_right : Nat) (ew : Int64) (fr : Nat → Int64) (rr : Nat → Nat) (f0 : Nat → Int64) (f1 : Nat → Int64) (f2 : Nat → Int64) (f3 : Nat → Int64) (f4 : Nat → Int64) (f5 : Nat → Int64) (f6 : Nat → Int64) (f7 : Nat → Int64) : Met l yX11_improve (.code yX11_improve cX11_improve 2 (some .int) :: wsL_law) ({ frames := 5, cells := 0, slots := 0, locals := 126 }) (va_Pc [.ref x] (fun U => U.heap.size = sz ∧ va_P D vwCl [(x, .inr (11, [.ref tp, .ref n, .ref dr, .ref x_images, .ref x_kept, .ref rd, .ref st, .ref tl, .ref rg, .ref sv, .ref oc, .ref x_tried, .ref lf, .int 0, .ref x_stoppedWays, .ref x_stoppedWorth, .int 0, .ref x_withinWorth])), (sv, .inr (6, [.ref n, .ref co, .ref sv_keep, .ref sv_scaled])), (co, .inr (0, [.ref n, .ref eq, .ref co_place])), (n, .inr (2, [.int 0, .ref n_kind, .ref n_pay, .ref n_name, .ref n_ways, .ref n_held, .ref n_targets, .ref n_weights])), (lf, .inr (10, [.ref lf_part, .long lfw])), (eq, .inr (1, [.ref eq_rows, .ref eq_right, .long ew])), (eq_right, .inl (g 1, 8, .inr (.inl fr))), (eq_rows, .inl (g 5, 8, .inr (.inr (.inr (.inr (fun i => if i < 8 then some (rr i) else none)))))), ((rr 0), .inl (g 1, 8, .inr (.inl f0))), ((rr 1), .inl (g 1, 8, .inr (.inl f1))), ((rr 2), .inl (g 1, 8, .inr (.inl f2))), ((rr 3), .inl (g 1, 8, .inr (.inl f3))), ((rr 4), .inl (g 1, 8, .inr (.inl f4))), ((rr 5), .inl (g 1, 8, .inr (.inl f5))), ((rr 6), .inl (g 1, 8, .inr (.inl f6))), ((rr 7), .inl (g 1, 8, .inr (.inl f7)))] U.heap ∧ va_K D vwCl (TY g) U ∧ va_D (fun _ => True) [(x, .inr (11, [.ref tp, .ref n, .ref dr, .ref x_images, .ref x_kept, .ref rd, .ref st, .ref tl, .ref rg, .ref sv, .ref oc, .ref x_tried, .ref lf, .int 0, .ref x_stoppedWays, .ref x_stoppedWorth, .int 0, .ref x_withinWorth])), (sv, .inr (6, [.ref n, .ref co, .ref sv_keep, .ref sv_scaled])), (co, .inr (0, [.ref n, .ref eq, .ref co_place])), (n, .inr (2, [.int 0, .ref n_kind, .ref n_pay, .ref n_name, .ref n_ways, .ref n_held, .ref n_targets, .ref n_weights])), (lf, .inr (10, [.ref lf_part, .long lfw])), (eq, .inr (1, [.ref eq_rows, .ref eq_right, .long ew])), (eq_right, .inl (g 1, 8, .inr (.inl fr))), (eq_rows, .inl (g 5, 8, .inr (.inr (.inr (.inr (fun i => if i < 8 then some (rr i) else none)))))), ((rr 0), .inl (g 1, 8, .inr (.inl f0))), ((rr 1), .inl (g 1, 8, .inr (.inl f1))), ((rr 2), .inl (g 1, 8, .inr (.inl f2))), ((rr 3), .inl (g 1, 8, .inr (.inl f3))), ((rr 4), .inl (g 1, 8, .inr (.inl f4))), ((rr 5), .inl (g 1, 8, .inr (.inl f5))), ((rr 6), .inl (g 1, 8, .inr (.inl f6))), ((rr 7), .inl (g 1, 8, .inr (.inl f7)))])) (va_Qi (fun r (_ : Unit) => r = 0) (fun _ t => ∃ gr : Nat → Int64, ∃ g0 : Nat → Int64, ∃ g1 : Nat → Int64, ∃ g2 : Nat → Int64, ∃ g3 : Nat → Int64, ∃ g4 : Nat → Int64, ∃ g5 : Nat → Int64, ∃ g6 : Nat → Int64, ∃ g7 : Nat → Int64, va_P D vwCl [(x, .inr (11, [.ref tp, .ref n, .ref dr, .ref x_images, .ref x_kept, .ref rd, .ref st, .ref tl, .ref rg, .ref sv, .ref oc, .ref x_tried, .ref lf, .int 1, .ref x_stoppedWays, .ref x_stoppedWorth, .int 0, .ref x_withinWorth])), (sv, .inr (6, [.ref n, .ref co, .ref sv_keep, .ref sv_scaled])), (co, .inr (0, [.ref n, .ref eq, .ref co_place])), (n, .inr (2, [.int 0, .ref n_kind, .ref n_pay, .ref n_name, .ref n_ways, .ref n_held, .ref n_targets, .ref n_weights])), (lf, .inr (10, [.ref lf_part, .long 1])), (eq, .inr (1, [.ref eq_rows, .ref eq_right, .long 1])), (eq_right, .inl (g 1, 8, .inr (.inl gr))), (eq_rows, .inl (g 5, 8, .inr (.inr (.inr (.inr (fun i => if i < 8 then some (rr i) else none)))))), ((rr 0), .inl (g 1, 8, .inr (.inl g0))), ((rr 1), .inl (g 1, 8, .inr (.inl g1))), ((rr 2), .inl (g 1, 8, .inr (.inl g2))), ((rr 3), .inl (g 1, 8, .inr (.inl g3))), ((rr 4), .inl (g 1, 8, .inr (.inl g4))), ((rr 5), .inl (g 1, 8, .inr (.inl g5))), ((rr 6), .inl (g 1, 8, .inr (.inl g6))), ((rr 7), .inl (g 1, 8, .inr (.inl g7)))] t.heap ∧ va_D (va_A [(x, .inr (11, [.ref tp, .ref n, .ref dr, .ref x_images, .ref x_kept, .ref rd, .ref st, .ref tl, .ref rg, .ref sv, .ref oc, .ref x_tried, .ref lf, .int 0, .ref x_stoppedWays, .ref x_stoppedWorth, .int 0, .ref x_withinWorth])), (sv, .inr (6, [.ref n, .ref co, .ref sv_keep, .ref sv_scaled])), (co, .inr (0, [.ref n, .ref eq, .ref co_place])), (n, .inr (2, [.int 0, .ref n_kind, .ref n_pay, .ref n_name, .ref n_ways, .ref n_held, .ref n_targets, .ref n_weights])), (lf, .inr (10, [.ref lf_part, .long lfw])), (eq, .inr (1, [.ref eq_rows, .ref eq_right, .long ew])), (eq_right, .inl (g 1, 8, .inr (.inl fr))), (eq_rows, .inl (g 5, 8, .inr (.inr (.inr (.inr (fun i => if i < 8 then some (rr i) else none)))))), ((rr 0), .inl (g 1, 8, .inr (.inl f0))), ((rr 1), .inl (g 1, 8, .inr (.inl f1))), ((rr 2), .inl (g 1, 8, .inr (.inl f2))), ((rr 3), .inl (g 1, 8, .inr (.inl f3))), ((rr 4), .inl (g 1, 8, .inr (.inl f4))), ((rr 5), .inl (g 1, 8, .inr (.inl f5))), ((rr 6), .inl (g 1, 8, .inr (.inl f6))), ((rr 7), .inl (g 1, 8, .inr (.inl f7)))] sz) [(x, .inr (11, [.ref tp, .ref n, .ref dr, .ref x_images, .ref x_kept, .ref rd, .ref st, .ref tl, .ref rg, .ref sv, .ref oc, .ref x_tried, .ref lf, .int 1, .ref x_stoppedWays, .ref x_stoppedWorth, .int 0, .ref x_withinWorth])), (sv, .inr (6, [.ref n, .ref co, .ref sv_keep, .ref sv_scaled])), (co, .inr (0, [.ref n, .ref eq, .ref co_place])), (n, .inr (2, [.int 0, .ref n_kind, .ref n_pay, .ref n_name, .ref n_ways, .ref n_held, .ref n_targets, .ref n_weights])), (lf, .inr (10, [.ref lf_part, .long 1])), (eq, .inr (1, [.ref eq_rows, .ref eq_right, .long 1])), (eq_right, .inl (g 1, 8, .inr (.inl gr))), (eq_rows, .inl (g 5, 8, .inr (.inr (.inr (.inr (fun i => if i < 8 then some (rr i) else none)))))), ((rr 0), .inl (g 1, 8, .inr (.inl g0))), ((rr 1), .inl (g 1, 8, .inr (.inl g1))), ((rr 2), .inl (g 1, 8, .inr (.inl g2))), ((rr 3), .inl (g 1, 8, .inr (.inl g3))), ((rr 4), .inl (g 1, 8, .inr (.inl g4))), ((rr 5), .inl (g 1, 8, .inr (.inl g5))), ((rr 6), .inl (g 1, 8, .inr (.inl g6))), ((rr 7), .inl (g 1, 8, .inr (.inl g7)))]) (va_A [(x, .inr (11, [.ref tp, .ref n, .ref dr, .ref x_images, .ref x_kept, .ref rd, .ref st, .ref tl, .ref rg, .ref sv, .ref oc, .ref x_tried, .ref lf, .int 0, .ref x_stoppedWays, .ref x_stoppedWorth, .int 0, .ref x_withinWorth])), (sv, .inr (6, [.ref n, .ref co, .ref sv_keep, .ref sv_scaled])), (co, .inr (0, [.ref n, .ref eq, .ref co_place])), (n, .inr (2, [.int 0, .ref n_kind, .ref n_pay, .ref n_name, .ref n_ways, .ref n_held, .ref n_targets, .ref n_weights])), (lf, .inr (10, [.ref lf_part, .long lfw])), (eq, .inr (1, [.ref eq_rows, .ref eq_right, .long ew])), (eq_right, .inl (g 1, 8, .inr (.inl fr))), (eq_rows, .inl (g 5, 8, .inr (.inr (.inr (.inr (fun i => if i < 8 then some (rr i) else none)))))), ((rr 0), .inl (g 1, 8, .inr (.inl f0))), ((rr 1), .inl (g 1, 8, .inr (.inl f1))), ((rr 2), .inl (g 1, 8, .inr (.inl f2))), ((rr 3), .inl (g 1, 8, .inr (.inl f3))), ((rr 4), .inl (g 1, 8, .inr (.inl f4))), ((rr 5), .inl (g 1, 8, .inr (.inl f5))), ((rr 6), .inl (g 1, 8, .inr (.inl f6))), ((rr 7), .inl (g 1, 8, .inr (.inl f7)))] sz)) 0 0 (va_A [(x, .inr (11, [.ref tp, .ref n, .ref dr, .ref x_images, .ref x_kept, .ref rd, .ref st, .ref tl, .ref rg, .ref sv, .ref oc, .ref x_tried, .ref lf, .int 0, .ref x_stoppedWays, .ref x_stoppedWorth, .int 0, .ref x_withinWorth])), (sv, .inr (6, [.ref n, .ref co, .ref sv_keep, .ref sv_scaled])), (co, .inr (0, [.ref n, .ref eq, .ref co_place])), (n, .inr (2, [.int 0, .ref n_kind, .ref n_pay, .ref n_name, .ref n_ways, .ref n_held, .ref n_targets, .ref n_weights])), (lf, .inr (10, [.ref lf_part, .long lfw])), (eq, .inr (1, [.ref eq_rows, .ref eq_right, .long ew])), (eq_right, .inl (g 1, 8, .inr (.inl fr))), (eq_rows, .inl (g 5, 8, .inr (.inr (.inr (.inr (fun i => if i < 8 then some (rr i) else none)))))), ((rr 0), .inl (g 1, 8, .inr (.inl f0))), ((rr 1), .inl (g 1, 8, .inr (.inl f1))), ((rr 2), .inl (g 1, 8, .inr (.inl f2))), ((rr 3), .inl (g 1, 8, .inr (.inl f3))), ((rr 4), .inl (g 1, 8, .inr (.inl f4))), ((rr 5), .inl (g 1, 8, .inr (.inl f5))), ((rr 6), .inl (g 1, 8, .inr (.inl f6))), ((rr 7), .inl (g 1, 8, .inr (.inl f7)))] sz) := by
  refine Met.ofW (cc := cX11_improve) (maxL := 2) (ret := (some .int)) (by decide) rfl ?_
  intro p e s m args below meth c s₁ B hml hv
  obtain ⟨rfl, hsz, hP, hK, hD0⟩ := hv
  have hx := B.exec
  have hb := B.bytes
  have hr := B.returns
  have hts0 := atoms_spec (ws := (.code yX11_improve cX11_improve 2 (some .int) :: wsL_law)) B.pre
  have hts : ∀ w ∈ wsL_law, w.before _ s = true := fun w h => hts0 w (List.mem_cons_of_mem _ h)
  have hown : s.vm.findClass RX11 = some m.cls := findClass_of_methodNamed B.named
  have hlocks := B.notSynchronized
  subst hsz
  have hD := hD0.self (sz := s.heap.size)
  generalize hAe : va_A [(x, .inr (11, [.ref tp, .ref n, .ref dr, .ref x_images, .ref x_kept, .ref rd, .ref st, .ref tl, .ref rg, .ref sv, .ref oc, .ref x_tried, .ref lf, .int 0, .ref x_stoppedWays, .ref x_stoppedWorth, .int 0, .ref x_withinWorth])), (sv, .inr (6, [.ref n, .ref co, .ref sv_keep, .ref sv_scaled])), (co, .inr (0, [.ref n, .ref eq, .ref co_place])), (n, .inr (2, [.int 0, .ref n_kind, .ref n_pay, .ref n_name, .ref n_ways, .ref n_held, .ref n_targets, .ref n_weights])), (lf, .inr (10, [.ref lf_part, .long lfw])), (eq, .inr (1, [.ref eq_rows, .ref eq_right, .long ew])), (eq_right, .inl (g 1, 8, .inr (.inl fr))), (eq_rows, .inl (g 5, 8, .inr (.inr (.inr (.inr (fun i => if i < 8 then some (rr i) else none)))))), ((rr 0), .inl (g 1, 8, .inr (.inl f0))), ((rr 1), .inl (g 1, 8, .inr (.inl f1))), ((rr 2), .inl (g 1, 8, .inr (.inl f2))), ((rr 3), .inl (g 1, 8, .inr (.inl f3))), ((rr 4), .inl (g 1, 8, .inr (.inl f4))), ((rr 5), .inl (g 1, 8, .inr (.inl f5))), ((rr 6), .inl (g 1, 8, .inr (.inl f6))), ((rr 7), .inl (g 1, 8, .inr (.inl f7)))] s.heap.size = A at hD ⊢
  have hA : ∀ q : Nat, s.heap.size ≤ q → A q := fun q h => by rw [← hAe]; exact Or.inr h
  have hS : va_S A s.heap s.heap [] := va_S.rf
  have hP : va_P D vwCl [(x, .inr (11, [.ref tp, .ref n, .ref dr, .ref x_images, .ref x_kept, .ref rd, .ref st, .ref tl, .ref rg, .ref sv, .ref oc, .ref x_tried, .ref lf, .int 0, .ref x_stoppedWays, .ref x_stoppedWorth, .int 0, .ref x_withinWorth])), (sv, .inr (6, [.ref n, .ref co, .ref sv_keep, .ref sv_scaled])), (co, .inr (0, [.ref n, .ref eq, .ref co_place])), (n, .inr (2, [.int 0, .ref n_kind, .ref n_pay, .ref n_name, .ref n_ways, .ref n_held, .ref n_targets, .ref n_weights])), (lf, .inr (10, [.ref lf_part, .long lfw])), (eq, .inr (1, [.ref eq_rows, .ref eq_right, .long ew])), (eq_right, .inl (g 1, 8, .inr (.inl fr))), (eq_rows, .inl (g 5, 8, .inr (.inr (.inr (.inr (fun i => if i < 8 then some (rr i) else none)))))), ((rr 0), .inl (g 1, 8, .inr (.inl f0))), ((rr 1), .inl (g 1, 8, .inr (.inl f1))), ((rr 2), .inl (g 1, 8, .inr (.inl f2))), ((rr 3), .inl (g 1, 8, .inr (.inl f3))), ((rr 4), .inl (g 1, 8, .inr (.inl f4))), ((rr 5), .inl (g 1, 8, .inr (.inl f5))), ((rr 6), .inl (g 1, 8, .inr (.inl f6))), ((rr 7), .inl (g 1, 8, .inr (.inl f7)))] s.heap := hP
  have hl := lv_entry ([.ref x]) (n := 2) (Nat.le_of_ble_eq_true rfl)
  rw [lg_entry_eq]
  generalize (lg_sl ([.ref x]) ++ List.replicate (2 - (lg_sl ([.ref x])).length) Slot.unset).toArray = ls at hl ⊢
  have hl : lv_has ls 2 [(0, .ref x)] := hl
  refine lv_aload_n hx hb dX11_improve_0 rfl (lv_at hl 0 rfl) ?_
  have hPc := hP.sub (ws' := [(x, .inr (11, [.ref tp, .ref n, .ref dr, .ref x_images, .ref x_kept, .ref rd, .ref st, .ref tl, .ref rg, .ref sv, .ref oc, .ref x_tried, .ref lf, .int 0, .ref x_stoppedWays, .ref x_stoppedWorth, .int 0, .ref x_withinWorth])), (sv, .inr (6, [.ref n, .ref co, .ref sv_keep, .ref sv_scaled])), (co, .inr (0, [.ref n, .ref eq, .ref co_place])), (n, .inr (2, [.int 0, .ref n_kind, .ref n_pay, .ref n_name, .ref n_ways, .ref n_held, .ref n_targets, .ref n_weights])), (lf, .inr (10, [.ref lf_part, .long lfw])), (eq, .inr (1, [.ref eq_rows, .ref eq_right, .long ew])), (eq_right, .inl (g 1, 8, .inr (.inl fr))), (eq_rows, .inl (g 5, 8, .inr (.inr (.inr (.inr (fun i => if i < 8 then some (rr i) else none)))))), ((rr 0), .inl (g 1, 8, .inr (.inl f0))), ((rr 1), .inl (g 1, 8, .inr (.inl f1))), ((rr 2), .inl (g 1, 8, .inr (.inl f2))), ((rr 3), .inl (g 1, 8, .inr (.inl f3))), ((rr 4), .inl (g 1, 8, .inr (.inl f4))), ((rr 5), .inl (g 1, 8, .inr (.inl f5))), ((rr 6), .inl (g 1, 8, .inr (.inl f6))), ((rr 7), .inl (g 1, 8, .inr (.inl f7)))]) [0, 1, 2, 3, 4, 5, 6, 7, 8, 9, 10, 11, 12, 13, 14, 15] rfl
  have hDc := hD.sub (ws' := [(x, .inr (11, [.ref tp, .ref n, .ref dr, .ref x_images, .ref x_kept, .ref rd, .ref st, .ref tl, .ref rg, .ref sv, .ref oc, .ref x_tried, .ref lf, .int 0, .ref x_stoppedWays, .ref x_stoppedWorth, .int 0, .ref x_withinWorth])), (sv, .inr (6, [.ref n, .ref co, .ref sv_keep, .ref sv_scaled])), (co, .inr (0, [.ref n, .ref eq, .ref co_place])), (n, .inr (2, [.int 0, .ref n_kind, .ref n_pay, .ref n_name, .ref n_ways, .ref n_held, .ref n_targets, .ref n_weights])), (lf, .inr (10, [.ref lf_part, .long lfw])), (eq, .inr (1, [.ref eq_rows, .ref eq_right, .long ew])), (eq_right, .inl (g 1, 8, .inr (.inl fr))), (eq_rows, .inl (g 5, 8, .inr (.inr (.inr (.inr (fun i => if i < 8 then some (rr i) else none)))))), ((rr 0), .inl (g 1, 8, .inr (.inl f0))), ((rr 1), .inl (g 1, 8, .inr (.inl f1))), ((rr 2), .inl (g 1, 8, .inr (.inl f2))), ((rr 3), .inl (g 1, 8, .inr (.inl f3))), ((rr 4), .inl (g 1, 8, .inr (.inl f4))), ((rr 5), .inl (g 1, 8, .inr (.inl f5))), ((rr 6), .inl (g 1, 8, .inr (.inl f6))), ((rr 7), .inl (g 1, 8, .inr (.inl f7)))]) [0, 1, 2, 3, 4, 5, 6, 7, 8, 9, 10, 11, 12, 13, 14, 15] (by decide) rfl
  have hFc := va_free (wc := [(x, .inr (11, [.ref tp, .ref n, .ref dr, .ref x_images, .ref x_kept, .ref rd, .ref st, .ref tl, .ref rg, .ref sv, .ref oc, .ref x_tried, .ref lf, .int 0, .ref x_stoppedWays, .ref x_stoppedWorth, .int 0, .ref x_withinWorth])), (sv, .inr (6, [.ref n, .ref co, .ref sv_keep, .ref sv_scaled])), (co, .inr (0, [.ref n, .ref eq, .ref co_place])), (n, .inr (2, [.int 0, .ref n_kind, .ref n_pay, .ref n_name, .ref n_ways, .ref n_held, .ref n_targets, .ref n_weights])), (lf, .inr (10, [.ref lf_part, .long lfw])), (eq, .inr (1, [.ref eq_rows, .ref eq_right, .long ew])), (eq_right, .inl (g 1, 8, .inr (.inl fr))), (eq_rows, .inl (g 5, 8, .inr (.inr (.inr (.inr (fun i => if i < 8 then some (rr i) else none)))))), ((rr 0), .inl (g 1, 8, .inr (.inl f0))), ((rr 1), .inl (g 1, 8, .inr (.inl f1))), ((rr 2), .inl (g 1, 8, .inr (.inl f2))), ((rr 3), .inl (g 1, 8, .inr (.inl f3))), ((rr 4), .inl (g 1, 8, .inr (.inl f4))), ((rr 5), .inl (g 1, 8, .inr (.inl f5))), ((rr 6), .inl (g 1, 8, .inr (.inl f6))), ((rr 7), .inl (g 1, 8, .inr (.inl f7)))]) hD hS hA [0, 1, 2, 3, 4, 5, 6, 7, 8, 9, 10, 11, 12, 13, 14, 15] rfl
  refine va_callv (va_runV (As := []) (rest := []) ⟨hx, hb, hml, hown, hts⟩ (c_X11_knowLeft l D g s.heap.size x tp n dr x_images x_kept rd st tl rg sv oc x_tried lf x_stoppedWays x_stoppedWorth x_withinWorth co sv_keep sv_scaled eq co_place n_kind n_pay n_name n_ways n_held n_targets n_weights lf_part lfw eq_rows eq_right ew fr rr f0 f1 f2 f3 f4 f5 f6 f7) (cwV 0 hts (tz_gV qw_162 qw_163 qw_164 qw_165 qw_166) rfl rfl rfl (by decide +kernel) ⟨Nat.le_of_ble_eq_true rfl, Nat.le_of_ble_eq_true rfl⟩) ⟨tz_blQ, va_recv hK hPc (ci := 11) (q0 := 0) rfl rfl, tz_preQ hPc hK hDc⟩ rfl rfl hl.1 rfl (lv_room (Nat.le_of_ble_eq_true rfl)) dX11_improve_1 ⟨Nat.le_of_ble_eq_true rfl, Nat.le_of_ble_eq_true rfl⟩) hS (fun q _ h => hFc q h) hFc (fun u t H1 locs ht hvm hw hB hz1 hk1 hS => ?_)
  obtain ⟨gr_158, g0_159, g1_160, g2_161, g3_162, g4_163, g5_164, g6_165, g7_166, hP1, hD1⟩ := hB
  rw [ht] at hP1
  obtain ⟨hP, hD⟩ := va_join (wr := []) (w1 := [(x, .inr (11, [.ref tp, .ref n, .ref dr, .ref x_images, .ref x_kept, .ref rd, .ref st, .ref tl, .ref rg, .ref sv, .ref oc, .ref x_tried, .ref lf, .int 1, .ref x_stoppedWays, .ref x_stoppedWorth, .int 0, .ref x_withinWorth])), (sv, .inr (6, [.ref n, .ref co, .ref sv_keep, .ref sv_scaled])), (co, .inr (0, [.ref n, .ref eq, .ref co_place])), (n, .inr (2, [.int 0, .ref n_kind, .ref n_pay, .ref n_name, .ref n_ways, .ref n_held, .ref n_targets, .ref n_weights])), (lf, .inr (10, [.ref lf_part, .long 1])), (eq, .inr (1, [.ref eq_rows, .ref eq_right, .long 1])), (eq_right, .inl (g 1, 8, .inr (.inl gr_158))), (eq_rows, .inl (g 5, 8, .inr (.inr (.inr (.inr (fun i => if i < 8 then some (rr i) else none)))))), ((rr 0), .inl (g 1, 8, .inr (.inl g0_159))), ((rr 1), .inl (g 1, 8, .inr (.inl g1_160))), ((rr 2), .inl (g 1, 8, .inr (.inl g2_161))), ((rr 3), .inl (g 1, 8, .inr (.inl g3_162))), ((rr 4), .inl (g 1, 8, .inr (.inl g4_163))), ((rr 5), .inl (g 1, 8, .inr (.inl g5_164))), ((rr 6), .inl (g 1, 8, .inr (.inl g6_165))), ((rr 7), .inl (g 1, 8, .inr (.inl g7_166)))]) hP hD [0, 1, 2, 3, 4, 5, 6, 7, 8, 9, 10, 11, 12, 13, 14, 15] [] rfl rfl (by decide) (by decide) hk1 hFc hP1 hD1
  generalize H1 = H at hP hS ⊢
  have hP : va_P D vwCl [(x, .inr (11, [.ref tp, .ref n, .ref dr, .ref x_images, .ref x_kept, .ref rd, .ref st, .ref tl, .ref rg, .ref sv, .ref oc, .ref x_tried, .ref lf, .int 1, .ref x_stoppedWays, .ref x_stoppedWorth, .int 0, .ref x_withinWorth])), (sv, .inr (6, [.ref n, .ref co, .ref sv_keep, .ref sv_scaled])), (co, .inr (0, [.ref n, .ref eq, .ref co_place])), (n, .inr (2, [.int 0, .ref n_kind, .ref n_pay, .ref n_name, .ref n_ways, .ref n_held, .ref n_targets, .ref n_weights])), (lf, .inr (10, [.ref lf_part, .long 1])), (eq, .inr (1, [.ref eq_rows, .ref eq_right, .long 1])), (eq_right, .inl (g 1, 8, .inr (.inl gr_158))), (eq_rows, .inl (g 5, 8, .inr (.inr (.inr (.inr (fun i => if i < 8 then some (rr i) else none)))))), ((rr 0), .inl (g 1, 8, .inr (.inl g0_159))), ((rr 1), .inl (g 1, 8, .inr (.inl g1_160))), ((rr 2), .inl (g 1, 8, .inr (.inl g2_161))), ((rr 3), .inl (g 1, 8, .inr (.inl g3_162))), ((rr 4), .inl (g 1, 8, .inr (.inl g4_163))), ((rr 5), .inl (g 1, 8, .inr (.inl g5_164))), ((rr 6), .inl (g 1, 8, .inr (.inl g6_165))), ((rr 7), .inl (g 1, 8, .inr (.inl g7_166)))] H := hP
  have hD : va_D A [(x, .inr (11, [.ref tp, .ref n, .ref dr, .ref x_images, .ref x_kept, .ref rd, .ref st, .ref tl, .ref rg, .ref sv, .ref oc, .ref x_tried, .ref lf, .int 1, .ref x_stoppedWays, .ref x_stoppedWorth, .int 0, .ref x_withinWorth])), (sv, .inr (6, [.ref n, .ref co, .ref sv_keep, .ref sv_scaled])), (co, .inr (0, [.ref n, .ref eq, .ref co_place])), (n, .inr (2, [.int 0, .ref n_kind, .ref n_pay, .ref n_name, .ref n_ways, .ref n_held, .ref n_targets, .ref n_weights])), (lf, .inr (10, [.ref lf_part, .long 1])), (eq, .inr (1, [.ref eq_rows, .ref eq_right, .long 1])), (eq_right, .inl (g 1, 8, .inr (.inl gr_158))), (eq_rows, .inl (g 5, 8, .inr (.inr (.inr (.inr (fun i => if i < 8 then some (rr i) else none)))))), ((rr 0), .inl (g 1, 8, .inr (.inl g0_159))), ((rr 1), .inl (g 1, 8, .inr (.inl g1_160))), ((rr 2), .inl (g 1, 8, .inr (.inl g2_161))), ((rr 3), .inl (g 1, 8, .inr (.inl g3_162))), ((rr 4), .inl (g 1, 8, .inr (.inl g4_163))), ((rr 5), .inl (g 1, 8, .inr (.inl g5_164))), ((rr 6), .inl (g 1, 8, .inr (.inl g6_165))), ((rr 7), .inl (g 1, 8, .inr (.inl g7_166)))] := hD
  refine lv_aload_n hx hb dX11_improve_4 rfl (lv_at hl 0 rfl) ?_
  refine va_get (D := D) (ci := 11) (v := .ref sv) (C := RX11) (T := TX11) (N := 18) hx hb hts inlX11 hown hK hP 0 rfl rfl 9 (by decide) (hts (Cond.fieldLink RX11 69 "ChanceRings" "solver" "LChanceRings$Solver;") qw_158) (fun _ h9 => h9) rfl dX11_improve_5 ?_
  refine lv_iconst (v := 1) hx hb dX11_improve_8 (by decide) ?_
  refine lv_aload_n hx hb dX11_improve_9 rfl (lv_at hl 0 rfl) ?_
  refine va_get (D := D) (ci := 11) (v := .ref x_tried) (C := RX11) (T := TX11) (N := 18) hx hb hts inlX11 hown hK hP 0 rfl rfl 11 (by decide) (hts (Cond.fieldLink RX11 82 "ChanceRings" "tried" "[I") qw_159) (fun _ h9 => h9) rfl dX11_improve_10 ?_
  refine lv_aload_n hx hb dX11_improve_13 rfl (lv_at hl 0 rfl) ?_
  refine va_get (D := D) (ci := 11) (v := .ref lf) (C := RX11) (T := TX11) (N := 18) hx hb hts inlX11 hown hK hP 0 rfl rfl 12 (by decide) (hts (Cond.fieldLink RX11 89 "ChanceRings" "left" "LChanceRings$Values;") qw_160) (fun _ h9 => h9) rfl dX11_improve_14 ?_
  have hPc := hP.sub (ws' := [(sv, .inr (6, [.ref n, .ref co, .ref sv_keep, .ref sv_scaled])), (n, .inr (2, [.int 0, .ref n_kind, .ref n_pay, .ref n_name, .ref n_ways, .ref n_held, .ref n_targets, .ref n_weights]))]) [1, 3] rfl
  refine vp_callSi (va_Run.run (va_runV (As := [.int 1, .ref x_tried, .ref lf]) (rest := []) ⟨hx, hb, hml, hown, hts⟩ (c_X6_turn l D g sv 1 x_tried lf n co sv_keep sv_scaled n_kind n_pay n_name n_ways n_held n_targets n_weights) (cwV 3 hts (tz_gV qw_167 qw_76 qw_77 qw_11 qw_78) rfl rfl rfl (by decide +kernel) ⟨Nat.le_of_ble_eq_true rfl, Nat.le_of_ble_eq_true rfl⟩) ⟨tz_blS, va_recv hK hPc (ci := 6) (q0 := 0) rfl rfl, tz_preS hPc hK⟩ rfl rfl hl.1 rfl (lv_room (Nat.le_of_ble_eq_true rfl)) dX11_improve_17 ⟨Nat.le_of_ble_eq_true rfl, Nat.le_of_ble_eq_true rfl⟩)) (fun r_167 hw => ?_)
  subst hw
  refine lv_istore_n (lv' := [(1, .int 0), (0, .ref x)]) hx hb dX11_improve_20 rfl hl (by decide) rfl (fun ls hl => ?_)
  refine lv_iload_n hx hb dX11_improve_21 rfl (lv_at hl 0 rfl) ?_
  refine lv_if_le (tgt := 30) hx hb dX11_improve_22 (by decide) (fun _ => ?_) (fun h9 => (h9 (by decide)).elim)
  refine lv_iload_n hx hb dX11_improve_30 rfl (lv_at hl 0 rfl) ?_
  have hP9 := hP.sub (ws' := [(x, .inr (11, [.ref tp, .ref n, .ref dr, .ref x_images, .ref x_kept, .ref rd, .ref st, .ref tl, .ref rg, .ref sv, .ref oc, .ref x_tried, .ref lf, .int 1, .ref x_stoppedWays, .ref x_stoppedWorth, .int 0, .ref x_withinWorth])), (sv, .inr (6, [.ref n, .ref co, .ref sv_keep, .ref sv_scaled])), (co, .inr (0, [.ref n, .ref eq, .ref co_place])), (n, .inr (2, [.int 0, .ref n_kind, .ref n_pay, .ref n_name, .ref n_ways, .ref n_held, .ref n_targets, .ref n_weights])), (lf, .inr (10, [.ref lf_part, .long 1])), (eq, .inr (1, [.ref eq_rows, .ref eq_right, .long 1])), (eq_right, .inl (g 1, 8, .inr (.inl gr_158))), (eq_rows, .inl (g 5, 8, .inr (.inr (.inr (.inr (fun i => if i < 8 then some (rr i) else none)))))), ((rr 0), .inl (g 1, 8, .inr (.inl g0_159))), ((rr 1), .inl (g 1, 8, .inr (.inl g1_160))), ((rr 2), .inl (g 1, 8, .inr (.inl g2_161))), ((rr 3), .inl (g 1, 8, .inr (.inl g3_162))), ((rr 4), .inl (g 1, 8, .inr (.inl g4_163))), ((rr 5), .inl (g 1, 8, .inr (.inl g5_164))), ((rr 6), .inl (g 1, 8, .inr (.inl g6_165))), ((rr 7), .inl (g 1, 8, .inr (.inl g7_166)))]) [0, 1, 2, 3, 4, 5, 6, 7, 8, 9, 10, 11, 12, 13, 14, 15] rfl
  have hD9 := hD.sub (ws' := [(x, .inr (11, [.ref tp, .ref n, .ref dr, .ref x_images, .ref x_kept, .ref rd, .ref st, .ref tl, .ref rg, .ref sv, .ref oc, .ref x_tried, .ref lf, .int 1, .ref x_stoppedWays, .ref x_stoppedWorth, .int 0, .ref x_withinWorth])), (sv, .inr (6, [.ref n, .ref co, .ref sv_keep, .ref sv_scaled])), (co, .inr (0, [.ref n, .ref eq, .ref co_place])), (n, .inr (2, [.int 0, .ref n_kind, .ref n_pay, .ref n_name, .ref n_ways, .ref n_held, .ref n_targets, .ref n_weights])), (lf, .inr (10, [.ref lf_part, .long 1])), (eq, .inr (1, [.ref eq_rows, .ref eq_right, .long 1])), (eq_right, .inl (g 1, 8, .inr (.inl gr_158))), (eq_rows, .inl (g 5, 8, .inr (.inr (.inr (.inr (fun i => if i < 8 then some (rr i) else none)))))), ((rr 0), .inl (g 1, 8, .inr (.inl g0_159))), ((rr 1), .inl (g 1, 8, .inr (.inl g1_160))), ((rr 2), .inl (g 1, 8, .inr (.inl g2_161))), ((rr 3), .inl (g 1, 8, .inr (.inl g3_162))), ((rr 4), .inl (g 1, 8, .inr (.inl g4_163))), ((rr 5), .inl (g 1, 8, .inr (.inl g5_164))), ((rr 6), .inl (g 1, 8, .inr (.inl g6_165))), ((rr 7), .inl (g 1, 8, .inr (.inl g7_166)))]) [0, 1, 2, 3, 4, 5, 6, 7, 8, 9, 10, 11, 12, 13, 14, 15] (by decide) rfl
  exact W.iret (v := 0) hx hb hr (fun t ht hW => ⟨⟨0, (), rfl, rfl, gr_158, g0_159, g1_160, g2_161, g3_162, g4_163, g5_164, g6_165, g7_166, by rw [ht]; exact hP9, hD9⟩, hS.F ht⟩) hS.2.2 dX11_improve_31
set_option maxHeartbeats 4000000 in
set_option maxRecDepth 100000 in
theorem c_X11_improveAll (l : Launch) (D : va_G) (g : Nat → ClassId) (sz : Nat) (x : Nat) (tp : Nat) (n : Nat) (dr : Nat) (x_images : Nat) (x_kept : Nat) (rd : Nat) (st : Nat) (tl : Nat) (rg : Nat) (sv : Nat) (oc : Nat) (x_tried : Nat) (lf : Nat) (x_stoppedWays : Nat) (x_stoppedWorth : Nat) (x_withinWorth : Nat) (co : Nat) (sv_keep : Nat) (sv_scaled : Nat) (eq : Nat) (co_place : Nat) (n_kind : Nat) (n_pay : Nat) (n_name : Nat) (n_ways : Nat) (n_held : Nat) (n_targets : Nat) (n_weights : Nat) (lf_part : Nat) (lfw : Int64) (eq_rows : Nat) (eq_right : Nat) (ew : Int64) (fr : Nat → Int64) (rr : Nat → Nat) (f0 : Nat → Int64) (f1 : Nat → Int64) (f2 : Nat → Int64) (f3 : Nat → Int64) (f4 : Nat → Int64) (f5 : Nat → Int64) (f6 : Nat → Int64) (f7 : Nat → Int64) : Met l yX11_improveAll (.code yX11_improveAll cX11_improveAll 4 (some .int) :: wsL_law) ({ frames := 6, cells := 0, slots := 0, locals := 147 }) (va_Pc [.ref x] (fun U => U.heap.size = sz ∧ va_P D vwCl [(x, .inr (11, [.ref tp, .ref n, .ref dr, .ref x_images, .ref x_kept, .ref rd, .ref st, .ref tl, .ref rg, .ref sv, .ref oc, .ref x_tried, .ref lf, .int 0, .ref x_stoppedWays, .ref x_stoppedWorth, .int 0, .ref x_withinWorth])), (sv, .inr (6, [.ref n, .ref co, .ref sv_keep, .ref sv_scaled])), (co, .inr (0, [.ref n, .ref eq, .ref co_place])), (n, .inr (2, [.int 0, .ref n_kind, .ref n_pay, .ref n_name, .ref n_ways, .ref n_held, .ref n_targets, .ref n_weights])), (lf, .inr (10, [.ref lf_part, .long lfw])), (eq, .inr (1, [.ref eq_rows, .ref eq_right, .long ew])), (eq_right, .inl (g 1, 8, .inr (.inl fr))), (eq_rows, .inl (g 5, 8, .inr (.inr (.inr (.inr (fun i => if i < 8 then some (rr i) else none)))))), ((rr 0), .inl (g 1, 8, .inr (.inl f0))), ((rr 1), .inl (g 1, 8, .inr (.inl f1))), ((rr 2), .inl (g 1, 8, .inr (.inl f2))), ((rr 3), .inl (g 1, 8, .inr (.inl f3))), ((rr 4), .inl (g 1, 8, .inr (.inl f4))), ((rr 5), .inl (g 1, 8, .inr (.inl f5))), ((rr 6), .inl (g 1, 8, .inr (.inl f6))), ((rr 7), .inl (g 1, 8, .inr (.inl f7)))] U.heap ∧ va_K D vwCl (TY g) U ∧ va_D (fun _ => True) [(x, .inr (11, [.ref tp, .ref n, .ref dr, .ref x_images, .ref x_kept, .ref rd, .ref st, .ref tl, .ref rg, .ref sv, .ref oc, .ref x_tried, .ref lf, .int 0, .ref x_stoppedWays, .ref x_stoppedWorth, .int 0, .ref x_withinWorth])), (sv, .inr (6, [.ref n, .ref co, .ref sv_keep, .ref sv_scaled])), (co, .inr (0, [.ref n, .ref eq, .ref co_place])), (n, .inr (2, [.int 0, .ref n_kind, .ref n_pay, .ref n_name, .ref n_ways, .ref n_held, .ref n_targets, .ref n_weights])), (lf, .inr (10, [.ref lf_part, .long lfw])), (eq, .inr (1, [.ref eq_rows, .ref eq_right, .long ew])), (eq_right, .inl (g 1, 8, .inr (.inl fr))), (eq_rows, .inl (g 5, 8, .inr (.inr (.inr (.inr (fun i => if i < 8 then some (rr i) else none)))))), ((rr 0), .inl (g 1, 8, .inr (.inl f0))), ((rr 1), .inl (g 1, 8, .inr (.inl f1))), ((rr 2), .inl (g 1, 8, .inr (.inl f2))), ((rr 3), .inl (g 1, 8, .inr (.inl f3))), ((rr 4), .inl (g 1, 8, .inr (.inl f4))), ((rr 5), .inl (g 1, 8, .inr (.inl f5))), ((rr 6), .inl (g 1, 8, .inr (.inl f6))), ((rr 7), .inl (g 1, 8, .inr (.inl f7)))])) (va_Qi (fun r (_ : Unit) => r = 0) (fun _ _ => True) (va_A [(x, .inr (11, [.ref tp, .ref n, .ref dr, .ref x_images, .ref x_kept, .ref rd, .ref st, .ref tl, .ref rg, .ref sv, .ref oc, .ref x_tried, .ref lf, .int 0, .ref x_stoppedWays, .ref x_stoppedWorth, .int 0, .ref x_withinWorth])), (sv, .inr (6, [.ref n, .ref co, .ref sv_keep, .ref sv_scaled])), (co, .inr (0, [.ref n, .ref eq, .ref co_place])), (n, .inr (2, [.int 0, .ref n_kind, .ref n_pay, .ref n_name, .ref n_ways, .ref n_held, .ref n_targets, .ref n_weights])), (lf, .inr (10, [.ref lf_part, .long lfw])), (eq, .inr (1, [.ref eq_rows, .ref eq_right, .long ew])), (eq_right, .inl (g 1, 8, .inr (.inl fr))), (eq_rows, .inl (g 5, 8, .inr (.inr (.inr (.inr (fun i => if i < 8 then some (rr i) else none)))))), ((rr 0), .inl (g 1, 8, .inr (.inl f0))), ((rr 1), .inl (g 1, 8, .inr (.inl f1))), ((rr 2), .inl (g 1, 8, .inr (.inl f2))), ((rr 3), .inl (g 1, 8, .inr (.inl f3))), ((rr 4), .inl (g 1, 8, .inr (.inl f4))), ((rr 5), .inl (g 1, 8, .inr (.inl f5))), ((rr 6), .inl (g 1, 8, .inr (.inl f6))), ((rr 7), .inl (g 1, 8, .inr (.inl f7)))] sz)) 0 0 (va_A [(x, .inr (11, [.ref tp, .ref n, .ref dr, .ref x_images, .ref x_kept, .ref rd, .ref st, .ref tl, .ref rg, .ref sv, .ref oc, .ref x_tried, .ref lf, .int 0, .ref x_stoppedWays, .ref x_stoppedWorth, .int 0, .ref x_withinWorth])), (sv, .inr (6, [.ref n, .ref co, .ref sv_keep, .ref sv_scaled])), (co, .inr (0, [.ref n, .ref eq, .ref co_place])), (n, .inr (2, [.int 0, .ref n_kind, .ref n_pay, .ref n_name, .ref n_ways, .ref n_held, .ref n_targets, .ref n_weights])), (lf, .inr (10, [.ref lf_part, .long lfw])), (eq, .inr (1, [.ref eq_rows, .ref eq_right, .long ew])), (eq_right, .inl (g 1, 8, .inr (.inl fr))), (eq_rows, .inl (g 5, 8, .inr (.inr (.inr (.inr (fun i => if i < 8 then some (rr i) else none)))))), ((rr 0), .inl (g 1, 8, .inr (.inl f0))), ((rr 1), .inl (g 1, 8, .inr (.inl f1))), ((rr 2), .inl (g 1, 8, .inr (.inl f2))), ((rr 3), .inl (g 1, 8, .inr (.inl f3))), ((rr 4), .inl (g 1, 8, .inr (.inl f4))), ((rr 5), .inl (g 1, 8, .inr (.inl f5))), ((rr 6), .inl (g 1, 8, .inr (.inl f6))), ((rr 7), .inl (g 1, 8, .inr (.inl f7)))] sz) := by
  refine Met.ofW (cc := cX11_improveAll) (maxL := 4) (ret := (some .int)) (by decide) rfl ?_
  intro p e s m args below meth c s₁ B hml hv
  obtain ⟨rfl, hsz, hP, hK, hD0⟩ := hv
  have hx := B.exec
  have hb := B.bytes
  have hr := B.returns
  have hts0 := atoms_spec (ws := (.code yX11_improveAll cX11_improveAll 4 (some .int) :: wsL_law)) B.pre
  have hts : ∀ w ∈ wsL_law, w.before _ s = true := fun w h => hts0 w (List.mem_cons_of_mem _ h)
  have hown : s.vm.findClass RX11 = some m.cls := findClass_of_methodNamed B.named
  have hlocks := B.notSynchronized
  subst hsz
  have hD := hD0.self (sz := s.heap.size)
  generalize hAe : va_A [(x, .inr (11, [.ref tp, .ref n, .ref dr, .ref x_images, .ref x_kept, .ref rd, .ref st, .ref tl, .ref rg, .ref sv, .ref oc, .ref x_tried, .ref lf, .int 0, .ref x_stoppedWays, .ref x_stoppedWorth, .int 0, .ref x_withinWorth])), (sv, .inr (6, [.ref n, .ref co, .ref sv_keep, .ref sv_scaled])), (co, .inr (0, [.ref n, .ref eq, .ref co_place])), (n, .inr (2, [.int 0, .ref n_kind, .ref n_pay, .ref n_name, .ref n_ways, .ref n_held, .ref n_targets, .ref n_weights])), (lf, .inr (10, [.ref lf_part, .long lfw])), (eq, .inr (1, [.ref eq_rows, .ref eq_right, .long ew])), (eq_right, .inl (g 1, 8, .inr (.inl fr))), (eq_rows, .inl (g 5, 8, .inr (.inr (.inr (.inr (fun i => if i < 8 then some (rr i) else none)))))), ((rr 0), .inl (g 1, 8, .inr (.inl f0))), ((rr 1), .inl (g 1, 8, .inr (.inl f1))), ((rr 2), .inl (g 1, 8, .inr (.inl f2))), ((rr 3), .inl (g 1, 8, .inr (.inl f3))), ((rr 4), .inl (g 1, 8, .inr (.inl f4))), ((rr 5), .inl (g 1, 8, .inr (.inl f5))), ((rr 6), .inl (g 1, 8, .inr (.inl f6))), ((rr 7), .inl (g 1, 8, .inr (.inl f7)))] s.heap.size = A at hD ⊢
  have hA : ∀ q : Nat, s.heap.size ≤ q → A q := fun q h => by rw [← hAe]; exact Or.inr h
  have hS : va_S A s.heap s.heap [] := va_S.rf
  have hP : va_P D vwCl [(x, .inr (11, [.ref tp, .ref n, .ref dr, .ref x_images, .ref x_kept, .ref rd, .ref st, .ref tl, .ref rg, .ref sv, .ref oc, .ref x_tried, .ref lf, .int 0, .ref x_stoppedWays, .ref x_stoppedWorth, .int 0, .ref x_withinWorth])), (sv, .inr (6, [.ref n, .ref co, .ref sv_keep, .ref sv_scaled])), (co, .inr (0, [.ref n, .ref eq, .ref co_place])), (n, .inr (2, [.int 0, .ref n_kind, .ref n_pay, .ref n_name, .ref n_ways, .ref n_held, .ref n_targets, .ref n_weights])), (lf, .inr (10, [.ref lf_part, .long lfw])), (eq, .inr (1, [.ref eq_rows, .ref eq_right, .long ew])), (eq_right, .inl (g 1, 8, .inr (.inl fr))), (eq_rows, .inl (g 5, 8, .inr (.inr (.inr (.inr (fun i => if i < 8 then some (rr i) else none)))))), ((rr 0), .inl (g 1, 8, .inr (.inl f0))), ((rr 1), .inl (g 1, 8, .inr (.inl f1))), ((rr 2), .inl (g 1, 8, .inr (.inl f2))), ((rr 3), .inl (g 1, 8, .inr (.inl f3))), ((rr 4), .inl (g 1, 8, .inr (.inl f4))), ((rr 5), .inl (g 1, 8, .inr (.inl f5))), ((rr 6), .inl (g 1, 8, .inr (.inl f6))), ((rr 7), .inl (g 1, 8, .inr (.inl f7)))] s.heap := hP
  have hl := lv_entry ([.ref x]) (n := 4) (Nat.le_of_ble_eq_true rfl)
  rw [lg_entry_eq]
  generalize (lg_sl ([.ref x]) ++ List.replicate (4 - (lg_sl ([.ref x])).length) Slot.unset).toArray = ls at hl ⊢
  have hl : lv_has ls 4 [(0, .ref x)] := hl
  refine lv_iconst (v := 0) hx hb dX11_improveAll_0 (by decide) ?_
  refine lv_istore_n (lv' := [(1, .int 0), (0, .ref x)]) hx hb dX11_improveAll_1 rfl hl (by decide) rfl (fun ls hl => ?_)
  refine lv_iconst (v := 1) hx hb dX11_improveAll_2 (by decide) ?_
  refine lv_istore_n (lv' := [(2, .int 1), (1, .int 0), (0, .ref x)]) hx hb dX11_improveAll_3 rfl hl (by decide) rfl (fun ls hl => ?_)
  refine lv_iconst (v := 0) hx hb dX11_improveAll_4 (by decide) ?_
  refine lv_istore_n (lv' := [(3, .int 0), (2, .int 1), (1, .int 0), (0, .ref x)]) hx hb dX11_improveAll_5 rfl hl (by decide) rfl (fun ls hl => ?_)
  refine lv_iload_n hx hb dX11_improveAll_6 rfl (lv_at hl 1 rfl) ?_
  refine lv_if_eq (tgt := 43) hx hb dX11_improveAll_7 (by decide) (fun h9 => absurd h9 (by decide)) (fun _ => ?_)
  refine lv_iload_n hx hb dX11_improveAll_10 rfl (lv_at hl 0 rfl) ?_
  refine lv_sipush (v := 6561) hx hb dX11_improveAll_11 (by decide) ?_
  refine lv_icmp_ge (tgt := 43) hx hb dX11_improveAll_14 (by decide) (fun h9 => absurd h9 (by decide)) (fun _ => ?_)
  refine lv_aload_n hx hb dX11_improveAll_17 rfl (lv_at hl 3 rfl) ?_
  have hPc := hP.sub (ws' := [(x, .inr (11, [.ref tp, .ref n, .ref dr, .ref x_images, .ref x_kept, .ref rd, .ref st, .ref tl, .ref rg, .ref sv, .ref oc, .ref x_tried, .ref lf, .int 0, .ref x_stoppedWays, .ref x_stoppedWorth, .int 0, .ref x_withinWorth])), (sv, .inr (6, [.ref n, .ref co, .ref sv_keep, .ref sv_scaled])), (co, .inr (0, [.ref n, .ref eq, .ref co_place])), (n, .inr (2, [.int 0, .ref n_kind, .ref n_pay, .ref n_name, .ref n_ways, .ref n_held, .ref n_targets, .ref n_weights])), (lf, .inr (10, [.ref lf_part, .long lfw])), (eq, .inr (1, [.ref eq_rows, .ref eq_right, .long ew])), (eq_right, .inl (g 1, 8, .inr (.inl fr))), (eq_rows, .inl (g 5, 8, .inr (.inr (.inr (.inr (fun i => if i < 8 then some (rr i) else none)))))), ((rr 0), .inl (g 1, 8, .inr (.inl f0))), ((rr 1), .inl (g 1, 8, .inr (.inl f1))), ((rr 2), .inl (g 1, 8, .inr (.inl f2))), ((rr 3), .inl (g 1, 8, .inr (.inl f3))), ((rr 4), .inl (g 1, 8, .inr (.inl f4))), ((rr 5), .inl (g 1, 8, .inr (.inl f5))), ((rr 6), .inl (g 1, 8, .inr (.inl f6))), ((rr 7), .inl (g 1, 8, .inr (.inl f7)))]) [0, 1, 2, 3, 4, 5, 6, 7, 8, 9, 10, 11, 12, 13, 14, 15] rfl
  have hDc := hD.sub (ws' := [(x, .inr (11, [.ref tp, .ref n, .ref dr, .ref x_images, .ref x_kept, .ref rd, .ref st, .ref tl, .ref rg, .ref sv, .ref oc, .ref x_tried, .ref lf, .int 0, .ref x_stoppedWays, .ref x_stoppedWorth, .int 0, .ref x_withinWorth])), (sv, .inr (6, [.ref n, .ref co, .ref sv_keep, .ref sv_scaled])), (co, .inr (0, [.ref n, .ref eq, .ref co_place])), (n, .inr (2, [.int 0, .ref n_kind, .ref n_pay, .ref n_name, .ref n_ways, .ref n_held, .ref n_targets, .ref n_weights])), (lf, .inr (10, [.ref lf_part, .long lfw])), (eq, .inr (1, [.ref eq_rows, .ref eq_right, .long ew])), (eq_right, .inl (g 1, 8, .inr (.inl fr))), (eq_rows, .inl (g 5, 8, .inr (.inr (.inr (.inr (fun i => if i < 8 then some (rr i) else none)))))), ((rr 0), .inl (g 1, 8, .inr (.inl f0))), ((rr 1), .inl (g 1, 8, .inr (.inl f1))), ((rr 2), .inl (g 1, 8, .inr (.inl f2))), ((rr 3), .inl (g 1, 8, .inr (.inl f3))), ((rr 4), .inl (g 1, 8, .inr (.inl f4))), ((rr 5), .inl (g 1, 8, .inr (.inl f5))), ((rr 6), .inl (g 1, 8, .inr (.inl f6))), ((rr 7), .inl (g 1, 8, .inr (.inl f7)))]) [0, 1, 2, 3, 4, 5, 6, 7, 8, 9, 10, 11, 12, 13, 14, 15] (by decide) rfl
  have hFc := va_free (wc := [(x, .inr (11, [.ref tp, .ref n, .ref dr, .ref x_images, .ref x_kept, .ref rd, .ref st, .ref tl, .ref rg, .ref sv, .ref oc, .ref x_tried, .ref lf, .int 0, .ref x_stoppedWays, .ref x_stoppedWorth, .int 0, .ref x_withinWorth])), (sv, .inr (6, [.ref n, .ref co, .ref sv_keep, .ref sv_scaled])), (co, .inr (0, [.ref n, .ref eq, .ref co_place])), (n, .inr (2, [.int 0, .ref n_kind, .ref n_pay, .ref n_name, .ref n_ways, .ref n_held, .ref n_targets, .ref n_weights])), (lf, .inr (10, [.ref lf_part, .long lfw])), (eq, .inr (1, [.ref eq_rows, .ref eq_right, .long ew])), (eq_right, .inl (g 1, 8, .inr (.inl fr))), (eq_rows, .inl (g 5, 8, .inr (.inr (.inr (.inr (fun i => if i < 8 then some (rr i) else none)))))), ((rr 0), .inl (g 1, 8, .inr (.inl f0))), ((rr 1), .inl (g 1, 8, .inr (.inl f1))), ((rr 2), .inl (g 1, 8, .inr (.inl f2))), ((rr 3), .inl (g 1, 8, .inr (.inl f3))), ((rr 4), .inl (g 1, 8, .inr (.inl f4))), ((rr 5), .inl (g 1, 8, .inr (.inl f5))), ((rr 6), .inl (g 1, 8, .inr (.inl f6))), ((rr 7), .inl (g 1, 8, .inr (.inl f7)))]) hD hS hA [0, 1, 2, 3, 4, 5, 6, 7, 8, 9, 10, 11, 12, 13, 14, 15] rfl
  refine va_calli (va_runV (As := []) (rest := []) ⟨hx, hb, hml, hown, hts⟩ (c_X11_improve l D g s.heap.size x tp n dr x_images x_kept rd st tl rg sv oc x_tried lf x_stoppedWays x_stoppedWorth x_withinWorth co sv_keep sv_scaled eq co_place n_kind n_pay n_name n_ways n_held n_targets n_weights lf_part lfw eq_rows eq_right ew fr rr f0 f1 f2 f3 f4 f5 f6 f7) (cwV 0 hts (tz_gV qw_168 qw_169 qw_170 qw_165 qw_171) rfl rfl rfl (by decide +kernel) ⟨Nat.le_of_ble_eq_true rfl, Nat.le_of_ble_eq_true rfl⟩) ⟨tz_blQ, va_recv hK hPc (ci := 11) (q0 := 0) rfl rfl, tz_preQ hPc hK hDc⟩ rfl rfl hl.1 rfl (lv_room (Nat.le_of_ble_eq_true rfl)) dX11_improveAll_18 ⟨Nat.le_of_ble_eq_true rfl, Nat.le_of_ble_eq_true rfl⟩) hS (fun q _ h => hFc q h) hFc (fun r_168 u t H1 locs ht hvm hw hB hz1 hk1 hS => ?_)
  obtain ⟨gr_169, g0_170, g1_171, g2_172, g3_173, g4_174, g5_175, g6_176, g7_177, hP1, hD1⟩ := hB
  rw [ht] at hP1
  obtain ⟨hP, hD⟩ := va_join (wr := []) (w1 := [(x, .inr (11, [.ref tp, .ref n, .ref dr, .ref x_images, .ref x_kept, .ref rd, .ref st, .ref tl, .ref rg, .ref sv, .ref oc, .ref x_tried, .ref lf, .int 1, .ref x_stoppedWays, .ref x_stoppedWorth, .int 0, .ref x_withinWorth])), (sv, .inr (6, [.ref n, .ref co, .ref sv_keep, .ref sv_scaled])), (co, .inr (0, [.ref n, .ref eq, .ref co_place])), (n, .inr (2, [.int 0, .ref n_kind, .ref n_pay, .ref n_name, .ref n_ways, .ref n_held, .ref n_targets, .ref n_weights])), (lf, .inr (10, [.ref lf_part, .long 1])), (eq, .inr (1, [.ref eq_rows, .ref eq_right, .long 1])), (eq_right, .inl (g 1, 8, .inr (.inl gr_169))), (eq_rows, .inl (g 5, 8, .inr (.inr (.inr (.inr (fun i => if i < 8 then some (rr i) else none)))))), ((rr 0), .inl (g 1, 8, .inr (.inl g0_170))), ((rr 1), .inl (g 1, 8, .inr (.inl g1_171))), ((rr 2), .inl (g 1, 8, .inr (.inl g2_172))), ((rr 3), .inl (g 1, 8, .inr (.inl g3_173))), ((rr 4), .inl (g 1, 8, .inr (.inl g4_174))), ((rr 5), .inl (g 1, 8, .inr (.inl g5_175))), ((rr 6), .inl (g 1, 8, .inr (.inl g6_176))), ((rr 7), .inl (g 1, 8, .inr (.inl g7_177)))]) hP hD [0, 1, 2, 3, 4, 5, 6, 7, 8, 9, 10, 11, 12, 13, 14, 15] [] rfl rfl (by decide) (by decide) hk1 hFc hP1 hD1
  generalize H1 = H at hP hS ⊢
  have hP : va_P D vwCl [(x, .inr (11, [.ref tp, .ref n, .ref dr, .ref x_images, .ref x_kept, .ref rd, .ref st, .ref tl, .ref rg, .ref sv, .ref oc, .ref x_tried, .ref lf, .int 1, .ref x_stoppedWays, .ref x_stoppedWorth, .int 0, .ref x_withinWorth])), (sv, .inr (6, [.ref n, .ref co, .ref sv_keep, .ref sv_scaled])), (co, .inr (0, [.ref n, .ref eq, .ref co_place])), (n, .inr (2, [.int 0, .ref n_kind, .ref n_pay, .ref n_name, .ref n_ways, .ref n_held, .ref n_targets, .ref n_weights])), (lf, .inr (10, [.ref lf_part, .long 1])), (eq, .inr (1, [.ref eq_rows, .ref eq_right, .long 1])), (eq_right, .inl (g 1, 8, .inr (.inl gr_169))), (eq_rows, .inl (g 5, 8, .inr (.inr (.inr (.inr (fun i => if i < 8 then some (rr i) else none)))))), ((rr 0), .inl (g 1, 8, .inr (.inl g0_170))), ((rr 1), .inl (g 1, 8, .inr (.inl g1_171))), ((rr 2), .inl (g 1, 8, .inr (.inl g2_172))), ((rr 3), .inl (g 1, 8, .inr (.inl g3_173))), ((rr 4), .inl (g 1, 8, .inr (.inl g4_174))), ((rr 5), .inl (g 1, 8, .inr (.inl g5_175))), ((rr 6), .inl (g 1, 8, .inr (.inl g6_176))), ((rr 7), .inl (g 1, 8, .inr (.inl g7_177)))] H := hP
  have hD : va_D A [(x, .inr (11, [.ref tp, .ref n, .ref dr, .ref x_images, .ref x_kept, .ref rd, .ref st, .ref tl, .ref rg, .ref sv, .ref oc, .ref x_tried, .ref lf, .int 1, .ref x_stoppedWays, .ref x_stoppedWorth, .int 0, .ref x_withinWorth])), (sv, .inr (6, [.ref n, .ref co, .ref sv_keep, .ref sv_scaled])), (co, .inr (0, [.ref n, .ref eq, .ref co_place])), (n, .inr (2, [.int 0, .ref n_kind, .ref n_pay, .ref n_name, .ref n_ways, .ref n_held, .ref n_targets, .ref n_weights])), (lf, .inr (10, [.ref lf_part, .long 1])), (eq, .inr (1, [.ref eq_rows, .ref eq_right, .long 1])), (eq_right, .inl (g 1, 8, .inr (.inl gr_169))), (eq_rows, .inl (g 5, 8, .inr (.inr (.inr (.inr (fun i => if i < 8 then some (rr i) else none)))))), ((rr 0), .inl (g 1, 8, .inr (.inl g0_170))), ((rr 1), .inl (g 1, 8, .inr (.inl g1_171))), ((rr 2), .inl (g 1, 8, .inr (.inl g2_172))), ((rr 3), .inl (g 1, 8, .inr (.inl g3_173))), ((rr 4), .inl (g 1, 8, .inr (.inl g4_174))), ((rr 5), .inl (g 1, 8, .inr (.inl g5_175))), ((rr 6), .inl (g 1, 8, .inr (.inl g6_176))), ((rr 7), .inl (g 1, 8, .inr (.inl g7_177)))] := hD
  subst hw
  refine lv_if_le (tgt := 28) hx hb dX11_improveAll_21 (by decide) (fun _ => ?_) (fun h9 => (h9 (by decide)).elim)
  refine lv_iconst (v := 0) hx hb dX11_improveAll_28 (by decide) ?_
  refine lv_istore_n (lv' := [(2, .int 0), (3, .int 0), (1, .int 0), (0, .ref x)]) hx hb dX11_improveAll_29 rfl hl (by decide) rfl (fun ls hl => ?_)
  refine lv_iload_n hx hb dX11_improveAll_30 rfl (lv_at hl 0 rfl) ?_
  refine lv_if_eq (tgt := 37) hx hb dX11_improveAll_31 (by decide) (fun _ => ?_) (fun h9 => (h9 (by decide)).elim)
  refine lv_iinc (v := 1) (lv' := [(3, .int 1), (2, .int 0), (1, .int 0), (0, .ref x)]) hx hb dX11_improveAll_37 hl (k := 1) rfl (by decide) (by decide) rfl (fun ls hl => ?_)
  refine lv_goto (tgt := 6) hx hb dX11_improveAll_40 (by decide) ?_
  refine lv_iload_n hx hb dX11_improveAll_6 rfl (lv_at hl 1 rfl) ?_
  refine lv_if_eq (tgt := 43) hx hb dX11_improveAll_7 (by decide) (fun _ => ?_) (fun h9 => (h9 (by decide)).elim)
  refine lv_iload_n hx hb dX11_improveAll_43 rfl (lv_at hl 2 rfl) ?_
  exact W.iret (v := 0) hx hb hr (fun t ht hW => ⟨⟨0, (), rfl, rfl, trivial⟩, hS.F ht⟩) hS.2.2 dX11_improveAll_44
set_option maxHeartbeats 4000000 in
set_option maxRecDepth 100000 in
theorem c_X11_firstUnproved (l : Launch) (D : va_G) (g : Nat → ClassId) (x : Nat) (tp : Nat) (n : Nat) (dr : Nat) (x_images : Nat) (x_kept : Nat) (rd : Nat) (st : Nat) (tl : Nat) (rg : Nat) (sv : Nat) (oc : Nat) (x_tried : Nat) (lf : Nat) (x_stoppedWays : Nat) (x_stoppedWorth : Nat) (x_withinWorth : Nat) (n_kind : Nat) (n_pay : Nat) (n_name : Nat) (n_ways : Nat) (n_held : Nat) (n_targets : Nat) (n_weights : Nat) : Met l yX11_firstUnproved (.code yX11_firstUnproved cX11_firstUnproved 2 (some .int) :: wsL_law) ({ frames := 0, cells := 0, slots := 0, locals := 0 }) (va_Pc [.ref x] (fun U => va_P D vwCl [(x, .inr (11, [.ref tp, .ref n, .ref dr, .ref x_images, .ref x_kept, .ref rd, .ref st, .ref tl, .ref rg, .ref sv, .ref oc, .ref x_tried, .ref lf, .int 0, .ref x_stoppedWays, .ref x_stoppedWorth, .int 0, .ref x_withinWorth])), (n, .inr (2, [.int 0, .ref n_kind, .ref n_pay, .ref n_name, .ref n_ways, .ref n_held, .ref n_targets, .ref n_weights]))] U.heap ∧ va_K D vwCl (TY g) U)) (vp_Si (fun r => r = (-1))) 0 0 (fun _ => False) := by
  refine Met.ofW (cc := cX11_firstUnproved) (maxL := 2) (ret := (some .int)) (by decide) rfl ?_
  intro p e s m args below meth c s₁ B hml hv
  obtain ⟨rfl, hP, hK⟩ := hv
  have hx := B.exec
  have hb := B.bytes
  have hr := B.returns
  have hts0 := atoms_spec (ws := (.code yX11_firstUnproved cX11_firstUnproved 2 (some .int) :: wsL_law)) B.pre
  have hts : ∀ w ∈ wsL_law, w.before _ s = true := fun w h => hts0 w (List.mem_cons_of_mem _ h)
  have hown : s.vm.findClass RX11 = some m.cls := findClass_of_methodNamed B.named
  have hlocks := B.notSynchronized
  have hP : va_P D vwCl [(x, .inr (11, [.ref tp, .ref n, .ref dr, .ref x_images, .ref x_kept, .ref rd, .ref st, .ref tl, .ref rg, .ref sv, .ref oc, .ref x_tried, .ref lf, .int 0, .ref x_stoppedWays, .ref x_stoppedWorth, .int 0, .ref x_withinWorth])), (n, .inr (2, [.int 0, .ref n_kind, .ref n_pay, .ref n_name, .ref n_ways, .ref n_held, .ref n_targets, .ref n_weights]))] s.heap := hP
  have hl := lv_entry ([.ref x]) (n := 2) (Nat.le_of_ble_eq_true rfl)
  rw [lg_entry_eq]
  generalize (lg_sl ([.ref x]) ++ List.replicate (2 - (lg_sl ([.ref x])).length) Slot.unset).toArray = ls at hl ⊢
  have hl : lv_has ls 2 [(0, .ref x)] := hl
  refine lv_iconst (v := 0) hx hb dX11_firstUnproved_0 (by decide) ?_
  refine lv_istore_n (lv' := [(1, .int 0), (0, .ref x)]) hx hb dX11_firstUnproved_1 rfl hl (by decide) rfl (fun ls hl => ?_)
  refine lv_iload_n hx hb dX11_firstUnproved_2 rfl (lv_at hl 0 rfl) ?_
  refine lv_aload_n hx hb dX11_firstUnproved_3 rfl (lv_at hl 1 rfl) ?_
  refine va_get (D := D) (ci := 11) (v := .ref n) (C := RX11) (T := TX11) (N := 18) hx hb hts inlX11 hown hK hP 0 rfl rfl 1 (by decide) (hts (Cond.fieldLink RX11 19 "ChanceRings" "net" "LChanceRings$Net;") qw_114) (fun _ h9 => h9) rfl dX11_firstUnproved_4 ?_
  refine va_get (D := D) (ci := 2) (v := .int 0) (C := RX2) (T := TX2) (N := 8) hx hb hts inlX2 hown hK hP 1 rfl rfl 0 (by decide) (hts (Cond.fieldLink RX11 128 "ChanceRings$Net" "nodes" "I") qw_130) (fun _ h9 => h9) rfl dX11_firstUnproved_7 ?_
  refine lv_icmp_ge (tgt := 29) hx hb dX11_firstUnproved_10 (by decide) (fun _ => ?_) (fun h9 => (h9 (by decide)).elim)
  refine lv_iconst (v := (-1)) hx hb dX11_firstUnproved_29 (by decide) ?_
  exact W.iret (v := (-1)) hx hb hr (fun t ht hW => ⟨(-1), rfl, rfl, ht⟩) (fun _ h => nomatch h) dX11_firstUnproved_30
set_option maxHeartbeats 4000000 in
set_option maxRecDepth 100000 in
theorem c_X11_firstWithLess (l : Launch) (D : va_G) (g : Nat → ClassId) (sz : Nat) (x : Nat) (tp : Nat) (n : Nat) (dr : Nat) (x_images : Nat) (x_kept : Nat) (rd : Nat) (st : Nat) (tl : Nat) (rg : Nat) (sv : Nat) (oc : Nat) (x_tried : Nat) (lf : Nat) (x_stoppedWays : Nat) (x_stoppedWorth : Nat) (x_withinWorth : Nat) (co : Nat) (sv_keep : Nat) (sv_scaled : Nat) (eq : Nat) (co_place : Nat) (n_kind : Nat) (n_pay : Nat) (n_name : Nat) (n_ways : Nat) (n_held : Nat) (n_targets : Nat) (n_weights : Nat) (lf_part : Nat) (lfw : Int64) (eq_rows : Nat) (eq_right : Nat) (ew : Int64) (fr : Nat → Int64) (rr : Nat → Nat) (f0 : Nat → Int64) (f1 : Nat → Int64) (f2 : Nat → Int64) (f3 : Nat → Int64) (f4 : Nat → Int64) (f5 : Nat → Int64) (f6 : Nat → Int64) (f7 : Nat → Int64) : Met l yX11_firstWithLess (.code yX11_firstWithLess cX11_firstWithLess 2 (some .int) :: wsL_law) ({ frames := 5, cells := 0, slots := 0, locals := 126 }) (va_Pc [.ref x] (fun U => U.heap.size = sz ∧ va_P D vwCl [(x, .inr (11, [.ref tp, .ref n, .ref dr, .ref x_images, .ref x_kept, .ref rd, .ref st, .ref tl, .ref rg, .ref sv, .ref oc, .ref x_tried, .ref lf, .int 0, .ref x_stoppedWays, .ref x_stoppedWorth, .int 0, .ref x_withinWorth])), (sv, .inr (6, [.ref n, .ref co, .ref sv_keep, .ref sv_scaled])), (co, .inr (0, [.ref n, .ref eq, .ref co_place])), (n, .inr (2, [.int 0, .ref n_kind, .ref n_pay, .ref n_name, .ref n_ways, .ref n_held, .ref n_targets, .ref n_weights])), (lf, .inr (10, [.ref lf_part, .long lfw])), (eq, .inr (1, [.ref eq_rows, .ref eq_right, .long ew])), (eq_right, .inl (g 1, 8, .inr (.inl fr))), (eq_rows, .inl (g 5, 8, .inr (.inr (.inr (.inr (fun i => if i < 8 then some (rr i) else none)))))), ((rr 0), .inl (g 1, 8, .inr (.inl f0))), ((rr 1), .inl (g 1, 8, .inr (.inl f1))), ((rr 2), .inl (g 1, 8, .inr (.inl f2))), ((rr 3), .inl (g 1, 8, .inr (.inl f3))), ((rr 4), .inl (g 1, 8, .inr (.inl f4))), ((rr 5), .inl (g 1, 8, .inr (.inl f5))), ((rr 6), .inl (g 1, 8, .inr (.inl f6))), ((rr 7), .inl (g 1, 8, .inr (.inl f7)))] U.heap ∧ va_K D vwCl (TY g) U ∧ va_D (fun _ => True) [(x, .inr (11, [.ref tp, .ref n, .ref dr, .ref x_images, .ref x_kept, .ref rd, .ref st, .ref tl, .ref rg, .ref sv, .ref oc, .ref x_tried, .ref lf, .int 0, .ref x_stoppedWays, .ref x_stoppedWorth, .int 0, .ref x_withinWorth])), (sv, .inr (6, [.ref n, .ref co, .ref sv_keep, .ref sv_scaled])), (co, .inr (0, [.ref n, .ref eq, .ref co_place])), (n, .inr (2, [.int 0, .ref n_kind, .ref n_pay, .ref n_name, .ref n_ways, .ref n_held, .ref n_targets, .ref n_weights])), (lf, .inr (10, [.ref lf_part, .long lfw])), (eq, .inr (1, [.ref eq_rows, .ref eq_right, .long ew])), (eq_right, .inl (g 1, 8, .inr (.inl fr))), (eq_rows, .inl (g 5, 8, .inr (.inr (.inr (.inr (fun i => if i < 8 then some (rr i) else none)))))), ((rr 0), .inl (g 1, 8, .inr (.inl f0))), ((rr 1), .inl (g 1, 8, .inr (.inl f1))), ((rr 2), .inl (g 1, 8, .inr (.inl f2))), ((rr 3), .inl (g 1, 8, .inr (.inl f3))), ((rr 4), .inl (g 1, 8, .inr (.inl f4))), ((rr 5), .inl (g 1, 8, .inr (.inl f5))), ((rr 6), .inl (g 1, 8, .inr (.inl f6))), ((rr 7), .inl (g 1, 8, .inr (.inl f7)))])) (va_Qi (fun r (_ : Unit) => r = (-1)) (fun _ t => ∃ gr : Nat → Int64, ∃ g0 : Nat → Int64, ∃ g1 : Nat → Int64, ∃ g2 : Nat → Int64, ∃ g3 : Nat → Int64, ∃ g4 : Nat → Int64, ∃ g5 : Nat → Int64, ∃ g6 : Nat → Int64, ∃ g7 : Nat → Int64, va_P D vwCl [(x, .inr (11, [.ref tp, .ref n, .ref dr, .ref x_images, .ref x_kept, .ref rd, .ref st, .ref tl, .ref rg, .ref sv, .ref oc, .ref x_tried, .ref lf, .int 1, .ref x_stoppedWays, .ref x_stoppedWorth, .int 0, .ref x_withinWorth])), (sv, .inr (6, [.ref n, .ref co, .ref sv_keep, .ref sv_scaled])), (co, .inr (0, [.ref n, .ref eq, .ref co_place])), (n, .inr (2, [.int 0, .ref n_kind, .ref n_pay, .ref n_name, .ref n_ways, .ref n_held, .ref n_targets, .ref n_weights])), (lf, .inr (10, [.ref lf_part, .long 1])), (eq, .inr (1, [.ref eq_rows, .ref eq_right, .long 1])), (eq_right, .inl (g 1, 8, .inr (.inl gr))), (eq_rows, .inl (g 5, 8, .inr (.inr (.inr (.inr (fun i => if i < 8 then some (rr i) else none)))))), ((rr 0), .inl (g 1, 8, .inr (.inl g0))), ((rr 1), .inl (g 1, 8, .inr (.inl g1))), ((rr 2), .inl (g 1, 8, .inr (.inl g2))), ((rr 3), .inl (g 1, 8, .inr (.inl g3))), ((rr 4), .inl (g 1, 8, .inr (.inl g4))), ((rr 5), .inl (g 1, 8, .inr (.inl g5))), ((rr 6), .inl (g 1, 8, .inr (.inl g6))), ((rr 7), .inl (g 1, 8, .inr (.inl g7)))] t.heap ∧ va_D (va_A [(x, .inr (11, [.ref tp, .ref n, .ref dr, .ref x_images, .ref x_kept, .ref rd, .ref st, .ref tl, .ref rg, .ref sv, .ref oc, .ref x_tried, .ref lf, .int 0, .ref x_stoppedWays, .ref x_stoppedWorth, .int 0, .ref x_withinWorth])), (sv, .inr (6, [.ref n, .ref co, .ref sv_keep, .ref sv_scaled])), (co, .inr (0, [.ref n, .ref eq, .ref co_place])), (n, .inr (2, [.int 0, .ref n_kind, .ref n_pay, .ref n_name, .ref n_ways, .ref n_held, .ref n_targets, .ref n_weights])), (lf, .inr (10, [.ref lf_part, .long lfw])), (eq, .inr (1, [.ref eq_rows, .ref eq_right, .long ew])), (eq_right, .inl (g 1, 8, .inr (.inl fr))), (eq_rows, .inl (g 5, 8, .inr (.inr (.inr (.inr (fun i => if i < 8 then some (rr i) else none)))))), ((rr 0), .inl (g 1, 8, .inr (.inl f0))), ((rr 1), .inl (g 1, 8, .inr (.inl f1))), ((rr 2), .inl (g 1, 8, .inr (.inl f2))), ((rr 3), .inl (g 1, 8, .inr (.inl f3))), ((rr 4), .inl (g 1, 8, .inr (.inl f4))), ((rr 5), .inl (g 1, 8, .inr (.inl f5))), ((rr 6), .inl (g 1, 8, .inr (.inl f6))), ((rr 7), .inl (g 1, 8, .inr (.inl f7)))] sz) [(x, .inr (11, [.ref tp, .ref n, .ref dr, .ref x_images, .ref x_kept, .ref rd, .ref st, .ref tl, .ref rg, .ref sv, .ref oc, .ref x_tried, .ref lf, .int 1, .ref x_stoppedWays, .ref x_stoppedWorth, .int 0, .ref x_withinWorth])), (sv, .inr (6, [.ref n, .ref co, .ref sv_keep, .ref sv_scaled])), (co, .inr (0, [.ref n, .ref eq, .ref co_place])), (n, .inr (2, [.int 0, .ref n_kind, .ref n_pay, .ref n_name, .ref n_ways, .ref n_held, .ref n_targets, .ref n_weights])), (lf, .inr (10, [.ref lf_part, .long 1])), (eq, .inr (1, [.ref eq_rows, .ref eq_right, .long 1])), (eq_right, .inl (g 1, 8, .inr (.inl gr))), (eq_rows, .inl (g 5, 8, .inr (.inr (.inr (.inr (fun i => if i < 8 then some (rr i) else none)))))), ((rr 0), .inl (g 1, 8, .inr (.inl g0))), ((rr 1), .inl (g 1, 8, .inr (.inl g1))), ((rr 2), .inl (g 1, 8, .inr (.inl g2))), ((rr 3), .inl (g 1, 8, .inr (.inl g3))), ((rr 4), .inl (g 1, 8, .inr (.inl g4))), ((rr 5), .inl (g 1, 8, .inr (.inl g5))), ((rr 6), .inl (g 1, 8, .inr (.inl g6))), ((rr 7), .inl (g 1, 8, .inr (.inl g7)))]) (va_A [(x, .inr (11, [.ref tp, .ref n, .ref dr, .ref x_images, .ref x_kept, .ref rd, .ref st, .ref tl, .ref rg, .ref sv, .ref oc, .ref x_tried, .ref lf, .int 0, .ref x_stoppedWays, .ref x_stoppedWorth, .int 0, .ref x_withinWorth])), (sv, .inr (6, [.ref n, .ref co, .ref sv_keep, .ref sv_scaled])), (co, .inr (0, [.ref n, .ref eq, .ref co_place])), (n, .inr (2, [.int 0, .ref n_kind, .ref n_pay, .ref n_name, .ref n_ways, .ref n_held, .ref n_targets, .ref n_weights])), (lf, .inr (10, [.ref lf_part, .long lfw])), (eq, .inr (1, [.ref eq_rows, .ref eq_right, .long ew])), (eq_right, .inl (g 1, 8, .inr (.inl fr))), (eq_rows, .inl (g 5, 8, .inr (.inr (.inr (.inr (fun i => if i < 8 then some (rr i) else none)))))), ((rr 0), .inl (g 1, 8, .inr (.inl f0))), ((rr 1), .inl (g 1, 8, .inr (.inl f1))), ((rr 2), .inl (g 1, 8, .inr (.inl f2))), ((rr 3), .inl (g 1, 8, .inr (.inl f3))), ((rr 4), .inl (g 1, 8, .inr (.inl f4))), ((rr 5), .inl (g 1, 8, .inr (.inl f5))), ((rr 6), .inl (g 1, 8, .inr (.inl f6))), ((rr 7), .inl (g 1, 8, .inr (.inl f7)))] sz)) 0 0 (va_A [(x, .inr (11, [.ref tp, .ref n, .ref dr, .ref x_images, .ref x_kept, .ref rd, .ref st, .ref tl, .ref rg, .ref sv, .ref oc, .ref x_tried, .ref lf, .int 0, .ref x_stoppedWays, .ref x_stoppedWorth, .int 0, .ref x_withinWorth])), (sv, .inr (6, [.ref n, .ref co, .ref sv_keep, .ref sv_scaled])), (co, .inr (0, [.ref n, .ref eq, .ref co_place])), (n, .inr (2, [.int 0, .ref n_kind, .ref n_pay, .ref n_name, .ref n_ways, .ref n_held, .ref n_targets, .ref n_weights])), (lf, .inr (10, [.ref lf_part, .long lfw])), (eq, .inr (1, [.ref eq_rows, .ref eq_right, .long ew])), (eq_right, .inl (g 1, 8, .inr (.inl fr))), (eq_rows, .inl (g 5, 8, .inr (.inr (.inr (.inr (fun i => if i < 8 then some (rr i) else none)))))), ((rr 0), .inl (g 1, 8, .inr (.inl f0))), ((rr 1), .inl (g 1, 8, .inr (.inl f1))), ((rr 2), .inl (g 1, 8, .inr (.inl f2))), ((rr 3), .inl (g 1, 8, .inr (.inl f3))), ((rr 4), .inl (g 1, 8, .inr (.inl f4))), ((rr 5), .inl (g 1, 8, .inr (.inl f5))), ((rr 6), .inl (g 1, 8, .inr (.inl f6))), ((rr 7), .inl (g 1, 8, .inr (.inl f7)))] sz) := by
  refine Met.ofW (cc := cX11_firstWithLess) (maxL := 2) (ret := (some .int)) (by decide) rfl ?_
  intro p e s m args below meth c s₁ B hml hv
  obtain ⟨rfl, hsz, hP, hK, hD0⟩ := hv
  have hx := B.exec
  have hb := B.bytes
  have hr := B.returns
  have hts0 := atoms_spec (ws := (.code yX11_firstWithLess cX11_firstWithLess 2 (some .int) :: wsL_law)) B.pre
  have hts : ∀ w ∈ wsL_law, w.before _ s = true := fun w h => hts0 w (List.mem_cons_of_mem _ h)
  have hown : s.vm.findClass RX11 = some m.cls := findClass_of_methodNamed B.named
  have hlocks := B.notSynchronized
  subst hsz
  have hD := hD0.self (sz := s.heap.size)
  generalize hAe : va_A [(x, .inr (11, [.ref tp, .ref n, .ref dr, .ref x_images, .ref x_kept, .ref rd, .ref st, .ref tl, .ref rg, .ref sv, .ref oc, .ref x_tried, .ref lf, .int 0, .ref x_stoppedWays, .ref x_stoppedWorth, .int 0, .ref x_withinWorth])), (sv, .inr (6, [.ref n, .ref co, .ref sv_keep, .ref sv_scaled])), (co, .inr (0, [.ref n, .ref eq, .ref co_place])), (n, .inr (2, [.int 0, .ref n_kind, .ref n_pay, .ref n_name, .ref n_ways, .ref n_held, .ref n_targets, .ref n_weights])), (lf, .inr (10, [.ref lf_part, .long lfw])), (eq, .inr (1, [.ref eq_rows, .ref eq_right, .long ew])), (eq_right, .inl (g 1, 8, .inr (.inl fr))), (eq_rows, .inl (g 5, 8, .inr (.inr (.inr (.inr (fun i => if i < 8 then some (rr i) else none)))))), ((rr 0), .inl (g 1, 8, .inr (.inl f0))), ((rr 1), .inl (g 1, 8, .inr (.inl f1))), ((rr 2), .inl (g 1, 8, .inr (.inl f2))), ((rr 3), .inl (g 1, 8, .inr (.inl f3))), ((rr 4), .inl (g 1, 8, .inr (.inl f4))), ((rr 5), .inl (g 1, 8, .inr (.inl f5))), ((rr 6), .inl (g 1, 8, .inr (.inl f6))), ((rr 7), .inl (g 1, 8, .inr (.inl f7)))] s.heap.size = A at hD ⊢
  have hA : ∀ q : Nat, s.heap.size ≤ q → A q := fun q h => by rw [← hAe]; exact Or.inr h
  have hS : va_S A s.heap s.heap [] := va_S.rf
  have hP : va_P D vwCl [(x, .inr (11, [.ref tp, .ref n, .ref dr, .ref x_images, .ref x_kept, .ref rd, .ref st, .ref tl, .ref rg, .ref sv, .ref oc, .ref x_tried, .ref lf, .int 0, .ref x_stoppedWays, .ref x_stoppedWorth, .int 0, .ref x_withinWorth])), (sv, .inr (6, [.ref n, .ref co, .ref sv_keep, .ref sv_scaled])), (co, .inr (0, [.ref n, .ref eq, .ref co_place])), (n, .inr (2, [.int 0, .ref n_kind, .ref n_pay, .ref n_name, .ref n_ways, .ref n_held, .ref n_targets, .ref n_weights])), (lf, .inr (10, [.ref lf_part, .long lfw])), (eq, .inr (1, [.ref eq_rows, .ref eq_right, .long ew])), (eq_right, .inl (g 1, 8, .inr (.inl fr))), (eq_rows, .inl (g 5, 8, .inr (.inr (.inr (.inr (fun i => if i < 8 then some (rr i) else none)))))), ((rr 0), .inl (g 1, 8, .inr (.inl f0))), ((rr 1), .inl (g 1, 8, .inr (.inl f1))), ((rr 2), .inl (g 1, 8, .inr (.inl f2))), ((rr 3), .inl (g 1, 8, .inr (.inl f3))), ((rr 4), .inl (g 1, 8, .inr (.inl f4))), ((rr 5), .inl (g 1, 8, .inr (.inl f5))), ((rr 6), .inl (g 1, 8, .inr (.inl f6))), ((rr 7), .inl (g 1, 8, .inr (.inl f7)))] s.heap := hP
  have hl := lv_entry ([.ref x]) (n := 2) (Nat.le_of_ble_eq_true rfl)
  rw [lg_entry_eq]
  generalize (lg_sl ([.ref x]) ++ List.replicate (2 - (lg_sl ([.ref x])).length) Slot.unset).toArray = ls at hl ⊢
  have hl : lv_has ls 2 [(0, .ref x)] := hl
  refine lv_aload_n hx hb dX11_firstWithLess_0 rfl (lv_at hl 0 rfl) ?_
  have hPc := hP.sub (ws' := [(x, .inr (11, [.ref tp, .ref n, .ref dr, .ref x_images, .ref x_kept, .ref rd, .ref st, .ref tl, .ref rg, .ref sv, .ref oc, .ref x_tried, .ref lf, .int 0, .ref x_stoppedWays, .ref x_stoppedWorth, .int 0, .ref x_withinWorth])), (sv, .inr (6, [.ref n, .ref co, .ref sv_keep, .ref sv_scaled])), (co, .inr (0, [.ref n, .ref eq, .ref co_place])), (n, .inr (2, [.int 0, .ref n_kind, .ref n_pay, .ref n_name, .ref n_ways, .ref n_held, .ref n_targets, .ref n_weights])), (lf, .inr (10, [.ref lf_part, .long lfw])), (eq, .inr (1, [.ref eq_rows, .ref eq_right, .long ew])), (eq_right, .inl (g 1, 8, .inr (.inl fr))), (eq_rows, .inl (g 5, 8, .inr (.inr (.inr (.inr (fun i => if i < 8 then some (rr i) else none)))))), ((rr 0), .inl (g 1, 8, .inr (.inl f0))), ((rr 1), .inl (g 1, 8, .inr (.inl f1))), ((rr 2), .inl (g 1, 8, .inr (.inl f2))), ((rr 3), .inl (g 1, 8, .inr (.inl f3))), ((rr 4), .inl (g 1, 8, .inr (.inl f4))), ((rr 5), .inl (g 1, 8, .inr (.inl f5))), ((rr 6), .inl (g 1, 8, .inr (.inl f6))), ((rr 7), .inl (g 1, 8, .inr (.inl f7)))]) [0, 1, 2, 3, 4, 5, 6, 7, 8, 9, 10, 11, 12, 13, 14, 15] rfl
  have hDc := hD.sub (ws' := [(x, .inr (11, [.ref tp, .ref n, .ref dr, .ref x_images, .ref x_kept, .ref rd, .ref st, .ref tl, .ref rg, .ref sv, .ref oc, .ref x_tried, .ref lf, .int 0, .ref x_stoppedWays, .ref x_stoppedWorth, .int 0, .ref x_withinWorth])), (sv, .inr (6, [.ref n, .ref co, .ref sv_keep, .ref sv_scaled])), (co, .inr (0, [.ref n, .ref eq, .ref co_place])), (n, .inr (2, [.int 0, .ref n_kind, .ref n_pay, .ref n_name, .ref n_ways, .ref n_held, .ref n_targets, .ref n_weights])), (lf, .inr (10, [.ref lf_part, .long lfw])), (eq, .inr (1, [.ref eq_rows, .ref eq_right, .long ew])), (eq_right, .inl (g 1, 8, .inr (.inl fr))), (eq_rows, .inl (g 5, 8, .inr (.inr (.inr (.inr (fun i => if i < 8 then some (rr i) else none)))))), ((rr 0), .inl (g 1, 8, .inr (.inl f0))), ((rr 1), .inl (g 1, 8, .inr (.inl f1))), ((rr 2), .inl (g 1, 8, .inr (.inl f2))), ((rr 3), .inl (g 1, 8, .inr (.inl f3))), ((rr 4), .inl (g 1, 8, .inr (.inl f4))), ((rr 5), .inl (g 1, 8, .inr (.inl f5))), ((rr 6), .inl (g 1, 8, .inr (.inl f6))), ((rr 7), .inl (g 1, 8, .inr (.inl f7)))]) [0, 1, 2, 3, 4, 5, 6, 7, 8, 9, 10, 11, 12, 13, 14, 15] (by decide) rfl
  have hFc := va_free (wc := [(x, .inr (11, [.ref tp, .ref n, .ref dr, .ref x_images, .ref x_kept, .ref rd, .ref st, .ref tl, .ref rg, .ref sv, .ref oc, .ref x_tried, .ref lf, .int 0, .ref x_stoppedWays, .ref x_stoppedWorth, .int 0, .ref x_withinWorth])), (sv, .inr (6, [.ref n, .ref co, .ref sv_keep, .ref sv_scaled])), (co, .inr (0, [.ref n, .ref eq, .ref co_place])), (n, .inr (2, [.int 0, .ref n_kind, .ref n_pay, .ref n_name, .ref n_ways, .ref n_held, .ref n_targets, .ref n_weights])), (lf, .inr (10, [.ref lf_part, .long lfw])), (eq, .inr (1, [.ref eq_rows, .ref eq_right, .long ew])), (eq_right, .inl (g 1, 8, .inr (.inl fr))), (eq_rows, .inl (g 5, 8, .inr (.inr (.inr (.inr (fun i => if i < 8 then some (rr i) else none)))))), ((rr 0), .inl (g 1, 8, .inr (.inl f0))), ((rr 1), .inl (g 1, 8, .inr (.inl f1))), ((rr 2), .inl (g 1, 8, .inr (.inl f2))), ((rr 3), .inl (g 1, 8, .inr (.inl f3))), ((rr 4), .inl (g 1, 8, .inr (.inl f4))), ((rr 5), .inl (g 1, 8, .inr (.inl f5))), ((rr 6), .inl (g 1, 8, .inr (.inl f6))), ((rr 7), .inl (g 1, 8, .inr (.inl f7)))]) hD hS hA [0, 1, 2, 3, 4, 5, 6, 7, 8, 9, 10, 11, 12, 13, 14, 15] rfl
  refine va_callv (va_runV (As := []) (rest := []) ⟨hx, hb, hml, hown, hts⟩ (c_X11_knowLeft l D g s.heap.size x tp n dr x_images x_kept rd st tl rg sv oc x_tried lf x_stoppedWays x_stoppedWorth x_withinWorth co sv_keep sv_scaled eq co_place n_kind n_pay n_name n_ways n_held n_targets n_weights lf_part lfw eq_rows eq_right ew fr rr f0 f1 f2 f3 f4 f5 f6 f7) (cwV 0 hts (tz_gV qw_162 qw_163 qw_164 qw_165 qw_166) rfl rfl rfl (by decide +kernel) ⟨Nat.le_of_ble_eq_true rfl, Nat.le_of_ble_eq_true rfl⟩) ⟨tz_blQ, va_recv hK hPc (ci := 11) (q0 := 0) rfl rfl, tz_preQ hPc hK hDc⟩ rfl rfl hl.1 rfl (lv_room (Nat.le_of_ble_eq_true rfl)) dX11_firstWithLess_1 ⟨Nat.le_of_ble_eq_true rfl, Nat.le_of_ble_eq_true rfl⟩) hS (fun q _ h => hFc q h) hFc (fun u t H1 locs ht hvm hw hB hz1 hk1 hS => ?_)
  obtain ⟨gr_179, g0_180, g1_181, g2_182, g3_183, g4_184, g5_185, g6_186, g7_187, hP1, hD1⟩ := hB
  rw [ht] at hP1
  obtain ⟨hP, hD⟩ := va_join (wr := []) (w1 := [(x, .inr (11, [.ref tp, .ref n, .ref dr, .ref x_images, .ref x_kept, .ref rd, .ref st, .ref tl, .ref rg, .ref sv, .ref oc, .ref x_tried, .ref lf, .int 1, .ref x_stoppedWays, .ref x_stoppedWorth, .int 0, .ref x_withinWorth])), (sv, .inr (6, [.ref n, .ref co, .ref sv_keep, .ref sv_scaled])), (co, .inr (0, [.ref n, .ref eq, .ref co_place])), (n, .inr (2, [.int 0, .ref n_kind, .ref n_pay, .ref n_name, .ref n_ways, .ref n_held, .ref n_targets, .ref n_weights])), (lf, .inr (10, [.ref lf_part, .long 1])), (eq, .inr (1, [.ref eq_rows, .ref eq_right, .long 1])), (eq_right, .inl (g 1, 8, .inr (.inl gr_179))), (eq_rows, .inl (g 5, 8, .inr (.inr (.inr (.inr (fun i => if i < 8 then some (rr i) else none)))))), ((rr 0), .inl (g 1, 8, .inr (.inl g0_180))), ((rr 1), .inl (g 1, 8, .inr (.inl g1_181))), ((rr 2), .inl (g 1, 8, .inr (.inl g2_182))), ((rr 3), .inl (g 1, 8, .inr (.inl g3_183))), ((rr 4), .inl (g 1, 8, .inr (.inl g4_184))), ((rr 5), .inl (g 1, 8, .inr (.inl g5_185))), ((rr 6), .inl (g 1, 8, .inr (.inl g6_186))), ((rr 7), .inl (g 1, 8, .inr (.inl g7_187)))]) hP hD [0, 1, 2, 3, 4, 5, 6, 7, 8, 9, 10, 11, 12, 13, 14, 15] [] rfl rfl (by decide) (by decide) hk1 hFc hP1 hD1
  generalize H1 = H at hP hS ⊢
  have hP : va_P D vwCl [(x, .inr (11, [.ref tp, .ref n, .ref dr, .ref x_images, .ref x_kept, .ref rd, .ref st, .ref tl, .ref rg, .ref sv, .ref oc, .ref x_tried, .ref lf, .int 1, .ref x_stoppedWays, .ref x_stoppedWorth, .int 0, .ref x_withinWorth])), (sv, .inr (6, [.ref n, .ref co, .ref sv_keep, .ref sv_scaled])), (co, .inr (0, [.ref n, .ref eq, .ref co_place])), (n, .inr (2, [.int 0, .ref n_kind, .ref n_pay, .ref n_name, .ref n_ways, .ref n_held, .ref n_targets, .ref n_weights])), (lf, .inr (10, [.ref lf_part, .long 1])), (eq, .inr (1, [.ref eq_rows, .ref eq_right, .long 1])), (eq_right, .inl (g 1, 8, .inr (.inl gr_179))), (eq_rows, .inl (g 5, 8, .inr (.inr (.inr (.inr (fun i => if i < 8 then some (rr i) else none)))))), ((rr 0), .inl (g 1, 8, .inr (.inl g0_180))), ((rr 1), .inl (g 1, 8, .inr (.inl g1_181))), ((rr 2), .inl (g 1, 8, .inr (.inl g2_182))), ((rr 3), .inl (g 1, 8, .inr (.inl g3_183))), ((rr 4), .inl (g 1, 8, .inr (.inl g4_184))), ((rr 5), .inl (g 1, 8, .inr (.inl g5_185))), ((rr 6), .inl (g 1, 8, .inr (.inl g6_186))), ((rr 7), .inl (g 1, 8, .inr (.inl g7_187)))] H := hP
  have hD : va_D A [(x, .inr (11, [.ref tp, .ref n, .ref dr, .ref x_images, .ref x_kept, .ref rd, .ref st, .ref tl, .ref rg, .ref sv, .ref oc, .ref x_tried, .ref lf, .int 1, .ref x_stoppedWays, .ref x_stoppedWorth, .int 0, .ref x_withinWorth])), (sv, .inr (6, [.ref n, .ref co, .ref sv_keep, .ref sv_scaled])), (co, .inr (0, [.ref n, .ref eq, .ref co_place])), (n, .inr (2, [.int 0, .ref n_kind, .ref n_pay, .ref n_name, .ref n_ways, .ref n_held, .ref n_targets, .ref n_weights])), (lf, .inr (10, [.ref lf_part, .long 1])), (eq, .inr (1, [.ref eq_rows, .ref eq_right, .long 1])), (eq_right, .inl (g 1, 8, .inr (.inl gr_179))), (eq_rows, .inl (g 5, 8, .inr (.inr (.inr (.inr (fun i => if i < 8 then some (rr i) else none)))))), ((rr 0), .inl (g 1, 8, .inr (.inl g0_180))), ((rr 1), .inl (g 1, 8, .inr (.inl g1_181))), ((rr 2), .inl (g 1, 8, .inr (.inl g2_182))), ((rr 3), .inl (g 1, 8, .inr (.inl g3_183))), ((rr 4), .inl (g 1, 8, .inr (.inl g4_184))), ((rr 5), .inl (g 1, 8, .inr (.inl g5_185))), ((rr 6), .inl (g 1, 8, .inr (.inl g6_186))), ((rr 7), .inl (g 1, 8, .inr (.inl g7_187)))] := hD
  refine lv_iconst (v := 0) hx hb dX11_firstWithLess_4 (by decide) ?_
  refine lv_istore_n (lv' := [(1, .int 0), (0, .ref x)]) hx hb dX11_firstWithLess_5 rfl hl (by decide) rfl (fun ls hl => ?_)
  refine lv_iload_n hx hb dX11_firstWithLess_6 rfl (lv_at hl 0 rfl) ?_
  refine lv_aload_n hx hb dX11_firstWithLess_7 rfl (lv_at hl 1 rfl) ?_
  refine va_get (D := D) (ci := 11) (v := .ref n) (C := RX11) (T := TX11) (N := 18) hx hb hts inlX11 hown hK hP 0 rfl rfl 1 (by decide) (hts (Cond.fieldLink RX11 19 "ChanceRings" "net" "LChanceRings$Net;") qw_114) (fun _ h9 => h9) rfl dX11_firstWithLess_8 ?_
  refine va_get (D := D) (ci := 2) (v := .int 0) (C := RX2) (T := TX2) (N := 8) hx hb hts inlX2 hown hK hP 3 rfl rfl 0 (by decide) (hts (Cond.fieldLink RX11 128 "ChanceRings$Net" "nodes" "I") qw_130) (fun _ h9 => h9) rfl dX11_firstWithLess_11 ?_
  refine lv_icmp_ge (tgt := 63) hx hb dX11_firstWithLess_14 (by decide) (fun _ => ?_) (fun h9 => (h9 (by decide)).elim)
  refine lv_iconst (v := (-1)) hx hb dX11_firstWithLess_63 (by decide) ?_
  have hP9 := hP.sub (ws' := [(x, .inr (11, [.ref tp, .ref n, .ref dr, .ref x_images, .ref x_kept, .ref rd, .ref st, .ref tl, .ref rg, .ref sv, .ref oc, .ref x_tried, .ref lf, .int 1, .ref x_stoppedWays, .ref x_stoppedWorth, .int 0, .ref x_withinWorth])), (sv, .inr (6, [.ref n, .ref co, .ref sv_keep, .ref sv_scaled])), (co, .inr (0, [.ref n, .ref eq, .ref co_place])), (n, .inr (2, [.int 0, .ref n_kind, .ref n_pay, .ref n_name, .ref n_ways, .ref n_held, .ref n_targets, .ref n_weights])), (lf, .inr (10, [.ref lf_part, .long 1])), (eq, .inr (1, [.ref eq_rows, .ref eq_right, .long 1])), (eq_right, .inl (g 1, 8, .inr (.inl gr_179))), (eq_rows, .inl (g 5, 8, .inr (.inr (.inr (.inr (fun i => if i < 8 then some (rr i) else none)))))), ((rr 0), .inl (g 1, 8, .inr (.inl g0_180))), ((rr 1), .inl (g 1, 8, .inr (.inl g1_181))), ((rr 2), .inl (g 1, 8, .inr (.inl g2_182))), ((rr 3), .inl (g 1, 8, .inr (.inl g3_183))), ((rr 4), .inl (g 1, 8, .inr (.inl g4_184))), ((rr 5), .inl (g 1, 8, .inr (.inl g5_185))), ((rr 6), .inl (g 1, 8, .inr (.inl g6_186))), ((rr 7), .inl (g 1, 8, .inr (.inl g7_187)))]) [0, 1, 2, 3, 4, 5, 6, 7, 8, 9, 10, 11, 12, 13, 14, 15] rfl
  have hD9 := hD.sub (ws' := [(x, .inr (11, [.ref tp, .ref n, .ref dr, .ref x_images, .ref x_kept, .ref rd, .ref st, .ref tl, .ref rg, .ref sv, .ref oc, .ref x_tried, .ref lf, .int 1, .ref x_stoppedWays, .ref x_stoppedWorth, .int 0, .ref x_withinWorth])), (sv, .inr (6, [.ref n, .ref co, .ref sv_keep, .ref sv_scaled])), (co, .inr (0, [.ref n, .ref eq, .ref co_place])), (n, .inr (2, [.int 0, .ref n_kind, .ref n_pay, .ref n_name, .ref n_ways, .ref n_held, .ref n_targets, .ref n_weights])), (lf, .inr (10, [.ref lf_part, .long 1])), (eq, .inr (1, [.ref eq_rows, .ref eq_right, .long 1])), (eq_right, .inl (g 1, 8, .inr (.inl gr_179))), (eq_rows, .inl (g 5, 8, .inr (.inr (.inr (.inr (fun i => if i < 8 then some (rr i) else none)))))), ((rr 0), .inl (g 1, 8, .inr (.inl g0_180))), ((rr 1), .inl (g 1, 8, .inr (.inl g1_181))), ((rr 2), .inl (g 1, 8, .inr (.inl g2_182))), ((rr 3), .inl (g 1, 8, .inr (.inl g3_183))), ((rr 4), .inl (g 1, 8, .inr (.inl g4_184))), ((rr 5), .inl (g 1, 8, .inr (.inl g5_185))), ((rr 6), .inl (g 1, 8, .inr (.inl g6_186))), ((rr 7), .inl (g 1, 8, .inr (.inl g7_187)))]) [0, 1, 2, 3, 4, 5, 6, 7, 8, 9, 10, 11, 12, 13, 14, 15] (by decide) rfl
  exact W.iret (v := (-1)) hx hb hr (fun t ht hW => ⟨⟨(-1), (), rfl, rfl, gr_179, g0_180, g1_181, g2_182, g3_183, g4_184, g5_185, g6_186, g7_187, by rw [ht]; exact hP9, hD9⟩, hS.F ht⟩) hS.2.2 dX11_firstWithLess_64
set_option maxHeartbeats 4000000 in
set_option maxRecDepth 100000 in
theorem c_X11_above (l : Launch) (D : va_G) (g : Nat → ClassId) (sz : Nat) (x : Nat) (tp : Nat) (n : Nat) (dr : Nat) (x_images : Nat) (x_kept : Nat) (rd : Nat) (st : Nat) (tl : Nat) (rg : Nat) (sv : Nat) (oc : Nat) (x_tried : Nat) (lf : Nat) (x_stoppedWays : Nat) (x_stoppedWorth : Nat) (x_withinWorth : Nat) (n_kind : Nat) (n_pay : Nat) (n_name : Nat) (n_ways : Nat) (n_held : Nat) (n_targets : Nat) (n_weights : Nat) (tp_bytes : Nat) : Met l yX11_above (.code yX11_above cX11_above 2 (some .int) :: wsL_law) ({ frames := 1, cells := 0, slots := 0, locals := 22 }) (va_Pc [.ref x] (fun U => U.heap.size = sz ∧ va_P D vwCl [(x, .inr (11, [.ref tp, .ref n, .ref dr, .ref x_images, .ref x_kept, .ref rd, .ref st, .ref tl, .ref rg, .ref sv, .ref oc, .ref x_tried, .ref lf, .int 0, .ref x_stoppedWays, .ref x_stoppedWorth, .int 0, .ref x_withinWorth])), (n, .inr (2, [.int 0, .ref n_kind, .ref n_pay, .ref n_name, .ref n_ways, .ref n_held, .ref n_targets, .ref n_weights])), (tp, .inr (8, [.ref tp_bytes, .int 0]))] U.heap ∧ va_K D vwCl (TY g) U ∧ va_D (fun _ => True) [(x, .inr (11, [.ref tp, .ref n, .ref dr, .ref x_images, .ref x_kept, .ref rd, .ref st, .ref tl, .ref rg, .ref sv, .ref oc, .ref x_tried, .ref lf, .int 0, .ref x_stoppedWays, .ref x_stoppedWorth, .int 0, .ref x_withinWorth])), (n, .inr (2, [.int 0, .ref n_kind, .ref n_pay, .ref n_name, .ref n_ways, .ref n_held, .ref n_targets, .ref n_weights])), (tp, .inr (8, [.ref tp_bytes, .int 0]))])) (va_Qi (fun r (_ : Unit) => r = (-1)) (fun _ _ => True) (va_A [(x, .inr (11, [.ref tp, .ref n, .ref dr, .ref x_images, .ref x_kept, .ref rd, .ref st, .ref tl, .ref rg, .ref sv, .ref oc, .ref x_tried, .ref lf, .int 0, .ref x_stoppedWays, .ref x_stoppedWorth, .int 0, .ref x_withinWorth])), (n, .inr (2, [.int 0, .ref n_kind, .ref n_pay, .ref n_name, .ref n_ways, .ref n_held, .ref n_targets, .ref n_weights])), (tp, .inr (8, [.ref tp_bytes, .int 0]))] sz)) 0 0 (va_A [(x, .inr (11, [.ref tp, .ref n, .ref dr, .ref x_images, .ref x_kept, .ref rd, .ref st, .ref tl, .ref rg, .ref sv, .ref oc, .ref x_tried, .ref lf, .int 0, .ref x_stoppedWays, .ref x_stoppedWorth, .int 0, .ref x_withinWorth])), (n, .inr (2, [.int 0, .ref n_kind, .ref n_pay, .ref n_name, .ref n_ways, .ref n_held, .ref n_targets, .ref n_weights])), (tp, .inr (8, [.ref tp_bytes, .int 0]))] sz) := by
  refine Met.ofW (cc := cX11_above) (maxL := 2) (ret := (some .int)) (by decide) rfl ?_
  intro p e s m args below meth c s₁ B hml hv
  obtain ⟨rfl, hsz, hP, hK, hD0⟩ := hv
  have hx := B.exec
  have hb := B.bytes
  have hr := B.returns
  have hts0 := atoms_spec (ws := (.code yX11_above cX11_above 2 (some .int) :: wsL_law)) B.pre
  have hts : ∀ w ∈ wsL_law, w.before _ s = true := fun w h => hts0 w (List.mem_cons_of_mem _ h)
  have hown : s.vm.findClass RX11 = some m.cls := findClass_of_methodNamed B.named
  have hlocks := B.notSynchronized
  subst hsz
  have hD := hD0.self (sz := s.heap.size)
  generalize hAe : va_A [(x, .inr (11, [.ref tp, .ref n, .ref dr, .ref x_images, .ref x_kept, .ref rd, .ref st, .ref tl, .ref rg, .ref sv, .ref oc, .ref x_tried, .ref lf, .int 0, .ref x_stoppedWays, .ref x_stoppedWorth, .int 0, .ref x_withinWorth])), (n, .inr (2, [.int 0, .ref n_kind, .ref n_pay, .ref n_name, .ref n_ways, .ref n_held, .ref n_targets, .ref n_weights])), (tp, .inr (8, [.ref tp_bytes, .int 0]))] s.heap.size = A at hD ⊢
  have hA : ∀ q : Nat, s.heap.size ≤ q → A q := fun q h => by rw [← hAe]; exact Or.inr h
  have hS : va_S A s.heap s.heap [] := va_S.rf
  have hP : va_P D vwCl [(x, .inr (11, [.ref tp, .ref n, .ref dr, .ref x_images, .ref x_kept, .ref rd, .ref st, .ref tl, .ref rg, .ref sv, .ref oc, .ref x_tried, .ref lf, .int 0, .ref x_stoppedWays, .ref x_stoppedWorth, .int 0, .ref x_withinWorth])), (n, .inr (2, [.int 0, .ref n_kind, .ref n_pay, .ref n_name, .ref n_ways, .ref n_held, .ref n_targets, .ref n_weights])), (tp, .inr (8, [.ref tp_bytes, .int 0]))] s.heap := hP
  have hl := lv_entry ([.ref x]) (n := 2) (Nat.le_of_ble_eq_true rfl)
  rw [lg_entry_eq]
  generalize (lg_sl ([.ref x]) ++ List.replicate (2 - (lg_sl ([.ref x])).length) Slot.unset).toArray = ls at hl ⊢
  have hl : lv_has ls 2 [(0, .ref x)] := hl
  refine lv_aload_n hx hb dX11_above_0 rfl (lv_at hl 0 rfl) ?_
  refine va_get (D := D) (ci := 11) (v := .ref tp) (C := RX11) (T := TX11) (N := 18) hx hb hts inlX11 hown hK hP 0 rfl rfl 0 (by decide) (hts (Cond.fieldLink RX11 10 "ChanceRings" "tape" "LChanceRings$Tape;") qw_149) (fun _ h9 => h9) rfl dX11_above_1 ?_
  refine lv_aload_n hx hb dX11_above_4 rfl (lv_at hl 0 rfl) ?_
  refine va_get (D := D) (ci := 11) (v := .ref n) (C := RX11) (T := TX11) (N := 18) hx hb hts inlX11 hown hK hP 0 rfl rfl 1 (by decide) (hts (Cond.fieldLink RX11 19 "ChanceRings" "net" "LChanceRings$Net;") qw_114) (fun _ h9 => h9) rfl dX11_above_5 ?_
  refine va_get (D := D) (ci := 2) (v := .int 0) (C := RX2) (T := TX2) (N := 8) hx hb hts inlX2 hown hK hP 1 rfl rfl 0 (by decide) (hts (Cond.fieldLink RX11 128 "ChanceRings$Net" "nodes" "I") qw_130) (fun _ h9 => h9) rfl dX11_above_8 ?_
  have hPc := hP.sub (ws' := [(tp, .inr (8, [.ref tp_bytes, .int 0]))]) [2] rfl
  refine vp_callSi (va_Run.run (va_runV (As := [.int 0]) (rest := []) ⟨hx, hb, hml, hown, hts⟩ (c_X8_tellsFractions l D g tp tp_bytes) (cwV 1 hts (tz_gV qw_172 qw_173 qw_174 qw_155 qw_175) rfl rfl rfl (by decide +kernel) ⟨Nat.le_of_ble_eq_true rfl, Nat.le_of_ble_eq_true rfl⟩) ⟨tz_blS, va_recv hK hPc (ci := 8) (q0 := 0) rfl rfl, tz_preS hPc hK⟩ rfl rfl hl.1 rfl (lv_room (Nat.le_of_ble_eq_true rfl)) dX11_above_11 ⟨Nat.le_of_ble_eq_true rfl, Nat.le_of_ble_eq_true rfl⟩)) (fun r_188 hw => ?_)
  subst hw
  refine lv_if_eq (tgt := 24) hx hb dX11_above_14 (by decide) (fun h9 => absurd h9 (by decide)) (fun _ => ?_)
  refine lv_aload_n hx hb dX11_above_17 rfl (lv_at hl 0 rfl) ?_
  have hPc := hP.sub (ws' := [(x, .inr (11, [.ref tp, .ref n, .ref dr, .ref x_images, .ref x_kept, .ref rd, .ref st, .ref tl, .ref rg, .ref sv, .ref oc, .ref x_tried, .ref lf, .int 0, .ref x_stoppedWays, .ref x_stoppedWorth, .int 0, .ref x_withinWorth])), (n, .inr (2, [.int 0, .ref n_kind, .ref n_pay, .ref n_name, .ref n_ways, .ref n_held, .ref n_targets, .ref n_weights]))]) [0, 1] rfl
  refine vp_callSi (va_Run.run (va_runV (As := []) (rest := []) ⟨hx, hb, hml, hown, hts⟩ (c_X11_firstUnproved l D g x tp n dr x_images x_kept rd st tl rg sv oc x_tried lf x_stoppedWays x_stoppedWorth x_withinWorth n_kind n_pay n_name n_ways n_held n_targets n_weights) (cwV 0 hts (tz_gV qw_176 qw_177 qw_178 qw_165 qw_179) rfl rfl rfl (by decide +kernel) ⟨Nat.le_of_ble_eq_true rfl, Nat.le_of_ble_eq_true rfl⟩) ⟨tz_blS, va_recv hK hPc (ci := 11) (q0 := 0) rfl rfl, tz_preS hPc hK⟩ rfl rfl hl.1 rfl (lv_room (Nat.le_of_ble_eq_true rfl)) dX11_above_18 ⟨Nat.le_of_ble_eq_true rfl, Nat.le_of_ble_eq_true rfl⟩)) (fun r_189 hw => ?_)
  subst hw
  refine lv_goto (tgt := 26) hx hb dX11_above_21 (by decide) ?_
  refine lv_istore_n (lv' := [(1, .int (-1)), (0, .ref x)]) hx hb dX11_above_26 rfl hl (by decide) rfl (fun ls hl => ?_)
  refine lv_aload_n hx hb dX11_above_27 rfl (lv_at hl 1 rfl) ?_
  refine va_get (D := D) (ci := 11) (v := .ref tp) (C := RX11) (T := TX11) (N := 18) hx hb hts inlX11 hown hK hP 0 rfl rfl 0 (by decide) (hts (Cond.fieldLink RX11 10 "ChanceRings" "tape" "LChanceRings$Tape;") qw_149) (fun _ h9 => h9) rfl dX11_above_28 ?_
  refine lv_iconst (v := 0) hx hb dX11_above_31 (by decide) ?_
  refine va_put (D := D) (ci := 8) (v := .int 0) (ty := .int) (C := RX8) (T := TX8) (N := 2) hx hb hts inlX8 tyX8 tyX8_ok nmX8 hown hK hP hD hS 2 rfl rfl 1 (by decide) (hts (Cond.fieldLink RX11 102 "ChanceRings$Tape" "length" "I") qw_150) (fun _ h9 => h9) rfl (by decide +kernel) rfl rfl (Nat.le_of_ble_eq_true rfl) dX11_above_32 (fun H locs hP hD hS => ?_)
  have hP : va_P D vwCl [(x, .inr (11, [.ref tp, .ref n, .ref dr, .ref x_images, .ref x_kept, .ref rd, .ref st, .ref tl, .ref rg, .ref sv, .ref oc, .ref x_tried, .ref lf, .int 0, .ref x_stoppedWays, .ref x_stoppedWorth, .int 0, .ref x_withinWorth])), (n, .inr (2, [.int 0, .ref n_kind, .ref n_pay, .ref n_name, .ref n_ways, .ref n_held, .ref n_targets, .ref n_weights])), (tp, .inr (8, [.ref tp_bytes, .int 0]))] H := hP
  have hD : va_D A [(x, .inr (11, [.ref tp, .ref n, .ref dr, .ref x_images, .ref x_kept, .ref rd, .ref st, .ref tl, .ref rg, .ref sv, .ref oc, .ref x_tried, .ref lf, .int 0, .ref x_stoppedWays, .ref x_stoppedWorth, .int 0, .ref x_withinWorth])), (n, .inr (2, [.int 0, .ref n_kind, .ref n_pay, .ref n_name, .ref n_ways, .ref n_held, .ref n_targets, .ref n_weights])), (tp, .inr (8, [.ref tp_bytes, .int 0]))] := hD
  refine lv_iload_n hx hb dX11_above_35 rfl (lv_at hl 0 rfl) ?_
  exact W.iret (v := (-1)) hx hb hr (fun t ht hW => ⟨⟨(-1), (), rfl, rfl, trivial⟩, hS.F ht⟩) hS.2.2 dX11_above_36
set_option maxHeartbeats 4000000 in
set_option maxRecDepth 100000 in
theorem c_X11_below (l : Launch) (D : va_G) (g : Nat → ClassId) (sz : Nat) (x : Nat) (tp : Nat) (n : Nat) (dr : Nat) (x_images : Nat) (x_kept : Nat) (rd : Nat) (st : Nat) (tl : Nat) (rg : Nat) (sv : Nat) (oc : Nat) (x_tried : Nat) (lf : Nat) (x_stoppedWays : Nat) (x_stoppedWorth : Nat) (x_withinWorth : Nat) (co : Nat) (sv_keep : Nat) (sv_scaled : Nat) (eq : Nat) (co_place : Nat) (n_kind : Nat) (n_pay : Nat) (n_name : Nat) (n_ways : Nat) (n_held : Nat) (n_targets : Nat) (n_weights : Nat) (lf_part : Nat) (lfw : Int64) (eq_rows : Nat) (eq_right : Nat) (ew : Int64) (fr : Nat → Int64) (rr : Nat → Nat) (f0 : Nat → Int64) (f1 : Nat → Int64) (f2 : Nat → Int64) (f3 : Nat → Int64) (f4 : Nat → Int64) (f5 : Nat → Int64) (f6 : Nat → Int64) (f7 : Nat → Int64) (tp_bytes : Nat) : Met l yX11_below (.code yX11_below cX11_below 2 (some .int) :: wsL_law) ({ frames := 6, cells := 0, slots := 0, locals := 147 }) (va_Pc [.ref x] (fun U => U.heap.size = sz ∧ va_P D vwCl [(x, .inr (11, [.ref tp, .ref n, .ref dr, .ref x_images, .ref x_kept, .ref rd, .ref st, .ref tl, .ref rg, .ref sv, .ref oc, .ref x_tried, .ref lf, .int 0, .ref x_stoppedWays, .ref x_stoppedWorth, .int 0, .ref x_withinWorth])), (sv, .inr (6, [.ref n, .ref co, .ref sv_keep, .ref sv_scaled])), (co, .inr (0, [.ref n, .ref eq, .ref co_place])), (n, .inr (2, [.int 0, .ref n_kind, .ref n_pay, .ref n_name, .ref n_ways, .ref n_held, .ref n_targets, .ref n_weights])), (lf, .inr (10, [.ref lf_part, .long lfw])), (eq, .inr (1, [.ref eq_rows, .ref eq_right, .long ew])), (eq_right, .inl (g 1, 8, .inr (.inl fr))), (eq_rows, .inl (g 5, 8, .inr (.inr (.inr (.inr (fun i => if i < 8 then some (rr i) else none)))))), ((rr 0), .inl (g 1, 8, .inr (.inl f0))), ((rr 1), .inl (g 1, 8, .inr (.inl f1))), ((rr 2), .inl (g 1, 8, .inr (.inl f2))), ((rr 3), .inl (g 1, 8, .inr (.inl f3))), ((rr 4), .inl (g 1, 8, .inr (.inl f4))), ((rr 5), .inl (g 1, 8, .inr (.inl f5))), ((rr 6), .inl (g 1, 8, .inr (.inl f6))), ((rr 7), .inl (g 1, 8, .inr (.inl f7))), (tp, .inr (8, [.ref tp_bytes, .int 0]))] U.heap ∧ va_K D vwCl (TY g) U ∧ va_D (fun _ => True) [(x, .inr (11, [.ref tp, .ref n, .ref dr, .ref x_images, .ref x_kept, .ref rd, .ref st, .ref tl, .ref rg, .ref sv, .ref oc, .ref x_tried, .ref lf, .int 0, .ref x_stoppedWays, .ref x_stoppedWorth, .int 0, .ref x_withinWorth])), (sv, .inr (6, [.ref n, .ref co, .ref sv_keep, .ref sv_scaled])), (co, .inr (0, [.ref n, .ref eq, .ref co_place])), (n, .inr (2, [.int 0, .ref n_kind, .ref n_pay, .ref n_name, .ref n_ways, .ref n_held, .ref n_targets, .ref n_weights])), (lf, .inr (10, [.ref lf_part, .long lfw])), (eq, .inr (1, [.ref eq_rows, .ref eq_right, .long ew])), (eq_right, .inl (g 1, 8, .inr (.inl fr))), (eq_rows, .inl (g 5, 8, .inr (.inr (.inr (.inr (fun i => if i < 8 then some (rr i) else none)))))), ((rr 0), .inl (g 1, 8, .inr (.inl f0))), ((rr 1), .inl (g 1, 8, .inr (.inl f1))), ((rr 2), .inl (g 1, 8, .inr (.inl f2))), ((rr 3), .inl (g 1, 8, .inr (.inl f3))), ((rr 4), .inl (g 1, 8, .inr (.inl f4))), ((rr 5), .inl (g 1, 8, .inr (.inl f5))), ((rr 6), .inl (g 1, 8, .inr (.inl f6))), ((rr 7), .inl (g 1, 8, .inr (.inl f7))), (tp, .inr (8, [.ref tp_bytes, .int 0]))])) (va_Qi (fun r (_ : Unit) => r = (-1)) (fun _ _ => True) (va_A [(x, .inr (11, [.ref tp, .ref n, .ref dr, .ref x_images, .ref x_kept, .ref rd, .ref st, .ref tl, .ref rg, .ref sv, .ref oc, .ref x_tried, .ref lf, .int 0, .ref x_stoppedWays, .ref x_stoppedWorth, .int 0, .ref x_withinWorth])), (sv, .inr (6, [.ref n, .ref co, .ref sv_keep, .ref sv_scaled])), (co, .inr (0, [.ref n, .ref eq, .ref co_place])), (n, .inr (2, [.int 0, .ref n_kind, .ref n_pay, .ref n_name, .ref n_ways, .ref n_held, .ref n_targets, .ref n_weights])), (lf, .inr (10, [.ref lf_part, .long lfw])), (eq, .inr (1, [.ref eq_rows, .ref eq_right, .long ew])), (eq_right, .inl (g 1, 8, .inr (.inl fr))), (eq_rows, .inl (g 5, 8, .inr (.inr (.inr (.inr (fun i => if i < 8 then some (rr i) else none)))))), ((rr 0), .inl (g 1, 8, .inr (.inl f0))), ((rr 1), .inl (g 1, 8, .inr (.inl f1))), ((rr 2), .inl (g 1, 8, .inr (.inl f2))), ((rr 3), .inl (g 1, 8, .inr (.inl f3))), ((rr 4), .inl (g 1, 8, .inr (.inl f4))), ((rr 5), .inl (g 1, 8, .inr (.inl f5))), ((rr 6), .inl (g 1, 8, .inr (.inl f6))), ((rr 7), .inl (g 1, 8, .inr (.inl f7))), (tp, .inr (8, [.ref tp_bytes, .int 0]))] sz)) 0 0 (va_A [(x, .inr (11, [.ref tp, .ref n, .ref dr, .ref x_images, .ref x_kept, .ref rd, .ref st, .ref tl, .ref rg, .ref sv, .ref oc, .ref x_tried, .ref lf, .int 0, .ref x_stoppedWays, .ref x_stoppedWorth, .int 0, .ref x_withinWorth])), (sv, .inr (6, [.ref n, .ref co, .ref sv_keep, .ref sv_scaled])), (co, .inr (0, [.ref n, .ref eq, .ref co_place])), (n, .inr (2, [.int 0, .ref n_kind, .ref n_pay, .ref n_name, .ref n_ways, .ref n_held, .ref n_targets, .ref n_weights])), (lf, .inr (10, [.ref lf_part, .long lfw])), (eq, .inr (1, [.ref eq_rows, .ref eq_right, .long ew])), (eq_right, .inl (g 1, 8, .inr (.inl fr))), (eq_rows, .inl (g 5, 8, .inr (.inr (.inr (.inr (fun i => if i < 8 then some (rr i) else none)))))), ((rr 0), .inl (g 1, 8, .inr (.inl f0))), ((rr 1), .inl (g 1, 8, .inr (.inl f1))), ((rr 2), .inl (g 1, 8, .inr (.inl f2))), ((rr 3), .inl (g 1, 8, .inr (.inl f3))), ((rr 4), .inl (g 1, 8, .inr (.inl f4))), ((rr 5), .inl (g 1, 8, .inr (.inl f5))), ((rr 6), .inl (g 1, 8, .inr (.inl f6))), ((rr 7), .inl (g 1, 8, .inr (.inl f7))), (tp, .inr (8, [.ref tp_bytes, .int 0]))] sz) := by
  refine Met.ofW (cc := cX11_below) (maxL := 2) (ret := (some .int)) (by decide) rfl ?_
  intro p e s m args below meth c s₁ B hml hv
  obtain ⟨rfl, hsz, hP, hK, hD0⟩ := hv
  have hx := B.exec
  have hb := B.bytes
  have hr := B.returns
  have hts0 := atoms_spec (ws := (.code yX11_below cX11_below 2 (some .int) :: wsL_law)) B.pre
  have hts : ∀ w ∈ wsL_law, w.before _ s = true := fun w h => hts0 w (List.mem_cons_of_mem _ h)
  have hown : s.vm.findClass RX11 = some m.cls := findClass_of_methodNamed B.named
  have hlocks := B.notSynchronized
  subst hsz
  have hD := hD0.self (sz := s.heap.size)
  generalize hAe : va_A [(x, .inr (11, [.ref tp, .ref n, .ref dr, .ref x_images, .ref x_kept, .ref rd, .ref st, .ref tl, .ref rg, .ref sv, .ref oc, .ref x_tried, .ref lf, .int 0, .ref x_stoppedWays, .ref x_stoppedWorth, .int 0, .ref x_withinWorth])), (sv, .inr (6, [.ref n, .ref co, .ref sv_keep, .ref sv_scaled])), (co, .inr (0, [.ref n, .ref eq, .ref co_place])), (n, .inr (2, [.int 0, .ref n_kind, .ref n_pay, .ref n_name, .ref n_ways, .ref n_held, .ref n_targets, .ref n_weights])), (lf, .inr (10, [.ref lf_part, .long lfw])), (eq, .inr (1, [.ref eq_rows, .ref eq_right, .long ew])), (eq_right, .inl (g 1, 8, .inr (.inl fr))), (eq_rows, .inl (g 5, 8, .inr (.inr (.inr (.inr (fun i => if i < 8 then some (rr i) else none)))))), ((rr 0), .inl (g 1, 8, .inr (.inl f0))), ((rr 1), .inl (g 1, 8, .inr (.inl f1))), ((rr 2), .inl (g 1, 8, .inr (.inl f2))), ((rr 3), .inl (g 1, 8, .inr (.inl f3))), ((rr 4), .inl (g 1, 8, .inr (.inl f4))), ((rr 5), .inl (g 1, 8, .inr (.inl f5))), ((rr 6), .inl (g 1, 8, .inr (.inl f6))), ((rr 7), .inl (g 1, 8, .inr (.inl f7))), (tp, .inr (8, [.ref tp_bytes, .int 0]))] s.heap.size = A at hD ⊢
  have hA : ∀ q : Nat, s.heap.size ≤ q → A q := fun q h => by rw [← hAe]; exact Or.inr h
  have hS : va_S A s.heap s.heap [] := va_S.rf
  have hP : va_P D vwCl [(x, .inr (11, [.ref tp, .ref n, .ref dr, .ref x_images, .ref x_kept, .ref rd, .ref st, .ref tl, .ref rg, .ref sv, .ref oc, .ref x_tried, .ref lf, .int 0, .ref x_stoppedWays, .ref x_stoppedWorth, .int 0, .ref x_withinWorth])), (sv, .inr (6, [.ref n, .ref co, .ref sv_keep, .ref sv_scaled])), (co, .inr (0, [.ref n, .ref eq, .ref co_place])), (n, .inr (2, [.int 0, .ref n_kind, .ref n_pay, .ref n_name, .ref n_ways, .ref n_held, .ref n_targets, .ref n_weights])), (lf, .inr (10, [.ref lf_part, .long lfw])), (eq, .inr (1, [.ref eq_rows, .ref eq_right, .long ew])), (eq_right, .inl (g 1, 8, .inr (.inl fr))), (eq_rows, .inl (g 5, 8, .inr (.inr (.inr (.inr (fun i => if i < 8 then some (rr i) else none)))))), ((rr 0), .inl (g 1, 8, .inr (.inl f0))), ((rr 1), .inl (g 1, 8, .inr (.inl f1))), ((rr 2), .inl (g 1, 8, .inr (.inl f2))), ((rr 3), .inl (g 1, 8, .inr (.inl f3))), ((rr 4), .inl (g 1, 8, .inr (.inl f4))), ((rr 5), .inl (g 1, 8, .inr (.inl f5))), ((rr 6), .inl (g 1, 8, .inr (.inl f6))), ((rr 7), .inl (g 1, 8, .inr (.inl f7))), (tp, .inr (8, [.ref tp_bytes, .int 0]))] s.heap := hP
  have hl := lv_entry ([.ref x]) (n := 2) (Nat.le_of_ble_eq_true rfl)
  rw [lg_entry_eq]
  generalize (lg_sl ([.ref x]) ++ List.replicate (2 - (lg_sl ([.ref x])).length) Slot.unset).toArray = ls at hl ⊢
  have hl : lv_has ls 2 [(0, .ref x)] := hl
  refine lv_aload_n hx hb dX11_below_0 rfl (lv_at hl 0 rfl) ?_
  refine va_get (D := D) (ci := 11) (v := .ref tp) (C := RX11) (T := TX11) (N := 18) hx hb hts inlX11 hown hK hP 0 rfl rfl 0 (by decide) (hts (Cond.fieldLink RX11 10 "ChanceRings" "tape" "LChanceRings$Tape;") qw_149) (fun _ h9 => h9) rfl dX11_below_1 ?_
  refine lv_aload_n hx hb dX11_below_4 rfl (lv_at hl 0 rfl) ?_
  refine va_get (D := D) (ci := 11) (v := .ref n) (C := RX11) (T := TX11) (N := 18) hx hb hts inlX11 hown hK hP 0 rfl rfl 1 (by decide) (hts (Cond.fieldLink RX11 19 "ChanceRings" "net" "LChanceRings$Net;") qw_114) (fun _ h9 => h9) rfl dX11_below_5 ?_
  refine va_get (D := D) (ci := 2) (v := .int 0) (C := RX2) (T := TX2) (N := 8) hx hb hts inlX2 hown hK hP 3 rfl rfl 0 (by decide) (hts (Cond.fieldLink RX11 128 "ChanceRings$Net" "nodes" "I") qw_130) (fun _ h9 => h9) rfl dX11_below_8 ?_
  have hPc := hP.sub (ws' := [(tp, .inr (8, [.ref tp_bytes, .int 0]))]) [16] rfl
  refine vp_callSi (va_Run.run (va_runV (As := [.int 0]) (rest := []) ⟨hx, hb, hml, hown, hts⟩ (c_X8_tellsFractions l D g tp tp_bytes) (cwV 1 hts (tz_gV qw_172 qw_173 qw_174 qw_155 qw_175) rfl rfl rfl (by decide +kernel) ⟨Nat.le_of_ble_eq_true rfl, Nat.le_of_ble_eq_true rfl⟩) ⟨tz_blS, va_recv hK hPc (ci := 8) (q0 := 0) rfl rfl, tz_preS hPc hK⟩ rfl rfl hl.1 rfl (lv_room (Nat.le_of_ble_eq_true rfl)) dX11_below_11 ⟨Nat.le_of_ble_eq_true rfl, Nat.le_of_ble_eq_true rfl⟩)) (fun r_190 hw => ?_)
  subst hw
  refine lv_if_eq (tgt := 24) hx hb dX11_below_14 (by decide) (fun h9 => absurd h9 (by decide)) (fun _ => ?_)
  refine lv_aload_n hx hb dX11_below_17 rfl (lv_at hl 0 rfl) ?_
  have hPc := hP.sub (ws' := [(x, .inr (11, [.ref tp, .ref n, .ref dr, .ref x_images, .ref x_kept, .ref rd, .ref st, .ref tl, .ref rg, .ref sv, .ref oc, .ref x_tried, .ref lf, .int 0, .ref x_stoppedWays, .ref x_stoppedWorth, .int 0, .ref x_withinWorth])), (sv, .inr (6, [.ref n, .ref co, .ref sv_keep, .ref sv_scaled])), (co, .inr (0, [.ref n, .ref eq, .ref co_place])), (n, .inr (2, [.int 0, .ref n_kind, .ref n_pay, .ref n_name, .ref n_ways, .ref n_held, .ref n_targets, .ref n_weights])), (lf, .inr (10, [.ref lf_part, .long lfw])), (eq, .inr (1, [.ref eq_rows, .ref eq_right, .long ew])), (eq_right, .inl (g 1, 8, .inr (.inl fr))), (eq_rows, .inl (g 5, 8, .inr (.inr (.inr (.inr (fun i => if i < 8 then some (rr i) else none)))))), ((rr 0), .inl (g 1, 8, .inr (.inl f0))), ((rr 1), .inl (g 1, 8, .inr (.inl f1))), ((rr 2), .inl (g 1, 8, .inr (.inl f2))), ((rr 3), .inl (g 1, 8, .inr (.inl f3))), ((rr 4), .inl (g 1, 8, .inr (.inl f4))), ((rr 5), .inl (g 1, 8, .inr (.inl f5))), ((rr 6), .inl (g 1, 8, .inr (.inl f6))), ((rr 7), .inl (g 1, 8, .inr (.inl f7)))]) [0, 1, 2, 3, 4, 5, 6, 7, 8, 9, 10, 11, 12, 13, 14, 15] rfl
  have hDc := hD.sub (ws' := [(x, .inr (11, [.ref tp, .ref n, .ref dr, .ref x_images, .ref x_kept, .ref rd, .ref st, .ref tl, .ref rg, .ref sv, .ref oc, .ref x_tried, .ref lf, .int 0, .ref x_stoppedWays, .ref x_stoppedWorth, .int 0, .ref x_withinWorth])), (sv, .inr (6, [.ref n, .ref co, .ref sv_keep, .ref sv_scaled])), (co, .inr (0, [.ref n, .ref eq, .ref co_place])), (n, .inr (2, [.int 0, .ref n_kind, .ref n_pay, .ref n_name, .ref n_ways, .ref n_held, .ref n_targets, .ref n_weights])), (lf, .inr (10, [.ref lf_part, .long lfw])), (eq, .inr (1, [.ref eq_rows, .ref eq_right, .long ew])), (eq_right, .inl (g 1, 8, .inr (.inl fr))), (eq_rows, .inl (g 5, 8, .inr (.inr (.inr (.inr (fun i => if i < 8 then some (rr i) else none)))))), ((rr 0), .inl (g 1, 8, .inr (.inl f0))), ((rr 1), .inl (g 1, 8, .inr (.inl f1))), ((rr 2), .inl (g 1, 8, .inr (.inl f2))), ((rr 3), .inl (g 1, 8, .inr (.inl f3))), ((rr 4), .inl (g 1, 8, .inr (.inl f4))), ((rr 5), .inl (g 1, 8, .inr (.inl f5))), ((rr 6), .inl (g 1, 8, .inr (.inl f6))), ((rr 7), .inl (g 1, 8, .inr (.inl f7)))]) [0, 1, 2, 3, 4, 5, 6, 7, 8, 9, 10, 11, 12, 13, 14, 15] (by decide) rfl
  have hFc := va_free (wc := [(x, .inr (11, [.ref tp, .ref n, .ref dr, .ref x_images, .ref x_kept, .ref rd, .ref st, .ref tl, .ref rg, .ref sv, .ref oc, .ref x_tried, .ref lf, .int 0, .ref x_stoppedWays, .ref x_stoppedWorth, .int 0, .ref x_withinWorth])), (sv, .inr (6, [.ref n, .ref co, .ref sv_keep, .ref sv_scaled])), (co, .inr (0, [.ref n, .ref eq, .ref co_place])), (n, .inr (2, [.int 0, .ref n_kind, .ref n_pay, .ref n_name, .ref n_ways, .ref n_held, .ref n_targets, .ref n_weights])), (lf, .inr (10, [.ref lf_part, .long lfw])), (eq, .inr (1, [.ref eq_rows, .ref eq_right, .long ew])), (eq_right, .inl (g 1, 8, .inr (.inl fr))), (eq_rows, .inl (g 5, 8, .inr (.inr (.inr (.inr (fun i => if i < 8 then some (rr i) else none)))))), ((rr 0), .inl (g 1, 8, .inr (.inl f0))), ((rr 1), .inl (g 1, 8, .inr (.inl f1))), ((rr 2), .inl (g 1, 8, .inr (.inl f2))), ((rr 3), .inl (g 1, 8, .inr (.inl f3))), ((rr 4), .inl (g 1, 8, .inr (.inl f4))), ((rr 5), .inl (g 1, 8, .inr (.inl f5))), ((rr 6), .inl (g 1, 8, .inr (.inl f6))), ((rr 7), .inl (g 1, 8, .inr (.inl f7)))]) hD hS hA [0, 1, 2, 3, 4, 5, 6, 7, 8, 9, 10, 11, 12, 13, 14, 15] rfl
  refine va_calli (va_runV (As := []) (rest := []) ⟨hx, hb, hml, hown, hts⟩ (c_X11_firstWithLess l D g s.heap.size x tp n dr x_images x_kept rd st tl rg sv oc x_tried lf x_stoppedWays x_stoppedWorth x_withinWorth co sv_keep sv_scaled eq co_place n_kind n_pay n_name n_ways n_held n_targets n_weights lf_part lfw eq_rows eq_right ew fr rr f0 f1 f2 f3 f4 f5 f6 f7) (cwV 0 hts (tz_gV qw_180 qw_181 qw_182 qw_165 qw_183) rfl rfl rfl (by decide +kernel) ⟨Nat.le_of_ble_eq_true rfl, Nat.le_of_ble_eq_true rfl⟩) ⟨tz_blQ, va_recv hK hPc (ci := 11) (q0 := 0) rfl rfl, tz_preQ hPc hK hDc⟩ rfl rfl hl.1 rfl (lv_room (Nat.le_of_ble_eq_true rfl)) dX11_below_18 ⟨Nat.le_of_ble_eq_true rfl, Nat.le_of_ble_eq_true rfl⟩) hS (fun q _ h => hFc q h) hFc (fun r_191 u t H1 locs ht hvm hw hB hz1 hk1 hS => ?_)
  obtain ⟨gr_192, g0_193, g1_194, g2_195, g3_196, g4_197, g5_198, g6_199, g7_200, hP1, hD1⟩ := hB
  rw [ht] at hP1
  obtain ⟨hP, hD⟩ := va_join (wr := [(tp, .inr (8, [.ref tp_bytes, .int 0]))]) (w1 := [(x, .inr (11, [.ref tp, .ref n, .ref dr, .ref x_images, .ref x_kept, .ref rd, .ref st, .ref tl, .ref rg, .ref sv, .ref oc, .ref x_tried, .ref lf, .int 1, .ref x_stoppedWays, .ref x_stoppedWorth, .int 0, .ref x_withinWorth])), (sv, .inr (6, [.ref n, .ref co, .ref sv_keep, .ref sv_scaled])), (co, .inr (0, [.ref n, .ref eq, .ref co_place])), (n, .inr (2, [.int 0, .ref n_kind, .ref n_pay, .ref n_name, .ref n_ways, .ref n_held, .ref n_targets, .ref n_weights])), (lf, .inr (10, [.ref lf_part, .long 1])), (eq, .inr (1, [.ref eq_rows, .ref eq_right, .long 1])), (eq_right, .inl (g 1, 8, .inr (.inl gr_192))), (eq_rows, .inl (g 5, 8, .inr (.inr (.inr (.inr (fun i => if i < 8 then some (rr i) else none)))))), ((rr 0), .inl (g 1, 8, .inr (.inl g0_193))), ((rr 1), .inl (g 1, 8, .inr (.inl g1_194))), ((rr 2), .inl (g 1, 8, .inr (.inl g2_195))), ((rr 3), .inl (g 1, 8, .inr (.inl g3_196))), ((rr 4), .inl (g 1, 8, .inr (.inl g4_197))), ((rr 5), .inl (g 1, 8, .inr (.inl g5_198))), ((rr 6), .inl (g 1, 8, .inr (.inl g6_199))), ((rr 7), .inl (g 1, 8, .inr (.inl g7_200)))]) hP hD [0, 1, 2, 3, 4, 5, 6, 7, 8, 9, 10, 11, 12, 13, 14, 15] [16] rfl rfl (by decide) (by decide) hk1 hFc hP1 hD1
  generalize H1 = H at hP hS ⊢
  have hP : va_P D vwCl [(tp, .inr (8, [.ref tp_bytes, .int 0])), (x, .inr (11, [.ref tp, .ref n, .ref dr, .ref x_images, .ref x_kept, .ref rd, .ref st, .ref tl, .ref rg, .ref sv, .ref oc, .ref x_tried, .ref lf, .int 1, .ref x_stoppedWays, .ref x_stoppedWorth, .int 0, .ref x_withinWorth])), (sv, .inr (6, [.ref n, .ref co, .ref sv_keep, .ref sv_scaled])), (co, .inr (0, [.ref n, .ref eq, .ref co_place])), (n, .inr (2, [.int 0, .ref n_kind, .ref n_pay, .ref n_name, .ref n_ways, .ref n_held, .ref n_targets, .ref n_weights])), (lf, .inr (10, [.ref lf_part, .long 1])), (eq, .inr (1, [.ref eq_rows, .ref eq_right, .long 1])), (eq_right, .inl (g 1, 8, .inr (.inl gr_192))), (eq_rows, .inl (g 5, 8, .inr (.inr (.inr (.inr (fun i => if i < 8 then some (rr i) else none)))))), ((rr 0), .inl (g 1, 8, .inr (.inl g0_193))), ((rr 1), .inl (g 1, 8, .inr (.inl g1_194))), ((rr 2), .inl (g 1, 8, .inr (.inl g2_195))), ((rr 3), .inl (g 1, 8, .inr (.inl g3_196))), ((rr 4), .inl (g 1, 8, .inr (.inl g4_197))), ((rr 5), .inl (g 1, 8, .inr (.inl g5_198))), ((rr 6), .inl (g 1, 8, .inr (.inl g6_199))), ((rr 7), .inl (g 1, 8, .inr (.inl g7_200)))] H := hP
  have hD : va_D A [(tp, .inr (8, [.ref tp_bytes, .int 0])), (x, .inr (11, [.ref tp, .ref n, .ref dr, .ref x_images, .ref x_kept, .ref rd, .ref st, .ref tl, .ref rg, .ref sv, .ref oc, .ref x_tried, .ref lf, .int 1, .ref x_stoppedWays, .ref x_stoppedWorth, .int 0, .ref x_withinWorth])), (sv, .inr (6, [.ref n, .ref co, .ref sv_keep, .ref sv_scaled])), (co, .inr (0, [.ref n, .ref eq, .ref co_place])), (n, .inr (2, [.int 0, .ref n_kind, .ref n_pay, .ref n_name, .ref n_ways, .ref n_held, .ref n_targets, .ref n_weights])), (lf, .inr (10, [.ref lf_part, .long 1])), (eq, .inr (1, [.ref eq_rows, .ref eq_right, .long 1])), (eq_right, .inl (g 1, 8, .inr (.inl gr_192))), (eq_rows, .inl (g 5, 8, .inr (.inr (.inr (.inr (fun i => if i < 8 then some (rr i) else none)))))), ((rr 0), .inl (g 1, 8, .inr (.inl g0_193))), ((rr 1), .inl (g 1, 8, .inr (.inl g1_194))), ((rr 2), .inl (g 1, 8, .inr (.inl g2_195))), ((rr 3), .inl (g 1, 8, .inr (.inl g3_196))), ((rr 4), .inl (g 1, 8, .inr (.inl g4_197))), ((rr 5), .inl (g 1, 8, .inr (.inl g5_198))), ((rr 6), .inl (g 1, 8, .inr (.inl g6_199))), ((rr 7), .inl (g 1, 8, .inr (.inl g7_200)))] := hD
  subst hw
  refine lv_goto (tgt := 26) hx hb dX11_below_21 (by decide) ?_
  refine lv_istore_n (lv' := [(1, .int (-1)), (0, .ref x)]) hx hb dX11_below_26 rfl hl (by decide) rfl (fun ls hl => ?_)
  refine lv_aload_n hx hb dX11_below_27 rfl (lv_at hl 1 rfl) ?_
  refine va_get (D := D) (ci := 11) (v := .ref tp) (C := RX11) (T := TX11) (N := 18) hx hb hts inlX11 hown hK hP 1 rfl rfl 0 (by decide) (hts (Cond.fieldLink RX11 10 "ChanceRings" "tape" "LChanceRings$Tape;") qw_149) (fun _ h9 => h9) rfl dX11_below_28 ?_
  refine lv_iconst (v := 0) hx hb dX11_below_31 (by decide) ?_
  refine va_put (D := D) (ci := 8) (v := .int 0) (ty := .int) (C := RX8) (T := TX8) (N := 2) hx hb hts inlX8 tyX8 tyX8_ok nmX8 hown hK hP hD hS 0 rfl rfl 1 (by decide) (hts (Cond.fieldLink RX11 102 "ChanceRings$Tape" "length" "I") qw_150) (fun _ h9 => h9) rfl (by decide +kernel) rfl rfl (Nat.le_of_ble_eq_true rfl) dX11_below_32 (fun H locs hP hD hS => ?_)
  have hP : va_P D vwCl [(tp, .inr (8, [.ref tp_bytes, .int 0])), (x, .inr (11, [.ref tp, .ref n, .ref dr, .ref x_images, .ref x_kept, .ref rd, .ref st, .ref tl, .ref rg, .ref sv, .ref oc, .ref x_tried, .ref lf, .int 1, .ref x_stoppedWays, .ref x_stoppedWorth, .int 0, .ref x_withinWorth])), (sv, .inr (6, [.ref n, .ref co, .ref sv_keep, .ref sv_scaled])), (co, .inr (0, [.ref n, .ref eq, .ref co_place])), (n, .inr (2, [.int 0, .ref n_kind, .ref n_pay, .ref n_name, .ref n_ways, .ref n_held, .ref n_targets, .ref n_weights])), (lf, .inr (10, [.ref lf_part, .long 1])), (eq, .inr (1, [.ref eq_rows, .ref eq_right, .long 1])), (eq_right, .inl (g 1, 8, .inr (.inl gr_192))), (eq_rows, .inl (g 5, 8, .inr (.inr (.inr (.inr (fun i => if i < 8 then some (rr i) else none)))))), ((rr 0), .inl (g 1, 8, .inr (.inl g0_193))), ((rr 1), .inl (g 1, 8, .inr (.inl g1_194))), ((rr 2), .inl (g 1, 8, .inr (.inl g2_195))), ((rr 3), .inl (g 1, 8, .inr (.inl g3_196))), ((rr 4), .inl (g 1, 8, .inr (.inl g4_197))), ((rr 5), .inl (g 1, 8, .inr (.inl g5_198))), ((rr 6), .inl (g 1, 8, .inr (.inl g6_199))), ((rr 7), .inl (g 1, 8, .inr (.inl g7_200)))] H := hP
  have hD : va_D A [(tp, .inr (8, [.ref tp_bytes, .int 0])), (x, .inr (11, [.ref tp, .ref n, .ref dr, .ref x_images, .ref x_kept, .ref rd, .ref st, .ref tl, .ref rg, .ref sv, .ref oc, .ref x_tried, .ref lf, .int 1, .ref x_stoppedWays, .ref x_stoppedWorth, .int 0, .ref x_withinWorth])), (sv, .inr (6, [.ref n, .ref co, .ref sv_keep, .ref sv_scaled])), (co, .inr (0, [.ref n, .ref eq, .ref co_place])), (n, .inr (2, [.int 0, .ref n_kind, .ref n_pay, .ref n_name, .ref n_ways, .ref n_held, .ref n_targets, .ref n_weights])), (lf, .inr (10, [.ref lf_part, .long 1])), (eq, .inr (1, [.ref eq_rows, .ref eq_right, .long 1])), (eq_right, .inl (g 1, 8, .inr (.inl gr_192))), (eq_rows, .inl (g 5, 8, .inr (.inr (.inr (.inr (fun i => if i < 8 then some (rr i) else none)))))), ((rr 0), .inl (g 1, 8, .inr (.inl g0_193))), ((rr 1), .inl (g 1, 8, .inr (.inl g1_194))), ((rr 2), .inl (g 1, 8, .inr (.inl g2_195))), ((rr 3), .inl (g 1, 8, .inr (.inl g3_196))), ((rr 4), .inl (g 1, 8, .inr (.inl g4_197))), ((rr 5), .inl (g 1, 8, .inr (.inl g5_198))), ((rr 6), .inl (g 1, 8, .inr (.inl g6_199))), ((rr 7), .inl (g 1, 8, .inr (.inl g7_200)))] := hD
  refine lv_iload_n hx hb dX11_below_35 rfl (lv_at hl 0 rfl) ?_
  exact W.iret (v := (-1)) hx hb hr (fun t ht hW => ⟨⟨(-1), (), rfl, rfl, trivial⟩, hS.F ht⟩) hS.2.2 dX11_below_36
set_option maxHeartbeats 4000000 in
set_option maxRecDepth 100000 in
theorem c_X11_rings (l : Launch) (D : va_G) (g : Nat → ClassId) (sz : Nat) (x : Nat) (tp : Nat) (n : Nat) (dr : Nat) (x_images : Nat) (x_kept : Nat) (rd : Nat) (st : Nat) (tl : Nat) (rg : Nat) (sv : Nat) (oc : Nat) (x_tried : Nat) (lf : Nat) (x_stoppedWays : Nat) (x_stoppedWorth : Nat) (x_withinWorth : Nat) (oc_plan : Nat) (wo : Nat) (le : Nat) (oc_reach : Nat) (oc_ringBits : Nat) (co : Nat) (sv_keep : Nat) (sv_scaled : Nat) (eq : Nat) (co_place : Nat) (n_kind : Nat) (n_pay : Nat) (n_name : Nat) (n_ways : Nat) (n_held : Nat) (n_targets : Nat) (n_weights : Nat) (wo_part : Nat) (wow : Int64) (le_part : Nat) (lew : Int64) (eq_rows : Nat) (eq_right : Nat) (ew : Int64) (fr : Nat → Int64) (rr : Nat → Nat) (f0 : Nat → Int64) (f1 : Nat → Int64) (f2 : Nat → Int64) (f3 : Nat → Int64) (f4 : Nat → Int64) (f5 : Nat → Int64) (f6 : Nat → Int64) (f7 : Nat → Int64) : Met l yX11_rings (.code yX11_rings cX11_rings 1 (some .int) :: wsL_law) ({ frames := 6, cells := 0, slots := 0, locals := 154 }) (va_Pc [.ref x] (fun U => U.heap.size = sz ∧ va_P D vwCl [(x, .inr (11, [.ref tp, .ref n, .ref dr, .ref x_images, .ref x_kept, .ref rd, .ref st, .ref tl, .ref rg, .ref sv, .ref oc, .ref x_tried, .ref lf, .int 0, .ref x_stoppedWays, .ref x_stoppedWorth, .int 0, .ref x_withinWorth])), (oc, .inr (3, [.ref n, .ref sv, .ref oc_plan, .ref wo, .ref le, .ref oc_reach, .ref oc_ringBits, .int 0, .int 0, .int 0])), (sv, .inr (6, [.ref n, .ref co, .ref sv_keep, .ref sv_scaled])), (co, .inr (0, [.ref n, .ref eq, .ref co_place])), (n, .inr (2, [.int 0, .ref n_kind, .ref n_pay, .ref n_name, .ref n_ways, .ref n_held, .ref n_targets, .ref n_weights])), (wo, .inr (10, [.ref wo_part, .long wow])), (le, .inr (10, [.ref le_part, .long lew])), (eq, .inr (1, [.ref eq_rows, .ref eq_right, .long ew])), (eq_right, .inl (g 1, 8, .inr (.inl fr))), (eq_rows, .inl (g 5, 8, .inr (.inr (.inr (.inr (fun i => if i < 8 then some (rr i) else none)))))), ((rr 0), .inl (g 1, 8, .inr (.inl f0))), ((rr 1), .inl (g 1, 8, .inr (.inl f1))), ((rr 2), .inl (g 1, 8, .inr (.inl f2))), ((rr 3), .inl (g 1, 8, .inr (.inl f3))), ((rr 4), .inl (g 1, 8, .inr (.inl f4))), ((rr 5), .inl (g 1, 8, .inr (.inl f5))), ((rr 6), .inl (g 1, 8, .inr (.inl f6))), ((rr 7), .inl (g 1, 8, .inr (.inl f7)))] U.heap ∧ va_K D vwCl (TY g) U ∧ va_D (fun _ => True) [(x, .inr (11, [.ref tp, .ref n, .ref dr, .ref x_images, .ref x_kept, .ref rd, .ref st, .ref tl, .ref rg, .ref sv, .ref oc, .ref x_tried, .ref lf, .int 0, .ref x_stoppedWays, .ref x_stoppedWorth, .int 0, .ref x_withinWorth])), (oc, .inr (3, [.ref n, .ref sv, .ref oc_plan, .ref wo, .ref le, .ref oc_reach, .ref oc_ringBits, .int 0, .int 0, .int 0])), (sv, .inr (6, [.ref n, .ref co, .ref sv_keep, .ref sv_scaled])), (co, .inr (0, [.ref n, .ref eq, .ref co_place])), (n, .inr (2, [.int 0, .ref n_kind, .ref n_pay, .ref n_name, .ref n_ways, .ref n_held, .ref n_targets, .ref n_weights])), (wo, .inr (10, [.ref wo_part, .long wow])), (le, .inr (10, [.ref le_part, .long lew])), (eq, .inr (1, [.ref eq_rows, .ref eq_right, .long ew])), (eq_right, .inl (g 1, 8, .inr (.inl fr))), (eq_rows, .inl (g 5, 8, .inr (.inr (.inr (.inr (fun i => if i < 8 then some (rr i) else none)))))), ((rr 0), .inl (g 1, 8, .inr (.inl f0))), ((rr 1), .inl (g 1, 8, .inr (.inl f1))), ((rr 2), .inl (g 1, 8, .inr (.inl f2))), ((rr 3), .inl (g 1, 8, .inr (.inl f3))), ((rr 4), .inl (g 1, 8, .inr (.inl f4))), ((rr 5), .inl (g 1, 8, .inr (.inl f5))), ((rr 6), .inl (g 1, 8, .inr (.inl f6))), ((rr 7), .inl (g 1, 8, .inr (.inl f7)))])) (va_Qi (fun r (_ : Unit) => r = 0) (fun _ _ => True) (va_A [(x, .inr (11, [.ref tp, .ref n, .ref dr, .ref x_images, .ref x_kept, .ref rd, .ref st, .ref tl, .ref rg, .ref sv, .ref oc, .ref x_tried, .ref lf, .int 0, .ref x_stoppedWays, .ref x_stoppedWorth, .int 0, .ref x_withinWorth])), (oc, .inr (3, [.ref n, .ref sv, .ref oc_plan, .ref wo, .ref le, .ref oc_reach, .ref oc_ringBits, .int 0, .int 0, .int 0])), (sv, .inr (6, [.ref n, .ref co, .ref sv_keep, .ref sv_scaled])), (co, .inr (0, [.ref n, .ref eq, .ref co_place])), (n, .inr (2, [.int 0, .ref n_kind, .ref n_pay, .ref n_name, .ref n_ways, .ref n_held, .ref n_targets, .ref n_weights])), (wo, .inr (10, [.ref wo_part, .long wow])), (le, .inr (10, [.ref le_part, .long lew])), (eq, .inr (1, [.ref eq_rows, .ref eq_right, .long ew])), (eq_right, .inl (g 1, 8, .inr (.inl fr))), (eq_rows, .inl (g 5, 8, .inr (.inr (.inr (.inr (fun i => if i < 8 then some (rr i) else none)))))), ((rr 0), .inl (g 1, 8, .inr (.inl f0))), ((rr 1), .inl (g 1, 8, .inr (.inl f1))), ((rr 2), .inl (g 1, 8, .inr (.inl f2))), ((rr 3), .inl (g 1, 8, .inr (.inl f3))), ((rr 4), .inl (g 1, 8, .inr (.inl f4))), ((rr 5), .inl (g 1, 8, .inr (.inl f5))), ((rr 6), .inl (g 1, 8, .inr (.inl f6))), ((rr 7), .inl (g 1, 8, .inr (.inl f7)))] sz)) 0 0 (va_A [(x, .inr (11, [.ref tp, .ref n, .ref dr, .ref x_images, .ref x_kept, .ref rd, .ref st, .ref tl, .ref rg, .ref sv, .ref oc, .ref x_tried, .ref lf, .int 0, .ref x_stoppedWays, .ref x_stoppedWorth, .int 0, .ref x_withinWorth])), (oc, .inr (3, [.ref n, .ref sv, .ref oc_plan, .ref wo, .ref le, .ref oc_reach, .ref oc_ringBits, .int 0, .int 0, .int 0])), (sv, .inr (6, [.ref n, .ref co, .ref sv_keep, .ref sv_scaled])), (co, .inr (0, [.ref n, .ref eq, .ref co_place])), (n, .inr (2, [.int 0, .ref n_kind, .ref n_pay, .ref n_name, .ref n_ways, .ref n_held, .ref n_targets, .ref n_weights])), (wo, .inr (10, [.ref wo_part, .long wow])), (le, .inr (10, [.ref le_part, .long lew])), (eq, .inr (1, [.ref eq_rows, .ref eq_right, .long ew])), (eq_right, .inl (g 1, 8, .inr (.inl fr))), (eq_rows, .inl (g 5, 8, .inr (.inr (.inr (.inr (fun i => if i < 8 then some (rr i) else none)))))), ((rr 0), .inl (g 1, 8, .inr (.inl f0))), ((rr 1), .inl (g 1, 8, .inr (.inl f1))), ((rr 2), .inl (g 1, 8, .inr (.inl f2))), ((rr 3), .inl (g 1, 8, .inr (.inl f3))), ((rr 4), .inl (g 1, 8, .inr (.inl f4))), ((rr 5), .inl (g 1, 8, .inr (.inl f5))), ((rr 6), .inl (g 1, 8, .inr (.inl f6))), ((rr 7), .inl (g 1, 8, .inr (.inl f7)))] sz) := by
  refine Met.ofW (cc := cX11_rings) (maxL := 1) (ret := (some .int)) (by decide) rfl ?_
  intro p e s m args below meth c s₁ B hml hv
  obtain ⟨rfl, hsz, hP, hK, hD0⟩ := hv
  have hx := B.exec
  have hb := B.bytes
  have hr := B.returns
  have hts0 := atoms_spec (ws := (.code yX11_rings cX11_rings 1 (some .int) :: wsL_law)) B.pre
  have hts : ∀ w ∈ wsL_law, w.before _ s = true := fun w h => hts0 w (List.mem_cons_of_mem _ h)
  have hown : s.vm.findClass RX11 = some m.cls := findClass_of_methodNamed B.named
  have hlocks := B.notSynchronized
  subst hsz
  have hD := hD0.self (sz := s.heap.size)
  generalize hAe : va_A [(x, .inr (11, [.ref tp, .ref n, .ref dr, .ref x_images, .ref x_kept, .ref rd, .ref st, .ref tl, .ref rg, .ref sv, .ref oc, .ref x_tried, .ref lf, .int 0, .ref x_stoppedWays, .ref x_stoppedWorth, .int 0, .ref x_withinWorth])), (oc, .inr (3, [.ref n, .ref sv, .ref oc_plan, .ref wo, .ref le, .ref oc_reach, .ref oc_ringBits, .int 0, .int 0, .int 0])), (sv, .inr (6, [.ref n, .ref co, .ref sv_keep, .ref sv_scaled])), (co, .inr (0, [.ref n, .ref eq, .ref co_place])), (n, .inr (2, [.int 0, .ref n_kind, .ref n_pay, .ref n_name, .ref n_ways, .ref n_held, .ref n_targets, .ref n_weights])), (wo, .inr (10, [.ref wo_part, .long wow])), (le, .inr (10, [.ref le_part, .long lew])), (eq, .inr (1, [.ref eq_rows, .ref eq_right, .long ew])), (eq_right, .inl (g 1, 8, .inr (.inl fr))), (eq_rows, .inl (g 5, 8, .inr (.inr (.inr (.inr (fun i => if i < 8 then some (rr i) else none)))))), ((rr 0), .inl (g 1, 8, .inr (.inl f0))), ((rr 1), .inl (g 1, 8, .inr (.inl f1))), ((rr 2), .inl (g 1, 8, .inr (.inl f2))), ((rr 3), .inl (g 1, 8, .inr (.inl f3))), ((rr 4), .inl (g 1, 8, .inr (.inl f4))), ((rr 5), .inl (g 1, 8, .inr (.inl f5))), ((rr 6), .inl (g 1, 8, .inr (.inl f6))), ((rr 7), .inl (g 1, 8, .inr (.inl f7)))] s.heap.size = A at hD ⊢
  have hA : ∀ q : Nat, s.heap.size ≤ q → A q := fun q h => by rw [← hAe]; exact Or.inr h
  have hS : va_S A s.heap s.heap [] := va_S.rf
  have hP : va_P D vwCl [(x, .inr (11, [.ref tp, .ref n, .ref dr, .ref x_images, .ref x_kept, .ref rd, .ref st, .ref tl, .ref rg, .ref sv, .ref oc, .ref x_tried, .ref lf, .int 0, .ref x_stoppedWays, .ref x_stoppedWorth, .int 0, .ref x_withinWorth])), (oc, .inr (3, [.ref n, .ref sv, .ref oc_plan, .ref wo, .ref le, .ref oc_reach, .ref oc_ringBits, .int 0, .int 0, .int 0])), (sv, .inr (6, [.ref n, .ref co, .ref sv_keep, .ref sv_scaled])), (co, .inr (0, [.ref n, .ref eq, .ref co_place])), (n, .inr (2, [.int 0, .ref n_kind, .ref n_pay, .ref n_name, .ref n_ways, .ref n_held, .ref n_targets, .ref n_weights])), (wo, .inr (10, [.ref wo_part, .long wow])), (le, .inr (10, [.ref le_part, .long lew])), (eq, .inr (1, [.ref eq_rows, .ref eq_right, .long ew])), (eq_right, .inl (g 1, 8, .inr (.inl fr))), (eq_rows, .inl (g 5, 8, .inr (.inr (.inr (.inr (fun i => if i < 8 then some (rr i) else none)))))), ((rr 0), .inl (g 1, 8, .inr (.inl f0))), ((rr 1), .inl (g 1, 8, .inr (.inl f1))), ((rr 2), .inl (g 1, 8, .inr (.inl f2))), ((rr 3), .inl (g 1, 8, .inr (.inl f3))), ((rr 4), .inl (g 1, 8, .inr (.inl f4))), ((rr 5), .inl (g 1, 8, .inr (.inl f5))), ((rr 6), .inl (g 1, 8, .inr (.inl f6))), ((rr 7), .inl (g 1, 8, .inr (.inl f7)))] s.heap := hP
  have hl := lv_entry ([.ref x]) (n := 1) (Nat.le_of_ble_eq_true rfl)
  rw [lg_entry_eq]
  generalize (lg_sl ([.ref x]) ++ List.replicate (1 - (lg_sl ([.ref x])).length) Slot.unset).toArray = ls at hl ⊢
  have hl : lv_has ls 1 [(0, .ref x)] := hl
  refine lv_aload_n hx hb dX11_rings_0 rfl (lv_at hl 0 rfl) ?_
  refine va_get (D := D) (ci := 11) (v := .ref oc) (C := RX11) (T := TX11) (N := 18) hx hb hts inlX11 hown hK hP 0 rfl rfl 10 (by decide) (hts (Cond.fieldLink RX11 78 "ChanceRings" "outcome" "LChanceRings$Outcome;") qw_184) (fun _ h9 => h9) rfl dX11_rings_1 ?_
  have hPc := hP.sub (ws' := [(oc, .inr (3, [.ref n, .ref sv, .ref oc_plan, .ref wo, .ref le, .ref oc_reach, .ref oc_ringBits, .int 0, .int 0, .int 0])), (sv, .inr (6, [.ref n, .ref co, .ref sv_keep, .ref sv_scaled])), (co, .inr (0, [.ref n, .ref eq, .ref co_place])), (n, .inr (2, [.int 0, .ref n_kind, .ref n_pay, .ref n_name, .ref n_ways, .ref n_held, .ref n_targets, .ref n_weights])), (wo, .inr (10, [.ref wo_part, .long wow])), (le, .inr (10, [.ref le_part, .long lew])), (eq, .inr (1, [.ref eq_rows, .ref eq_right, .long ew])), (eq_right, .inl (g 1, 8, .inr (.inl fr))), (eq_rows, .inl (g 5, 8, .inr (.inr (.inr (.inr (fun i => if i < 8 then some (rr i) else none)))))), ((rr 0), .inl (g 1, 8, .inr (.inl f0))), ((rr 1), .inl (g 1, 8, .inr (.inl f1))), ((rr 2), .inl (g 1, 8, .inr (.inl f2))), ((rr 3), .inl (g 1, 8, .inr (.inl f3))), ((rr 4), .inl (g 1, 8, .inr (.inl f4))), ((rr 5), .inl (g 1, 8, .inr (.inl f5))), ((rr 6), .inl (g 1, 8, .inr (.inl f6))), ((rr 7), .inl (g 1, 8, .inr (.inl f7)))]) [1, 2, 3, 4, 5, 6, 7, 8, 9, 10, 11, 12, 13, 14, 15, 16, 17] rfl
  have hDc := hD.sub (ws' := [(oc, .inr (3, [.ref n, .ref sv, .ref oc_plan, .ref wo, .ref le, .ref oc_reach, .ref oc_ringBits, .int 0, .int 0, .int 0])), (sv, .inr (6, [.ref n, .ref co, .ref sv_keep, .ref sv_scaled])), (co, .inr (0, [.ref n, .ref eq, .ref co_place])), (n, .inr (2, [.int 0, .ref n_kind, .ref n_pay, .ref n_name, .ref n_ways, .ref n_held, .ref n_targets, .ref n_weights])), (wo, .inr (10, [.ref wo_part, .long wow])), (le, .inr (10, [.ref le_part, .long lew])), (eq, .inr (1, [.ref eq_rows, .ref eq_right, .long ew])), (eq_right, .inl (g 1, 8, .inr (.inl fr))), (eq_rows, .inl (g 5, 8, .inr (.inr (.inr (.inr (fun i => if i < 8 then some (rr i) else none)))))), ((rr 0), .inl (g 1, 8, .inr (.inl f0))), ((rr 1), .inl (g 1, 8, .inr (.inl f1))), ((rr 2), .inl (g 1, 8, .inr (.inl f2))), ((rr 3), .inl (g 1, 8, .inr (.inl f3))), ((rr 4), .inl (g 1, 8, .inr (.inl f4))), ((rr 5), .inl (g 1, 8, .inr (.inl f5))), ((rr 6), .inl (g 1, 8, .inr (.inl f6))), ((rr 7), .inl (g 1, 8, .inr (.inl f7)))]) [1, 2, 3, 4, 5, 6, 7, 8, 9, 10, 11, 12, 13, 14, 15, 16, 17] (by decide) rfl
  have hFc := va_free (wc := [(oc, .inr (3, [.ref n, .ref sv, .ref oc_plan, .ref wo, .ref le, .ref oc_reach, .ref oc_ringBits, .int 0, .int 0, .int 0])), (sv, .inr (6, [.ref n, .ref co, .ref sv_keep, .ref sv_scaled])), (co, .inr (0, [.ref n, .ref eq, .ref co_place])), (n, .inr (2, [.int 0, .ref n_kind, .ref n_pay, .ref n_name, .ref n_ways, .ref n_held, .ref n_targets, .ref n_weights])), (wo, .inr (10, [.ref wo_part, .long wow])), (le, .inr (10, [.ref le_part, .long lew])), (eq, .inr (1, [.ref eq_rows, .ref eq_right, .long ew])), (eq_right, .inl (g 1, 8, .inr (.inl fr))), (eq_rows, .inl (g 5, 8, .inr (.inr (.inr (.inr (fun i => if i < 8 then some (rr i) else none)))))), ((rr 0), .inl (g 1, 8, .inr (.inl f0))), ((rr 1), .inl (g 1, 8, .inr (.inl f1))), ((rr 2), .inl (g 1, 8, .inr (.inl f2))), ((rr 3), .inl (g 1, 8, .inr (.inl f3))), ((rr 4), .inl (g 1, 8, .inr (.inl f4))), ((rr 5), .inl (g 1, 8, .inr (.inl f5))), ((rr 6), .inl (g 1, 8, .inr (.inl f6))), ((rr 7), .inl (g 1, 8, .inr (.inl f7)))]) hD hS hA [1, 2, 3, 4, 5, 6, 7, 8, 9, 10, 11, 12, 13, 14, 15, 16, 17] rfl
  refine va_callv (va_runV (As := []) (rest := []) ⟨hx, hb, hml, hown, hts⟩ (c_X3_settle l D g s.heap.size oc n sv oc_plan wo le oc_reach oc_ringBits co sv_keep sv_scaled eq co_place n_kind n_pay n_name n_ways n_held n_targets n_weights wo_part wow le_part lew eq_rows eq_right ew fr rr f0 f1 f2 f3 f4 f5 f6 f7) (cwV 0 hts (tz_gV qw_185 qw_186 qw_187 qw_102 qw_188) rfl rfl rfl (by decide +kernel) ⟨Nat.le_of_ble_eq_true rfl, Nat.le_of_ble_eq_true rfl⟩) ⟨tz_blQ, va_recv hK hPc (ci := 3) (q0 := 0) rfl rfl, tz_preQ hPc hK hDc⟩ rfl rfl hl.1 rfl (lv_room (Nat.le_of_ble_eq_true rfl)) dX11_rings_4 ⟨Nat.le_of_ble_eq_true rfl, Nat.le_of_ble_eq_true rfl⟩) hS (fun q _ h => hFc q h) hFc (fun u t H1 locs ht hvm hw hB hz1 hk1 hS => ?_)
  obtain ⟨gr_202, g0_203, g1_204, g2_205, g3_206, g4_207, g5_208, g6_209, g7_210, hP1, hD1⟩ := hB
  rw [ht] at hP1
  obtain ⟨hP, hD⟩ := va_join (wr := [(x, .inr (11, [.ref tp, .ref n, .ref dr, .ref x_images, .ref x_kept, .ref rd, .ref st, .ref tl, .ref rg, .ref sv, .ref oc, .ref x_tried, .ref lf, .int 0, .ref x_stoppedWays, .ref x_stoppedWorth, .int 0, .ref x_withinWorth]))]) (w1 := [(oc, .inr (3, [.ref n, .ref sv, .ref oc_plan, .ref wo, .ref le, .ref oc_reach, .ref oc_ringBits, .int 0, .int 0, .int 1])), (sv, .inr (6, [.ref n, .ref co, .ref sv_keep, .ref sv_scaled])), (co, .inr (0, [.ref n, .ref eq, .ref co_place])), (n, .inr (2, [.int 0, .ref n_kind, .ref n_pay, .ref n_name, .ref n_ways, .ref n_held, .ref n_targets, .ref n_weights])), (wo, .inr (10, [.ref wo_part, .long 1])), (le, .inr (10, [.ref le_part, .long 1])), (eq, .inr (1, [.ref eq_rows, .ref eq_right, .long 1])), (eq_right, .inl (g 1, 8, .inr (.inl gr_202))), (eq_rows, .inl (g 5, 8, .inr (.inr (.inr (.inr (fun i => if i < 8 then some (rr i) else none)))))), ((rr 0), .inl (g 1, 8, .inr (.inl g0_203))), ((rr 1), .inl (g 1, 8, .inr (.inl g1_204))), ((rr 2), .inl (g 1, 8, .inr (.inl g2_205))), ((rr 3), .inl (g 1, 8, .inr (.inl g3_206))), ((rr 4), .inl (g 1, 8, .inr (.inl g4_207))), ((rr 5), .inl (g 1, 8, .inr (.inl g5_208))), ((rr 6), .inl (g 1, 8, .inr (.inl g6_209))), ((rr 7), .inl (g 1, 8, .inr (.inl g7_210)))]) hP hD [1, 2, 3, 4, 5, 6, 7, 8, 9, 10, 11, 12, 13, 14, 15, 16, 17] [0] rfl rfl (by decide) (by decide) hk1 hFc hP1 hD1
  generalize H1 = H at hP hS ⊢
  have hP : va_P D vwCl [(x, .inr (11, [.ref tp, .ref n, .ref dr, .ref x_images, .ref x_kept, .ref rd, .ref st, .ref tl, .ref rg, .ref sv, .ref oc, .ref x_tried, .ref lf, .int 0, .ref x_stoppedWays, .ref x_stoppedWorth, .int 0, .ref x_withinWorth])), (oc, .inr (3, [.ref n, .ref sv, .ref oc_plan, .ref wo, .ref le, .ref oc_reach, .ref oc_ringBits, .int 0, .int 0, .int 1])), (sv, .inr (6, [.ref n, .ref co, .ref sv_keep, .ref sv_scaled])), (co, .inr (0, [.ref n, .ref eq, .ref co_place])), (n, .inr (2, [.int 0, .ref n_kind, .ref n_pay, .ref n_name, .ref n_ways, .ref n_held, .ref n_targets, .ref n_weights])), (wo, .inr (10, [.ref wo_part, .long 1])), (le, .inr (10, [.ref le_part, .long 1])), (eq, .inr (1, [.ref eq_rows, .ref eq_right, .long 1])), (eq_right, .inl (g 1, 8, .inr (.inl gr_202))), (eq_rows, .inl (g 5, 8, .inr (.inr (.inr (.inr (fun i => if i < 8 then some (rr i) else none)))))), ((rr 0), .inl (g 1, 8, .inr (.inl g0_203))), ((rr 1), .inl (g 1, 8, .inr (.inl g1_204))), ((rr 2), .inl (g 1, 8, .inr (.inl g2_205))), ((rr 3), .inl (g 1, 8, .inr (.inl g3_206))), ((rr 4), .inl (g 1, 8, .inr (.inl g4_207))), ((rr 5), .inl (g 1, 8, .inr (.inl g5_208))), ((rr 6), .inl (g 1, 8, .inr (.inl g6_209))), ((rr 7), .inl (g 1, 8, .inr (.inl g7_210)))] H := hP
  have hD : va_D A [(x, .inr (11, [.ref tp, .ref n, .ref dr, .ref x_images, .ref x_kept, .ref rd, .ref st, .ref tl, .ref rg, .ref sv, .ref oc, .ref x_tried, .ref lf, .int 0, .ref x_stoppedWays, .ref x_stoppedWorth, .int 0, .ref x_withinWorth])), (oc, .inr (3, [.ref n, .ref sv, .ref oc_plan, .ref wo, .ref le, .ref oc_reach, .ref oc_ringBits, .int 0, .int 0, .int 1])), (sv, .inr (6, [.ref n, .ref co, .ref sv_keep, .ref sv_scaled])), (co, .inr (0, [.ref n, .ref eq, .ref co_place])), (n, .inr (2, [.int 0, .ref n_kind, .ref n_pay, .ref n_name, .ref n_ways, .ref n_held, .ref n_targets, .ref n_weights])), (wo, .inr (10, [.ref wo_part, .long 1])), (le, .inr (10, [.ref le_part, .long 1])), (eq, .inr (1, [.ref eq_rows, .ref eq_right, .long 1])), (eq_right, .inl (g 1, 8, .inr (.inl gr_202))), (eq_rows, .inl (g 5, 8, .inr (.inr (.inr (.inr (fun i => if i < 8 then some (rr i) else none)))))), ((rr 0), .inl (g 1, 8, .inr (.inl g0_203))), ((rr 1), .inl (g 1, 8, .inr (.inl g1_204))), ((rr 2), .inl (g 1, 8, .inr (.inl g2_205))), ((rr 3), .inl (g 1, 8, .inr (.inl g3_206))), ((rr 4), .inl (g 1, 8, .inr (.inl g4_207))), ((rr 5), .inl (g 1, 8, .inr (.inl g5_208))), ((rr 6), .inl (g 1, 8, .inr (.inl g6_209))), ((rr 7), .inl (g 1, 8, .inr (.inl g7_210)))] := hD
  refine lv_aload_n hx hb dX11_rings_7 rfl (lv_at hl 0 rfl) ?_
  refine va_get (D := D) (ci := 11) (v := .ref oc) (C := RX11) (T := TX11) (N := 18) hx hb hts inlX11 hown hK hP 0 rfl rfl 10 (by decide) (hts (Cond.fieldLink RX11 78 "ChanceRings" "outcome" "LChanceRings$Outcome;") qw_184) (fun _ h9 => h9) rfl dX11_rings_8 ?_
  refine va_get (D := D) (ci := 3) (v := .int 0) (C := RX3) (T := TX3) (N := 10) hx hb hts inlX3 hown hK hP 1 rfl rfl 7 (by decide) (hts (Cond.fieldLink RX11 226 "ChanceRings$Outcome" "ringCount" "I") qw_189) (fun _ h9 => h9) rfl dX11_rings_11 ?_
  exact W.iret (v := 0) hx hb hr (fun t ht hW => ⟨⟨0, (), rfl, rfl, trivial⟩, hS.F ht⟩) hS.2.2 dX11_rings_14
set_option maxHeartbeats 4000000 in
set_option maxRecDepth 100000 in
theorem c_X11_ring (l : Launch) (D : va_G) (g : Nat → ClassId) (sz : Nat) (x : Nat) (p0 : Int32) (tp : Nat) (n : Nat) (dr : Nat) (x_images : Nat) (x_kept : Nat) (rd : Nat) (st : Nat) (tl : Nat) (rg : Nat) (sv : Nat) (oc : Nat) (x_tried : Nat) (lf : Nat) (x_stoppedWays : Nat) (x_stoppedWorth : Nat) (x_withinWorth : Nat) (oc_plan : Nat) (wo : Nat) (le : Nat) (oc_reach : Nat) (oc_ringBits : Nat) (co : Nat) (sv_keep : Nat) (sv_scaled : Nat) (eq : Nat) (co_place : Nat) (n_kind : Nat) (n_pay : Nat) (n_name : Nat) (n_ways : Nat) (n_held : Nat) (n_targets : Nat) (n_weights : Nat) (wo_part : Nat) (wow : Int64) (le_part : Nat) (lew : Int64) (eq_rows : Nat) (eq_right : Nat) (ew : Int64) (fr : Nat → Int64) (rr : Nat → Nat) (f0 : Nat → Int64) (f1 : Nat → Int64) (f2 : Nat → Int64) (f3 : Nat → Int64) (f4 : Nat → Int64) (f5 : Nat → Int64) (f6 : Nat → Int64) (f7 : Nat → Int64) : Met l yX11_ring (.code yX11_ring cX11_ring 2 (some .int) :: wsL_law) ({ frames := 6, cells := 0, slots := 0, locals := 154 }) (va_Pc [.ref x, .int p0] (fun U => U.heap.size = sz ∧ va_P D vwCl [(x, .inr (11, [.ref tp, .ref n, .ref dr, .ref x_images, .ref x_kept, .ref rd, .ref st, .ref tl, .ref rg, .ref sv, .ref oc, .ref x_tried, .ref lf, .int 0, .ref x_stoppedWays, .ref x_stoppedWorth, .int 0, .ref x_withinWorth])), (oc, .inr (3, [.ref n, .ref sv, .ref oc_plan, .ref wo, .ref le, .ref oc_reach, .ref oc_ringBits, .int 0, .int 0, .int 0])), (sv, .inr (6, [.ref n, .ref co, .ref sv_keep, .ref sv_scaled])), (co, .inr (0, [.ref n, .ref eq, .ref co_place])), (n, .inr (2, [.int 0, .ref n_kind, .ref n_pay, .ref n_name, .ref n_ways, .ref n_held, .ref n_targets, .ref n_weights])), (wo, .inr (10, [.ref wo_part, .long wow])), (le, .inr (10, [.ref le_part, .long lew])), (eq, .inr (1, [.ref eq_rows, .ref eq_right, .long ew])), (eq_right, .inl (g 1, 8, .inr (.inl fr))), (eq_rows, .inl (g 5, 8, .inr (.inr (.inr (.inr (fun i => if i < 8 then some (rr i) else none)))))), ((rr 0), .inl (g 1, 8, .inr (.inl f0))), ((rr 1), .inl (g 1, 8, .inr (.inl f1))), ((rr 2), .inl (g 1, 8, .inr (.inl f2))), ((rr 3), .inl (g 1, 8, .inr (.inl f3))), ((rr 4), .inl (g 1, 8, .inr (.inl f4))), ((rr 5), .inl (g 1, 8, .inr (.inl f5))), ((rr 6), .inl (g 1, 8, .inr (.inl f6))), ((rr 7), .inl (g 1, 8, .inr (.inl f7)))] U.heap ∧ va_K D vwCl (TY g) U ∧ va_D (fun _ => True) [(x, .inr (11, [.ref tp, .ref n, .ref dr, .ref x_images, .ref x_kept, .ref rd, .ref st, .ref tl, .ref rg, .ref sv, .ref oc, .ref x_tried, .ref lf, .int 0, .ref x_stoppedWays, .ref x_stoppedWorth, .int 0, .ref x_withinWorth])), (oc, .inr (3, [.ref n, .ref sv, .ref oc_plan, .ref wo, .ref le, .ref oc_reach, .ref oc_ringBits, .int 0, .int 0, .int 0])), (sv, .inr (6, [.ref n, .ref co, .ref sv_keep, .ref sv_scaled])), (co, .inr (0, [.ref n, .ref eq, .ref co_place])), (n, .inr (2, [.int 0, .ref n_kind, .ref n_pay, .ref n_name, .ref n_ways, .ref n_held, .ref n_targets, .ref n_weights])), (wo, .inr (10, [.ref wo_part, .long wow])), (le, .inr (10, [.ref le_part, .long lew])), (eq, .inr (1, [.ref eq_rows, .ref eq_right, .long ew])), (eq_right, .inl (g 1, 8, .inr (.inl fr))), (eq_rows, .inl (g 5, 8, .inr (.inr (.inr (.inr (fun i => if i < 8 then some (rr i) else none)))))), ((rr 0), .inl (g 1, 8, .inr (.inl f0))), ((rr 1), .inl (g 1, 8, .inr (.inl f1))), ((rr 2), .inl (g 1, 8, .inr (.inl f2))), ((rr 3), .inl (g 1, 8, .inr (.inl f3))), ((rr 4), .inl (g 1, 8, .inr (.inl f4))), ((rr 5), .inl (g 1, 8, .inr (.inl f5))), ((rr 6), .inl (g 1, 8, .inr (.inl f6))), ((rr 7), .inl (g 1, 8, .inr (.inl f7)))])) (va_Qi (fun r (_ : Unit) => r = (-1)) (fun _ _ => True) (va_A [(x, .inr (11, [.ref tp, .ref n, .ref dr, .ref x_images, .ref x_kept, .ref rd, .ref st, .ref tl, .ref rg, .ref sv, .ref oc, .ref x_tried, .ref lf, .int 0, .ref x_stoppedWays, .ref x_stoppedWorth, .int 0, .ref x_withinWorth])), (oc, .inr (3, [.ref n, .ref sv, .ref oc_plan, .ref wo, .ref le, .ref oc_reach, .ref oc_ringBits, .int 0, .int 0, .int 0])), (sv, .inr (6, [.ref n, .ref co, .ref sv_keep, .ref sv_scaled])), (co, .inr (0, [.ref n, .ref eq, .ref co_place])), (n, .inr (2, [.int 0, .ref n_kind, .ref n_pay, .ref n_name, .ref n_ways, .ref n_held, .ref n_targets, .ref n_weights])), (wo, .inr (10, [.ref wo_part, .long wow])), (le, .inr (10, [.ref le_part, .long lew])), (eq, .inr (1, [.ref eq_rows, .ref eq_right, .long ew])), (eq_right, .inl (g 1, 8, .inr (.inl fr))), (eq_rows, .inl (g 5, 8, .inr (.inr (.inr (.inr (fun i => if i < 8 then some (rr i) else none)))))), ((rr 0), .inl (g 1, 8, .inr (.inl f0))), ((rr 1), .inl (g 1, 8, .inr (.inl f1))), ((rr 2), .inl (g 1, 8, .inr (.inl f2))), ((rr 3), .inl (g 1, 8, .inr (.inl f3))), ((rr 4), .inl (g 1, 8, .inr (.inl f4))), ((rr 5), .inl (g 1, 8, .inr (.inl f5))), ((rr 6), .inl (g 1, 8, .inr (.inl f6))), ((rr 7), .inl (g 1, 8, .inr (.inl f7)))] sz)) 0 0 (va_A [(x, .inr (11, [.ref tp, .ref n, .ref dr, .ref x_images, .ref x_kept, .ref rd, .ref st, .ref tl, .ref rg, .ref sv, .ref oc, .ref x_tried, .ref lf, .int 0, .ref x_stoppedWays, .ref x_stoppedWorth, .int 0, .ref x_withinWorth])), (oc, .inr (3, [.ref n, .ref sv, .ref oc_plan, .ref wo, .ref le, .ref oc_reach, .ref oc_ringBits, .int 0, .int 0, .int 0])), (sv, .inr (6, [.ref n, .ref co, .ref sv_keep, .ref sv_scaled])), (co, .inr (0, [.ref n, .ref eq, .ref co_place])), (n, .inr (2, [.int 0, .ref n_kind, .ref n_pay, .ref n_name, .ref n_ways, .ref n_held, .ref n_targets, .ref n_weights])), (wo, .inr (10, [.ref wo_part, .long wow])), (le, .inr (10, [.ref le_part, .long lew])), (eq, .inr (1, [.ref eq_rows, .ref eq_right, .long ew])), (eq_right, .inl (g 1, 8, .inr (.inl fr))), (eq_rows, .inl (g 5, 8, .inr (.inr (.inr (.inr (fun i => if i < 8 then some (rr i) else none)))))), ((rr 0), .inl (g 1, 8, .inr (.inl f0))), ((rr 1), .inl (g 1, 8, .inr (.inl f1))), ((rr 2), .inl (g 1, 8, .inr (.inl f2))), ((rr 3), .inl (g 1, 8, .inr (.inl f3))), ((rr 4), .inl (g 1, 8, .inr (.inl f4))), ((rr 5), .inl (g 1, 8, .inr (.inl f5))), ((rr 6), .inl (g 1, 8, .inr (.inl f6))), ((rr 7), .inl (g 1, 8, .inr (.inl f7)))] sz) := by
  refine Met.ofW (cc := cX11_ring) (maxL := 2) (ret := (some .int)) (by decide) rfl ?_
  intro p e s m args below meth c s₁ B hml hv
  obtain ⟨rfl, hsz, hP, hK, hD0⟩ := hv
  have hx := B.exec
  have hb := B.bytes
  have hr := B.returns
  have hts0 := atoms_spec (ws := (.code yX11_ring cX11_ring 2 (some .int) :: wsL_law)) B.pre
  have hts : ∀ w ∈ wsL_law, w.before _ s = true := fun w h => hts0 w (List.mem_cons_of_mem _ h)
  have hown : s.vm.findClass RX11 = some m.cls := findClass_of_methodNamed B.named
  have hlocks := B.notSynchronized
  subst hsz
  have hD := hD0.self (sz := s.heap.size)
  generalize hAe : va_A [(x, .inr (11, [.ref tp, .ref n, .ref dr, .ref x_images, .ref x_kept, .ref rd, .ref st, .ref tl, .ref rg, .ref sv, .ref oc, .ref x_tried, .ref lf, .int 0, .ref x_stoppedWays, .ref x_stoppedWorth, .int 0, .ref x_withinWorth])), (oc, .inr (3, [.ref n, .ref sv, .ref oc_plan, .ref wo, .ref le, .ref oc_reach, .ref oc_ringBits, .int 0, .int 0, .int 0])), (sv, .inr (6, [.ref n, .ref co, .ref sv_keep, .ref sv_scaled])), (co, .inr (0, [.ref n, .ref eq, .ref co_place])), (n, .inr (2, [.int 0, .ref n_kind, .ref n_pay, .ref n_name, .ref n_ways, .ref n_held, .ref n_targets, .ref n_weights])), (wo, .inr (10, [.ref wo_part, .long wow])), (le, .inr (10, [.ref le_part, .long lew])), (eq, .inr (1, [.ref eq_rows, .ref eq_right, .long ew])), (eq_right, .inl (g 1, 8, .inr (.inl fr))), (eq_rows, .inl (g 5, 8, .inr (.inr (.inr (.inr (fun i => if i < 8 then some (rr i) else none)))))), ((rr 0), .inl (g 1, 8, .inr (.inl f0))), ((rr 1), .inl (g 1, 8, .inr (.inl f1))), ((rr 2), .inl (g 1, 8, .inr (.inl f2))), ((rr 3), .inl (g 1, 8, .inr (.inl f3))), ((rr 4), .inl (g 1, 8, .inr (.inl f4))), ((rr 5), .inl (g 1, 8, .inr (.inl f5))), ((rr 6), .inl (g 1, 8, .inr (.inl f6))), ((rr 7), .inl (g 1, 8, .inr (.inl f7)))] s.heap.size = A at hD ⊢
  have hA : ∀ q : Nat, s.heap.size ≤ q → A q := fun q h => by rw [← hAe]; exact Or.inr h
  have hS : va_S A s.heap s.heap [] := va_S.rf
  have hP : va_P D vwCl [(x, .inr (11, [.ref tp, .ref n, .ref dr, .ref x_images, .ref x_kept, .ref rd, .ref st, .ref tl, .ref rg, .ref sv, .ref oc, .ref x_tried, .ref lf, .int 0, .ref x_stoppedWays, .ref x_stoppedWorth, .int 0, .ref x_withinWorth])), (oc, .inr (3, [.ref n, .ref sv, .ref oc_plan, .ref wo, .ref le, .ref oc_reach, .ref oc_ringBits, .int 0, .int 0, .int 0])), (sv, .inr (6, [.ref n, .ref co, .ref sv_keep, .ref sv_scaled])), (co, .inr (0, [.ref n, .ref eq, .ref co_place])), (n, .inr (2, [.int 0, .ref n_kind, .ref n_pay, .ref n_name, .ref n_ways, .ref n_held, .ref n_targets, .ref n_weights])), (wo, .inr (10, [.ref wo_part, .long wow])), (le, .inr (10, [.ref le_part, .long lew])), (eq, .inr (1, [.ref eq_rows, .ref eq_right, .long ew])), (eq_right, .inl (g 1, 8, .inr (.inl fr))), (eq_rows, .inl (g 5, 8, .inr (.inr (.inr (.inr (fun i => if i < 8 then some (rr i) else none)))))), ((rr 0), .inl (g 1, 8, .inr (.inl f0))), ((rr 1), .inl (g 1, 8, .inr (.inl f1))), ((rr 2), .inl (g 1, 8, .inr (.inl f2))), ((rr 3), .inl (g 1, 8, .inr (.inl f3))), ((rr 4), .inl (g 1, 8, .inr (.inl f4))), ((rr 5), .inl (g 1, 8, .inr (.inl f5))), ((rr 6), .inl (g 1, 8, .inr (.inl f6))), ((rr 7), .inl (g 1, 8, .inr (.inl f7)))] s.heap := hP
  have hl := lv_entry ([.ref x, .int p0]) (n := 2) (Nat.le_of_ble_eq_true rfl)
  rw [lg_entry_eq]
  generalize (lg_sl ([.ref x, .int p0]) ++ List.replicate (2 - (lg_sl ([.ref x, .int p0])).length) Slot.unset).toArray = ls at hl ⊢
  have hl : lv_has ls 2 [(0, .ref x), (1, .int p0)] := hl
  refine lv_aload_n hx hb dX11_ring_0 rfl (lv_at hl 0 rfl) ?_
  refine va_get (D := D) (ci := 11) (v := .ref oc) (C := RX11) (T := TX11) (N := 18) hx hb hts inlX11 hown hK hP 0 rfl rfl 10 (by decide) (hts (Cond.fieldLink RX11 78 "ChanceRings" "outcome" "LChanceRings$Outcome;") qw_184) (fun _ h9 => h9) rfl dX11_ring_1 ?_
  have hPc := hP.sub (ws' := [(oc, .inr (3, [.ref n, .ref sv, .ref oc_plan, .ref wo, .ref le, .ref oc_reach, .ref oc_ringBits, .int 0, .int 0, .int 0])), (sv, .inr (6, [.ref n, .ref co, .ref sv_keep, .ref sv_scaled])), (co, .inr (0, [.ref n, .ref eq, .ref co_place])), (n, .inr (2, [.int 0, .ref n_kind, .ref n_pay, .ref n_name, .ref n_ways, .ref n_held, .ref n_targets, .ref n_weights])), (wo, .inr (10, [.ref wo_part, .long wow])), (le, .inr (10, [.ref le_part, .long lew])), (eq, .inr (1, [.ref eq_rows, .ref eq_right, .long ew])), (eq_right, .inl (g 1, 8, .inr (.inl fr))), (eq_rows, .inl (g 5, 8, .inr (.inr (.inr (.inr (fun i => if i < 8 then some (rr i) else none)))))), ((rr 0), .inl (g 1, 8, .inr (.inl f0))), ((rr 1), .inl (g 1, 8, .inr (.inl f1))), ((rr 2), .inl (g 1, 8, .inr (.inl f2))), ((rr 3), .inl (g 1, 8, .inr (.inl f3))), ((rr 4), .inl (g 1, 8, .inr (.inl f4))), ((rr 5), .inl (g 1, 8, .inr (.inl f5))), ((rr 6), .inl (g 1, 8, .inr (.inl f6))), ((rr 7), .inl (g 1, 8, .inr (.inl f7)))]) [1, 2, 3, 4, 5, 6, 7, 8, 9, 10, 11, 12, 13, 14, 15, 16, 17] rfl
  have hDc := hD.sub (ws' := [(oc, .inr (3, [.ref n, .ref sv, .ref oc_plan, .ref wo, .ref le, .ref oc_reach, .ref oc_ringBits, .int 0, .int 0, .int 0])), (sv, .inr (6, [.ref n, .ref co, .ref sv_keep, .ref sv_scaled])), (co, .inr (0, [.ref n, .ref eq, .ref co_place])), (n, .inr (2, [.int 0, .ref n_kind, .ref n_pay, .ref n_name, .ref n_ways, .ref n_held, .ref n_targets, .ref n_weights])), (wo, .inr (10, [.ref wo_part, .long wow])), (le, .inr (10, [.ref le_part, .long lew])), (eq, .inr (1, [.ref eq_rows, .ref eq_right, .long ew])), (eq_right, .inl (g 1, 8, .inr (.inl fr))), (eq_rows, .inl (g 5, 8, .inr (.inr (.inr (.inr (fun i => if i < 8 then some (rr i) else none)))))), ((rr 0), .inl (g 1, 8, .inr (.inl f0))), ((rr 1), .inl (g 1, 8, .inr (.inl f1))), ((rr 2), .inl (g 1, 8, .inr (.inl f2))), ((rr 3), .inl (g 1, 8, .inr (.inl f3))), ((rr 4), .inl (g 1, 8, .inr (.inl f4))), ((rr 5), .inl (g 1, 8, .inr (.inl f5))), ((rr 6), .inl (g 1, 8, .inr (.inl f6))), ((rr 7), .inl (g 1, 8, .inr (.inl f7)))]) [1, 2, 3, 4, 5, 6, 7, 8, 9, 10, 11, 12, 13, 14, 15, 16, 17] (by decide) rfl
  have hFc := va_free (wc := [(oc, .inr (3, [.ref n, .ref sv, .ref oc_plan, .ref wo, .ref le, .ref oc_reach, .ref oc_ringBits, .int 0, .int 0, .int 0])), (sv, .inr (6, [.ref n, .ref co, .ref sv_keep, .ref sv_scaled])), (co, .inr (0, [.ref n, .ref eq, .ref co_place])), (n, .inr (2, [.int 0, .ref n_kind, .ref n_pay, .ref n_name, .ref n_ways, .ref n_held, .ref n_targets, .ref n_weights])), (wo, .inr (10, [.ref wo_part, .long wow])), (le, .inr (10, [.ref le_part, .long lew])), (eq, .inr (1, [.ref eq_rows, .ref eq_right, .long ew])), (eq_right, .inl (g 1, 8, .inr (.inl fr))), (eq_rows, .inl (g 5, 8, .inr (.inr (.inr (.inr (fun i => if i < 8 then some (rr i) else none)))))), ((rr 0), .inl (g 1, 8, .inr (.inl f0))), ((rr 1), .inl (g 1, 8, .inr (.inl f1))), ((rr 2), .inl (g 1, 8, .inr (.inl f2))), ((rr 3), .inl (g 1, 8, .inr (.inl f3))), ((rr 4), .inl (g 1, 8, .inr (.inl f4))), ((rr 5), .inl (g 1, 8, .inr (.inl f5))), ((rr 6), .inl (g 1, 8, .inr (.inl f6))), ((rr 7), .inl (g 1, 8, .inr (.inl f7)))]) hD hS hA [1, 2, 3, 4, 5, 6, 7, 8, 9, 10, 11, 12, 13, 14, 15, 16, 17] rfl
  refine va_callv (va_runV (As := []) (rest := []) ⟨hx, hb, hml, hown, hts⟩ (c_X3_settle l D g s.heap.size oc n sv oc_plan wo le oc_reach oc_ringBits co sv_keep sv_scaled eq co_place n_kind n_pay n_name n_ways n_held n_targets n_weights wo_part wow le_part lew eq_rows eq_right ew fr rr f0 f1 f2 f3 f4 f5 f6 f7) (cwV 0 hts (tz_gV qw_185 qw_186 qw_187 qw_102 qw_188) rfl rfl rfl (by decide +kernel) ⟨Nat.le_of_ble_eq_true rfl, Nat.le_of_ble_eq_true rfl⟩) ⟨tz_blQ, va_recv hK hPc (ci := 3) (q0 := 0) rfl rfl, tz_preQ hPc hK hDc⟩ rfl rfl hl.1 rfl (lv_room (Nat.le_of_ble_eq_true rfl)) dX11_ring_4 ⟨Nat.le_of_ble_eq_true rfl, Nat.le_of_ble_eq_true rfl⟩) hS (fun q _ h => hFc q h) hFc (fun u t H1 locs ht hvm hw hB hz1 hk1 hS => ?_)
  obtain ⟨gr_212, g0_213, g1_214, g2_215, g3_216, g4_217, g5_218, g6_219, g7_220, hP1, hD1⟩ := hB
  rw [ht] at hP1
  obtain ⟨hP, hD⟩ := va_join (wr := [(x, .inr (11, [.ref tp, .ref n, .ref dr, .ref x_images, .ref x_kept, .ref rd, .ref st, .ref tl, .ref rg, .ref sv, .ref oc, .ref x_tried, .ref lf, .int 0, .ref x_stoppedWays, .ref x_stoppedWorth, .int 0, .ref x_withinWorth]))]) (w1 := [(oc, .inr (3, [.ref n, .ref sv, .ref oc_plan, .ref wo, .ref le, .ref oc_reach, .ref oc_ringBits, .int 0, .int 0, .int 1])), (sv, .inr (6, [.ref n, .ref co, .ref sv_keep, .ref sv_scaled])), (co, .inr (0, [.ref n, .ref eq, .ref co_place])), (n, .inr (2, [.int 0, .ref n_kind, .ref n_pay, .ref n_name, .ref n_ways, .ref n_held, .ref n_targets, .ref n_weights])), (wo, .inr (10, [.ref wo_part, .long 1])), (le, .inr (10, [.ref le_part, .long 1])), (eq, .inr (1, [.ref eq_rows, .ref eq_right, .long 1])), (eq_right, .inl (g 1, 8, .inr (.inl gr_212))), (eq_rows, .inl (g 5, 8, .inr (.inr (.inr (.inr (fun i => if i < 8 then some (rr i) else none)))))), ((rr 0), .inl (g 1, 8, .inr (.inl g0_213))), ((rr 1), .inl (g 1, 8, .inr (.inl g1_214))), ((rr 2), .inl (g 1, 8, .inr (.inl g2_215))), ((rr 3), .inl (g 1, 8, .inr (.inl g3_216))), ((rr 4), .inl (g 1, 8, .inr (.inl g4_217))), ((rr 5), .inl (g 1, 8, .inr (.inl g5_218))), ((rr 6), .inl (g 1, 8, .inr (.inl g6_219))), ((rr 7), .inl (g 1, 8, .inr (.inl g7_220)))]) hP hD [1, 2, 3, 4, 5, 6, 7, 8, 9, 10, 11, 12, 13, 14, 15, 16, 17] [0] rfl rfl (by decide) (by decide) hk1 hFc hP1 hD1
  generalize H1 = H at hP hS ⊢
  have hP : va_P D vwCl [(x, .inr (11, [.ref tp, .ref n, .ref dr, .ref x_images, .ref x_kept, .ref rd, .ref st, .ref tl, .ref rg, .ref sv, .ref oc, .ref x_tried, .ref lf, .int 0, .ref x_stoppedWays, .ref x_stoppedWorth, .int 0, .ref x_withinWorth])), (oc, .inr (3, [.ref n, .ref sv, .ref oc_plan, .ref wo, .ref le, .ref oc_reach, .ref oc_ringBits, .int 0, .int 0, .int 1])), (sv, .inr (6, [.ref n, .ref co, .ref sv_keep, .ref sv_scaled])), (co, .inr (0, [.ref n, .ref eq, .ref co_place])), (n, .inr (2, [.int 0, .ref n_kind, .ref n_pay, .ref n_name, .ref n_ways, .ref n_held, .ref n_targets, .ref n_weights])), (wo, .inr (10, [.ref wo_part, .long 1])), (le, .inr (10, [.ref le_part, .long 1])), (eq, .inr (1, [.ref eq_rows, .ref eq_right, .long 1])), (eq_right, .inl (g 1, 8, .inr (.inl gr_212))), (eq_rows, .inl (g 5, 8, .inr (.inr (.inr (.inr (fun i => if i < 8 then some (rr i) else none)))))), ((rr 0), .inl (g 1, 8, .inr (.inl g0_213))), ((rr 1), .inl (g 1, 8, .inr (.inl g1_214))), ((rr 2), .inl (g 1, 8, .inr (.inl g2_215))), ((rr 3), .inl (g 1, 8, .inr (.inl g3_216))), ((rr 4), .inl (g 1, 8, .inr (.inl g4_217))), ((rr 5), .inl (g 1, 8, .inr (.inl g5_218))), ((rr 6), .inl (g 1, 8, .inr (.inl g6_219))), ((rr 7), .inl (g 1, 8, .inr (.inl g7_220)))] H := hP
  have hD : va_D A [(x, .inr (11, [.ref tp, .ref n, .ref dr, .ref x_images, .ref x_kept, .ref rd, .ref st, .ref tl, .ref rg, .ref sv, .ref oc, .ref x_tried, .ref lf, .int 0, .ref x_stoppedWays, .ref x_stoppedWorth, .int 0, .ref x_withinWorth])), (oc, .inr (3, [.ref n, .ref sv, .ref oc_plan, .ref wo, .ref le, .ref oc_reach, .ref oc_ringBits, .int 0, .int 0, .int 1])), (sv, .inr (6, [.ref n, .ref co, .ref sv_keep, .ref sv_scaled])), (co, .inr (0, [.ref n, .ref eq, .ref co_place])), (n, .inr (2, [.int 0, .ref n_kind, .ref n_pay, .ref n_name, .ref n_ways, .ref n_held, .ref n_targets, .ref n_weights])), (wo, .inr (10, [.ref wo_part, .long 1])), (le, .inr (10, [.ref le_part, .long 1])), (eq, .inr (1, [.ref eq_rows, .ref eq_right, .long 1])), (eq_right, .inl (g 1, 8, .inr (.inl gr_212))), (eq_rows, .inl (g 5, 8, .inr (.inr (.inr (.inr (fun i => if i < 8 then some (rr i) else none)))))), ((rr 0), .inl (g 1, 8, .inr (.inl g0_213))), ((rr 1), .inl (g 1, 8, .inr (.inl g1_214))), ((rr 2), .inl (g 1, 8, .inr (.inl g2_215))), ((rr 3), .inl (g 1, 8, .inr (.inl g3_216))), ((rr 4), .inl (g 1, 8, .inr (.inl g4_217))), ((rr 5), .inl (g 1, 8, .inr (.inl g5_218))), ((rr 6), .inl (g 1, 8, .inr (.inl g6_219))), ((rr 7), .inl (g 1, 8, .inr (.inl g7_220)))] := hD
  refine lv_iload_n hx hb dX11_ring_7 rfl (lv_at hl 1 rfl) ?_
  refine lv_if_lt (tgt := 34) hx hb dX11_ring_8 (by decide) (fun c_221 => ?_) (fun c_221 => ?_)
  · refine lv_iconst (v := (-1)) hx hb dX11_ring_34 (by decide) ?_
    exact W.iret (v := (-1)) hx hb hr (fun t ht hW => ⟨⟨(-1), (), rfl, rfl, trivial⟩, hS.F ht⟩) hS.2.2 dX11_ring_35
  · refine lv_iload_n hx hb dX11_ring_11 rfl (lv_at hl 1 rfl) ?_
    refine lv_aload_n hx hb dX11_ring_12 rfl (lv_at hl 0 rfl) ?_
    refine va_get (D := D) (ci := 11) (v := .ref oc) (C := RX11) (T := TX11) (N := 18) hx hb hts inlX11 hown hK hP 0 rfl rfl 10 (by decide) (hts (Cond.fieldLink RX11 78 "ChanceRings" "outcome" "LChanceRings$Outcome;") qw_184) (fun _ h9 => h9) rfl dX11_ring_13 ?_
    refine va_get (D := D) (ci := 3) (v := .int 0) (C := RX3) (T := TX3) (N := 10) hx hb hts inlX3 hown hK hP 1 rfl rfl 7 (by decide) (hts (Cond.fieldLink RX11 226 "ChanceRings$Outcome" "ringCount" "I") qw_189) (fun _ h9 => h9) rfl dX11_ring_16 ?_
    refine lv_icmp_ge (tgt := 34) hx hb dX11_ring_19 (by decide) (fun _ => ?_) (fun h9 => (h9 (Int32.not_lt.mp c_221)).elim)
    refine lv_iconst (v := (-1)) hx hb dX11_ring_34 (by decide) ?_
    exact W.iret (v := (-1)) hx hb hr (fun t ht hW => ⟨⟨(-1), (), rfl, rfl, trivial⟩, hS.F ht⟩) hS.2.2 dX11_ring_35
set_option maxHeartbeats 4000000 in
set_option maxRecDepth 100000 in
theorem c_X11_sets (l : Launch) (D : va_G) (g : Nat → ClassId) (sz : Nat) (x : Nat) (p0 : Int32) (p1 : Int32) (tp : Nat) (n : Nat) (dr : Nat) (x_images : Nat) (x_kept : Nat) (rd : Nat) (st : Nat) (tl : Nat) (rg : Nat) (sv : Nat) (oc : Nat) (x_tried : Nat) (lf : Nat) (x_stoppedWays : Nat) (x_stoppedWorth : Nat) (x_withinWorth : Nat) (oc_plan : Nat) (wo : Nat) (le : Nat) (oc_reach : Nat) (oc_ringBits : Nat) (co : Nat) (sv_keep : Nat) (sv_scaled : Nat) (eq : Nat) (co_place : Nat) (n_kind : Nat) (n_pay : Nat) (n_name : Nat) (n_ways : Nat) (n_held : Nat) (n_targets : Nat) (n_weights : Nat) (wo_part : Nat) (wow : Int64) (le_part : Nat) (lew : Int64) (eq_rows : Nat) (eq_right : Nat) (ew : Int64) (fr : Nat → Int64) (rr : Nat → Nat) (f0 : Nat → Int64) (f1 : Nat → Int64) (f2 : Nat → Int64) (f3 : Nat → Int64) (f4 : Nat → Int64) (f5 : Nat → Int64) (f6 : Nat → Int64) (f7 : Nat → Int64) : Met l yX11_sets (.code yX11_sets cX11_sets 3 (some .int) :: wsL_law) ({ frames := 6, cells := 0, slots := 0, locals := 154 }) (va_Pc [.ref x, .int p0, .int p1] (fun U => U.heap.size = sz ∧ va_P D vwCl [(x, .inr (11, [.ref tp, .ref n, .ref dr, .ref x_images, .ref x_kept, .ref rd, .ref st, .ref tl, .ref rg, .ref sv, .ref oc, .ref x_tried, .ref lf, .int 0, .ref x_stoppedWays, .ref x_stoppedWorth, .int 0, .ref x_withinWorth])), (oc, .inr (3, [.ref n, .ref sv, .ref oc_plan, .ref wo, .ref le, .ref oc_reach, .ref oc_ringBits, .int 0, .int 0, .int 0])), (sv, .inr (6, [.ref n, .ref co, .ref sv_keep, .ref sv_scaled])), (co, .inr (0, [.ref n, .ref eq, .ref co_place])), (n, .inr (2, [.int 0, .ref n_kind, .ref n_pay, .ref n_name, .ref n_ways, .ref n_held, .ref n_targets, .ref n_weights])), (wo, .inr (10, [.ref wo_part, .long wow])), (le, .inr (10, [.ref le_part, .long lew])), (eq, .inr (1, [.ref eq_rows, .ref eq_right, .long ew])), (eq_right, .inl (g 1, 8, .inr (.inl fr))), (eq_rows, .inl (g 5, 8, .inr (.inr (.inr (.inr (fun i => if i < 8 then some (rr i) else none)))))), ((rr 0), .inl (g 1, 8, .inr (.inl f0))), ((rr 1), .inl (g 1, 8, .inr (.inl f1))), ((rr 2), .inl (g 1, 8, .inr (.inl f2))), ((rr 3), .inl (g 1, 8, .inr (.inl f3))), ((rr 4), .inl (g 1, 8, .inr (.inl f4))), ((rr 5), .inl (g 1, 8, .inr (.inl f5))), ((rr 6), .inl (g 1, 8, .inr (.inl f6))), ((rr 7), .inl (g 1, 8, .inr (.inl f7))), (rg, .inr (5, [.ref n]))] U.heap ∧ va_K D vwCl (TY g) U ∧ va_D (fun _ => True) [(x, .inr (11, [.ref tp, .ref n, .ref dr, .ref x_images, .ref x_kept, .ref rd, .ref st, .ref tl, .ref rg, .ref sv, .ref oc, .ref x_tried, .ref lf, .int 0, .ref x_stoppedWays, .ref x_stoppedWorth, .int 0, .ref x_withinWorth])), (oc, .inr (3, [.ref n, .ref sv, .ref oc_plan, .ref wo, .ref le, .ref oc_reach, .ref oc_ringBits, .int 0, .int 0, .int 0])), (sv, .inr (6, [.ref n, .ref co, .ref sv_keep, .ref sv_scaled])), (co, .inr (0, [.ref n, .ref eq, .ref co_place])), (n, .inr (2, [.int 0, .ref n_kind, .ref n_pay, .ref n_name, .ref n_ways, .ref n_held, .ref n_targets, .ref n_weights])), (wo, .inr (10, [.ref wo_part, .long wow])), (le, .inr (10, [.ref le_part, .long lew])), (eq, .inr (1, [.ref eq_rows, .ref eq_right, .long ew])), (eq_right, .inl (g 1, 8, .inr (.inl fr))), (eq_rows, .inl (g 5, 8, .inr (.inr (.inr (.inr (fun i => if i < 8 then some (rr i) else none)))))), ((rr 0), .inl (g 1, 8, .inr (.inl f0))), ((rr 1), .inl (g 1, 8, .inr (.inl f1))), ((rr 2), .inl (g 1, 8, .inr (.inl f2))), ((rr 3), .inl (g 1, 8, .inr (.inl f3))), ((rr 4), .inl (g 1, 8, .inr (.inl f4))), ((rr 5), .inl (g 1, 8, .inr (.inl f5))), ((rr 6), .inl (g 1, 8, .inr (.inl f6))), ((rr 7), .inl (g 1, 8, .inr (.inl f7))), (rg, .inr (5, [.ref n]))])) (va_Qi (fun r (_ : Unit) => (vp_in p0 2 → r = 0) ∧ (¬ vp_in p0 2 → r = (-1))) (fun _ _ => True) (va_A [(x, .inr (11, [.ref tp, .ref n, .ref dr, .ref x_images, .ref x_kept, .ref rd, .ref st, .ref tl, .ref rg, .ref sv, .ref oc, .ref x_tried, .ref lf, .int 0, .ref x_stoppedWays, .ref x_stoppedWorth, .int 0, .ref x_withinWorth])), (oc, .inr (3, [.ref n, .ref sv, .ref oc_plan, .ref wo, .ref le, .ref oc_reach, .ref oc_ringBits, .int 0, .int 0, .int 0])), (sv, .inr (6, [.ref n, .ref co, .ref sv_keep, .ref sv_scaled])), (co, .inr (0, [.ref n, .ref eq, .ref co_place])), (n, .inr (2, [.int 0, .ref n_kind, .ref n_pay, .ref n_name, .ref n_ways, .ref n_held, .ref n_targets, .ref n_weights])), (wo, .inr (10, [.ref wo_part, .long wow])), (le, .inr (10, [.ref le_part, .long lew])), (eq, .inr (1, [.ref eq_rows, .ref eq_right, .long ew])), (eq_right, .inl (g 1, 8, .inr (.inl fr))), (eq_rows, .inl (g 5, 8, .inr (.inr (.inr (.inr (fun i => if i < 8 then some (rr i) else none)))))), ((rr 0), .inl (g 1, 8, .inr (.inl f0))), ((rr 1), .inl (g 1, 8, .inr (.inl f1))), ((rr 2), .inl (g 1, 8, .inr (.inl f2))), ((rr 3), .inl (g 1, 8, .inr (.inl f3))), ((rr 4), .inl (g 1, 8, .inr (.inl f4))), ((rr 5), .inl (g 1, 8, .inr (.inl f5))), ((rr 6), .inl (g 1, 8, .inr (.inl f6))), ((rr 7), .inl (g 1, 8, .inr (.inl f7))), (rg, .inr (5, [.ref n]))] sz)) 0 0 (va_A [(x, .inr (11, [.ref tp, .ref n, .ref dr, .ref x_images, .ref x_kept, .ref rd, .ref st, .ref tl, .ref rg, .ref sv, .ref oc, .ref x_tried, .ref lf, .int 0, .ref x_stoppedWays, .ref x_stoppedWorth, .int 0, .ref x_withinWorth])), (oc, .inr (3, [.ref n, .ref sv, .ref oc_plan, .ref wo, .ref le, .ref oc_reach, .ref oc_ringBits, .int 0, .int 0, .int 0])), (sv, .inr (6, [.ref n, .ref co, .ref sv_keep, .ref sv_scaled])), (co, .inr (0, [.ref n, .ref eq, .ref co_place])), (n, .inr (2, [.int 0, .ref n_kind, .ref n_pay, .ref n_name, .ref n_ways, .ref n_held, .ref n_targets, .ref n_weights])), (wo, .inr (10, [.ref wo_part, .long wow])), (le, .inr (10, [.ref le_part, .long lew])), (eq, .inr (1, [.ref eq_rows, .ref eq_right, .long ew])), (eq_right, .inl (g 1, 8, .inr (.inl fr))), (eq_rows, .inl (g 5, 8, .inr (.inr (.inr (.inr (fun i => if i < 8 then some (rr i) else none)))))), ((rr 0), .inl (g 1, 8, .inr (.inl f0))), ((rr 1), .inl (g 1, 8, .inr (.inl f1))), ((rr 2), .inl (g 1, 8, .inr (.inl f2))), ((rr 3), .inl (g 1, 8, .inr (.inl f3))), ((rr 4), .inl (g 1, 8, .inr (.inl f4))), ((rr 5), .inl (g 1, 8, .inr (.inl f5))), ((rr 6), .inl (g 1, 8, .inr (.inl f6))), ((rr 7), .inl (g 1, 8, .inr (.inl f7))), (rg, .inr (5, [.ref n]))] sz) := by
  refine Met.ofW (cc := cX11_sets) (maxL := 3) (ret := (some .int)) (by decide) rfl ?_
  intro p e s m args below meth c s₁ B hml hv
  obtain ⟨rfl, hsz, hP, hK, hD0⟩ := hv
  have hx := B.exec
  have hb := B.bytes
  have hr := B.returns
  have hts0 := atoms_spec (ws := (.code yX11_sets cX11_sets 3 (some .int) :: wsL_law)) B.pre
  have hts : ∀ w ∈ wsL_law, w.before _ s = true := fun w h => hts0 w (List.mem_cons_of_mem _ h)
  have hown : s.vm.findClass RX11 = some m.cls := findClass_of_methodNamed B.named
  have hlocks := B.notSynchronized
  subst hsz
  have hD := hD0.self (sz := s.heap.size)
  generalize hAe : va_A [(x, .inr (11, [.ref tp, .ref n, .ref dr, .ref x_images, .ref x_kept, .ref rd, .ref st, .ref tl, .ref rg, .ref sv, .ref oc, .ref x_tried, .ref lf, .int 0, .ref x_stoppedWays, .ref x_stoppedWorth, .int 0, .ref x_withinWorth])), (oc, .inr (3, [.ref n, .ref sv, .ref oc_plan, .ref wo, .ref le, .ref oc_reach, .ref oc_ringBits, .int 0, .int 0, .int 0])), (sv, .inr (6, [.ref n, .ref co, .ref sv_keep, .ref sv_scaled])), (co, .inr (0, [.ref n, .ref eq, .ref co_place])), (n, .inr (2, [.int 0, .ref n_kind, .ref n_pay, .ref n_name, .ref n_ways, .ref n_held, .ref n_targets, .ref n_weights])), (wo, .inr (10, [.ref wo_part, .long wow])), (le, .inr (10, [.ref le_part, .long lew])), (eq, .inr (1, [.ref eq_rows, .ref eq_right, .long ew])), (eq_right, .inl (g 1, 8, .inr (.inl fr))), (eq_rows, .inl (g 5, 8, .inr (.inr (.inr (.inr (fun i => if i < 8 then some (rr i) else none)))))), ((rr 0), .inl (g 1, 8, .inr (.inl f0))), ((rr 1), .inl (g 1, 8, .inr (.inl f1))), ((rr 2), .inl (g 1, 8, .inr (.inl f2))), ((rr 3), .inl (g 1, 8, .inr (.inl f3))), ((rr 4), .inl (g 1, 8, .inr (.inl f4))), ((rr 5), .inl (g 1, 8, .inr (.inl f5))), ((rr 6), .inl (g 1, 8, .inr (.inl f6))), ((rr 7), .inl (g 1, 8, .inr (.inl f7))), (rg, .inr (5, [.ref n]))] s.heap.size = A at hD ⊢
  have hA : ∀ q : Nat, s.heap.size ≤ q → A q := fun q h => by rw [← hAe]; exact Or.inr h
  have hS : va_S A s.heap s.heap [] := va_S.rf
  have hP : va_P D vwCl [(x, .inr (11, [.ref tp, .ref n, .ref dr, .ref x_images, .ref x_kept, .ref rd, .ref st, .ref tl, .ref rg, .ref sv, .ref oc, .ref x_tried, .ref lf, .int 0, .ref x_stoppedWays, .ref x_stoppedWorth, .int 0, .ref x_withinWorth])), (oc, .inr (3, [.ref n, .ref sv, .ref oc_plan, .ref wo, .ref le, .ref oc_reach, .ref oc_ringBits, .int 0, .int 0, .int 0])), (sv, .inr (6, [.ref n, .ref co, .ref sv_keep, .ref sv_scaled])), (co, .inr (0, [.ref n, .ref eq, .ref co_place])), (n, .inr (2, [.int 0, .ref n_kind, .ref n_pay, .ref n_name, .ref n_ways, .ref n_held, .ref n_targets, .ref n_weights])), (wo, .inr (10, [.ref wo_part, .long wow])), (le, .inr (10, [.ref le_part, .long lew])), (eq, .inr (1, [.ref eq_rows, .ref eq_right, .long ew])), (eq_right, .inl (g 1, 8, .inr (.inl fr))), (eq_rows, .inl (g 5, 8, .inr (.inr (.inr (.inr (fun i => if i < 8 then some (rr i) else none)))))), ((rr 0), .inl (g 1, 8, .inr (.inl f0))), ((rr 1), .inl (g 1, 8, .inr (.inl f1))), ((rr 2), .inl (g 1, 8, .inr (.inl f2))), ((rr 3), .inl (g 1, 8, .inr (.inl f3))), ((rr 4), .inl (g 1, 8, .inr (.inl f4))), ((rr 5), .inl (g 1, 8, .inr (.inl f5))), ((rr 6), .inl (g 1, 8, .inr (.inl f6))), ((rr 7), .inl (g 1, 8, .inr (.inl f7))), (rg, .inr (5, [.ref n]))] s.heap := hP
  have hl := lv_entry ([.ref x, .int p0, .int p1]) (n := 3) (Nat.le_of_ble_eq_true rfl)
  rw [lg_entry_eq]
  generalize (lg_sl ([.ref x, .int p0, .int p1]) ++ List.replicate (3 - (lg_sl ([.ref x, .int p0, .int p1])).length) Slot.unset).toArray = ls at hl ⊢
  have hl : lv_has ls 3 [(0, .ref x), (1, .int p0), (2, .int p1)] := hl
  rcases tz_c3 p0 with rfl | rfl | rfl | hN
  · have hl : lv_has ls 3 [(0, .ref x), (1, .int 0), (2, .int p1)] := hl
    refine lv_iload_n hx hb dX11_sets_0 rfl (lv_at hl 1 rfl) ?_
    refine lv_tableIn (off := 27) (tgt := 28) hx hb dX11_sets_1 (by decide) (by decide) (by decide) (by decide) ?_
    refine lv_aload_n hx hb dX11_sets_28 rfl (lv_at hl 0 rfl) ?_
    refine va_get (D := D) (ci := 11) (v := .ref oc) (C := RX11) (T := TX11) (N := 18) hx hb hts inlX11 hown hK hP 0 rfl rfl 10 (by decide) (hts (Cond.fieldLink RX11 78 "ChanceRings" "outcome" "LChanceRings$Outcome;") qw_184) (fun _ h9 => h9) rfl dX11_sets_29 ?_
    have hPc := hP.sub (ws' := [(oc, .inr (3, [.ref n, .ref sv, .ref oc_plan, .ref wo, .ref le, .ref oc_reach, .ref oc_ringBits, .int 0, .int 0, .int 0])), (sv, .inr (6, [.ref n, .ref co, .ref sv_keep, .ref sv_scaled])), (co, .inr (0, [.ref n, .ref eq, .ref co_place])), (n, .inr (2, [.int 0, .ref n_kind, .ref n_pay, .ref n_name, .ref n_ways, .ref n_held, .ref n_targets, .ref n_weights])), (wo, .inr (10, [.ref wo_part, .long wow])), (le, .inr (10, [.ref le_part, .long lew])), (eq, .inr (1, [.ref eq_rows, .ref eq_right, .long ew])), (eq_right, .inl (g 1, 8, .inr (.inl fr))), (eq_rows, .inl (g 5, 8, .inr (.inr (.inr (.inr (fun i => if i < 8 then some (rr i) else none)))))), ((rr 0), .inl (g 1, 8, .inr (.inl f0))), ((rr 1), .inl (g 1, 8, .inr (.inl f1))), ((rr 2), .inl (g 1, 8, .inr (.inl f2))), ((rr 3), .inl (g 1, 8, .inr (.inl f3))), ((rr 4), .inl (g 1, 8, .inr (.inl f4))), ((rr 5), .inl (g 1, 8, .inr (.inl f5))), ((rr 6), .inl (g 1, 8, .inr (.inl f6))), ((rr 7), .inl (g 1, 8, .inr (.inl f7)))]) [1, 2, 3, 4, 5, 6, 7, 8, 9, 10, 11, 12, 13, 14, 15, 16, 17] rfl
    have hDc := hD.sub (ws' := [(oc, .inr (3, [.ref n, .ref sv, .ref oc_plan, .ref wo, .ref le, .ref oc_reach, .ref oc_ringBits, .int 0, .int 0, .int 0])), (sv, .inr (6, [.ref n, .ref co, .ref sv_keep, .ref sv_scaled])), (co, .inr (0, [.ref n, .ref eq, .ref co_place])), (n, .inr (2, [.int 0, .ref n_kind, .ref n_pay, .ref n_name, .ref n_ways, .ref n_held, .ref n_targets, .ref n_weights])), (wo, .inr (10, [.ref wo_part, .long wow])), (le, .inr (10, [.ref le_part, .long lew])), (eq, .inr (1, [.ref eq_rows, .ref eq_right, .long ew])), (eq_right, .inl (g 1, 8, .inr (.inl fr))), (eq_rows, .inl (g 5, 8, .inr (.inr (.inr (.inr (fun i => if i < 8 then some (rr i) else none)))))), ((rr 0), .inl (g 1, 8, .inr (.inl f0))), ((rr 1), .inl (g 1, 8, .inr (.inl f1))), ((rr 2), .inl (g 1, 8, .inr (.inl f2))), ((rr 3), .inl (g 1, 8, .inr (.inl f3))), ((rr 4), .inl (g 1, 8, .inr (.inl f4))), ((rr 5), .inl (g 1, 8, .inr (.inl f5))), ((rr 6), .inl (g 1, 8, .inr (.inl f6))), ((rr 7), .inl (g 1, 8, .inr (.inl f7)))]) [1, 2, 3, 4, 5, 6, 7, 8, 9, 10, 11, 12, 13, 14, 15, 16, 17] (by decide) rfl
    have hFc := va_free (wc := [(oc, .inr (3, [.ref n, .ref sv, .ref oc_plan, .ref wo, .ref le, .ref oc_reach, .ref oc_ringBits, .int 0, .int 0, .int 0])), (sv, .inr (6, [.ref n, .ref co, .ref sv_keep, .ref sv_scaled])), (co, .inr (0, [.ref n, .ref eq, .ref co_place])), (n, .inr (2, [.int 0, .ref n_kind, .ref n_pay, .ref n_name, .ref n_ways, .ref n_held, .ref n_targets, .ref n_weights])), (wo, .inr (10, [.ref wo_part, .long wow])), (le, .inr (10, [.ref le_part, .long lew])), (eq, .inr (1, [.ref eq_rows, .ref eq_right, .long ew])), (eq_right, .inl (g 1, 8, .inr (.inl fr))), (eq_rows, .inl (g 5, 8, .inr (.inr (.inr (.inr (fun i => if i < 8 then some (rr i) else none)))))), ((rr 0), .inl (g 1, 8, .inr (.inl f0))), ((rr 1), .inl (g 1, 8, .inr (.inl f1))), ((rr 2), .inl (g 1, 8, .inr (.inl f2))), ((rr 3), .inl (g 1, 8, .inr (.inl f3))), ((rr 4), .inl (g 1, 8, .inr (.inl f4))), ((rr 5), .inl (g 1, 8, .inr (.inl f5))), ((rr 6), .inl (g 1, 8, .inr (.inl f6))), ((rr 7), .inl (g 1, 8, .inr (.inl f7)))]) hD hS hA [1, 2, 3, 4, 5, 6, 7, 8, 9, 10, 11, 12, 13, 14, 15, 16, 17] rfl
    refine va_callv (va_runV (As := []) (rest := []) ⟨hx, hb, hml, hown, hts⟩ (c_X3_settle l D g s.heap.size oc n sv oc_plan wo le oc_reach oc_ringBits co sv_keep sv_scaled eq co_place n_kind n_pay n_name n_ways n_held n_targets n_weights wo_part wow le_part lew eq_rows eq_right ew fr rr f0 f1 f2 f3 f4 f5 f6 f7) (cwV 0 hts (tz_gV qw_185 qw_186 qw_187 qw_102 qw_188) rfl rfl rfl (by decide +kernel) ⟨Nat.le_of_ble_eq_true rfl, Nat.le_of_ble_eq_true rfl⟩) ⟨tz_blQ, va_recv hK hPc (ci := 3) (q0 := 0) rfl rfl, tz_preQ hPc hK hDc⟩ rfl rfl hl.1 rfl (lv_room (Nat.le_of_ble_eq_true rfl)) dX11_sets_32 ⟨Nat.le_of_ble_eq_true rfl, Nat.le_of_ble_eq_true rfl⟩) hS (fun q _ h => hFc q h) hFc (fun u t H1 locs ht hvm hw hB hz1 hk1 hS => ?_)
    obtain ⟨gr_223, g0_224, g1_225, g2_226, g3_227, g4_228, g5_229, g6_230, g7_231, hP1, hD1⟩ := hB
    rw [ht] at hP1
    obtain ⟨hP, hD⟩ := va_join (wr := [(x, .inr (11, [.ref tp, .ref n, .ref dr, .ref x_images, .ref x_kept, .ref rd, .ref st, .ref tl, .ref rg, .ref sv, .ref oc, .ref x_tried, .ref lf, .int 0, .ref x_stoppedWays, .ref x_stoppedWorth, .int 0, .ref x_withinWorth])), (rg, .inr (5, [.ref n]))]) (w1 := [(oc, .inr (3, [.ref n, .ref sv, .ref oc_plan, .ref wo, .ref le, .ref oc_reach, .ref oc_ringBits, .int 0, .int 0, .int 1])), (sv, .inr (6, [.ref n, .ref co, .ref sv_keep, .ref sv_scaled])), (co, .inr (0, [.ref n, .ref eq, .ref co_place])), (n, .inr (2, [.int 0, .ref n_kind, .ref n_pay, .ref n_name, .ref n_ways, .ref n_held, .ref n_targets, .ref n_weights])), (wo, .inr (10, [.ref wo_part, .long 1])), (le, .inr (10, [.ref le_part, .long 1])), (eq, .inr (1, [.ref eq_rows, .ref eq_right, .long 1])), (eq_right, .inl (g 1, 8, .inr (.inl gr_223))), (eq_rows, .inl (g 5, 8, .inr (.inr (.inr (.inr (fun i => if i < 8 then some (rr i) else none)))))), ((rr 0), .inl (g 1, 8, .inr (.inl g0_224))), ((rr 1), .inl (g 1, 8, .inr (.inl g1_225))), ((rr 2), .inl (g 1, 8, .inr (.inl g2_226))), ((rr 3), .inl (g 1, 8, .inr (.inl g3_227))), ((rr 4), .inl (g 1, 8, .inr (.inl g4_228))), ((rr 5), .inl (g 1, 8, .inr (.inl g5_229))), ((rr 6), .inl (g 1, 8, .inr (.inl g6_230))), ((rr 7), .inl (g 1, 8, .inr (.inl g7_231)))]) hP hD [1, 2, 3, 4, 5, 6, 7, 8, 9, 10, 11, 12, 13, 14, 15, 16, 17] [0, 18] rfl rfl (by decide) (by decide) hk1 hFc hP1 hD1
    generalize H1 = H at hP hS ⊢
    have hP : va_P D vwCl [(x, .inr (11, [.ref tp, .ref n, .ref dr, .ref x_images, .ref x_kept, .ref rd, .ref st, .ref tl, .ref rg, .ref sv, .ref oc, .ref x_tried, .ref lf, .int 0, .ref x_stoppedWays, .ref x_stoppedWorth, .int 0, .ref x_withinWorth])), (rg, .inr (5, [.ref n])), (oc, .inr (3, [.ref n, .ref sv, .ref oc_plan, .ref wo, .ref le, .ref oc_reach, .ref oc_ringBits, .int 0, .int 0, .int 1])), (sv, .inr (6, [.ref n, .ref co, .ref sv_keep, .ref sv_scaled])), (co, .inr (0, [.ref n, .ref eq, .ref co_place])), (n, .inr (2, [.int 0, .ref n_kind, .ref n_pay, .ref n_name, .ref n_ways, .ref n_held, .ref n_targets, .ref n_weights])), (wo, .inr (10, [.ref wo_part, .long 1])), (le, .inr (10, [.ref le_part, .long 1])), (eq, .inr (1, [.ref eq_rows, .ref eq_right, .long 1])), (eq_right, .inl (g 1, 8, .inr (.inl gr_223))), (eq_rows, .inl (g 5, 8, .inr (.inr (.inr (.inr (fun i => if i < 8 then some (rr i) else none)))))), ((rr 0), .inl (g 1, 8, .inr (.inl g0_224))), ((rr 1), .inl (g 1, 8, .inr (.inl g1_225))), ((rr 2), .inl (g 1, 8, .inr (.inl g2_226))), ((rr 3), .inl (g 1, 8, .inr (.inl g3_227))), ((rr 4), .inl (g 1, 8, .inr (.inl g4_228))), ((rr 5), .inl (g 1, 8, .inr (.inl g5_229))), ((rr 6), .inl (g 1, 8, .inr (.inl g6_230))), ((rr 7), .inl (g 1, 8, .inr (.inl g7_231)))] H := hP
    have hD : va_D A [(x, .inr (11, [.ref tp, .ref n, .ref dr, .ref x_images, .ref x_kept, .ref rd, .ref st, .ref tl, .ref rg, .ref sv, .ref oc, .ref x_tried, .ref lf, .int 0, .ref x_stoppedWays, .ref x_stoppedWorth, .int 0, .ref x_withinWorth])), (rg, .inr (5, [.ref n])), (oc, .inr (3, [.ref n, .ref sv, .ref oc_plan, .ref wo, .ref le, .ref oc_reach, .ref oc_ringBits, .int 0, .int 0, .int 1])), (sv, .inr (6, [.ref n, .ref co, .ref sv_keep, .ref sv_scaled])), (co, .inr (0, [.ref n, .ref eq, .ref co_place])), (n, .inr (2, [.int 0, .ref n_kind, .ref n_pay, .ref n_name, .ref n_ways, .ref n_held, .ref n_targets, .ref n_weights])), (wo, .inr (10, [.ref wo_part, .long 1])), (le, .inr (10, [.ref le_part, .long 1])), (eq, .inr (1, [.ref eq_rows, .ref eq_right, .long 1])), (eq_right, .inl (g 1, 8, .inr (.inl gr_223))), (eq_rows, .inl (g 5, 8, .inr (.inr (.inr (.inr (fun i => if i < 8 then some (rr i) else none)))))), ((rr 0), .inl (g 1, 8, .inr (.inl g0_224))), ((rr 1), .inl (g 1, 8, .inr (.inl g1_225))), ((rr 2), .inl (g 1, 8, .inr (.inl g2_226))), ((rr 3), .inl (g 1, 8, .inr (.inl g3_227))), ((rr 4), .inl (g 1, 8, .inr (.inl g4_228))), ((rr 5), .inl (g 1, 8, .inr (.inl g5_229))), ((rr 6), .inl (g 1, 8, .inr (.inl g6_230))), ((rr 7), .inl (g 1, 8, .inr (.inl g7_231)))] := hD
    refine lv_aload_n hx hb dX11_sets_35 rfl (lv_at hl 0 rfl) ?_
    refine va_get (D := D) (ci := 11) (v := .ref oc) (C := RX11) (T := TX11) (N := 18) hx hb hts inlX11 hown hK hP 0 rfl rfl 10 (by decide) (hts (Cond.fieldLink RX11 78 "ChanceRings" "outcome" "LChanceRings$Outcome;") qw_184) (fun _ h9 => h9) rfl dX11_sets_36 ?_
    have hPc := hP.sub (ws' := [(oc, .inr (3, [.ref n, .ref sv, .ref oc_plan, .ref wo, .ref le, .ref oc_reach, .ref oc_ringBits, .int 0, .int 0, .int 1])), (n, .inr (2, [.int 0, .ref n_kind, .ref n_pay, .ref n_name, .ref n_ways, .ref n_held, .ref n_targets, .ref n_weights]))]) [2, 5] rfl
    refine vp_callSi (va_Run.run (va_runV (As := []) (rest := []) ⟨hx, hb, hml, hown, hts⟩ (c_X3_worthless l D g oc n sv oc_plan wo le oc_reach oc_ringBits n_kind n_pay n_name n_ways n_held n_targets n_weights) (cwV 0 hts (tz_gV qw_190 qw_191 qw_192 qw_102 qw_193) rfl rfl rfl (by decide +kernel) ⟨Nat.le_of_ble_eq_true rfl, Nat.le_of_ble_eq_true rfl⟩) ⟨tz_blS, va_recv hK hPc (ci := 3) (q0 := 0) rfl rfl, tz_preS hPc hK⟩ rfl rfl hl.1 rfl (lv_room (Nat.le_of_ble_eq_true rfl)) dX11_sets_39 ⟨Nat.le_of_ble_eq_true rfl, Nat.le_of_ble_eq_true rfl⟩)) (fun r_232 hw => ?_)
    subst hw
    exact W.iret (v := 0) hx hb hr (fun t ht hW => ⟨⟨0, (), rfl, ⟨fun _ => rfl, fun h => absurd (tz_in (by decide +kernel)) h⟩, trivial⟩, hS.F ht⟩) hS.2.2 dX11_sets_42
  · have hl : lv_has ls 3 [(0, .ref x), (1, .int 1), (2, .int p1)] := hl
    refine lv_iload_n hx hb dX11_sets_0 rfl (lv_at hl 1 rfl) ?_
    refine lv_tableIn (off := 42) (tgt := 43) hx hb dX11_sets_1 (by decide) (by decide) (by decide) (by decide) ?_
    refine lv_aload_n hx hb dX11_sets_43 rfl (lv_at hl 0 rfl) ?_
    refine va_get (D := D) (ci := 11) (v := .ref rg) (C := RX11) (T := TX11) (N := 18) hx hb hts inlX11 hown hK hP 0 rfl rfl 8 (by decide) (hts (Cond.fieldLink RX11 62 "ChanceRings" "regions" "LChanceRings$Regions;") qw_131) (fun _ h9 => h9) rfl dX11_sets_44 ?_
    have hPc := hP.sub (ws' := [(rg, .inr (5, [.ref n])), (n, .inr (2, [.int 0, .ref n_kind, .ref n_pay, .ref n_name, .ref n_ways, .ref n_held, .ref n_targets, .ref n_weights]))]) [18, 4] rfl
    refine vp_callSi (va_Run.run (va_runV (As := []) (rest := []) ⟨hx, hb, hml, hown, hts⟩ (c_X5_surelyPaid l D g rg n n_kind n_pay n_name n_ways n_held n_targets n_weights) (cwV 0 hts (tz_gV qw_194 qw_195 qw_196 qw_29 qw_197) rfl rfl rfl (by decide +kernel) ⟨Nat.le_of_ble_eq_true rfl, Nat.le_of_ble_eq_true rfl⟩) ⟨tz_blS, va_recv hK hPc (ci := 5) (q0 := 0) rfl rfl, tz_preS hPc hK⟩ rfl rfl hl.1 rfl (lv_room (Nat.le_of_ble_eq_true rfl)) dX11_sets_47 ⟨Nat.le_of_ble_eq_true rfl, Nat.le_of_ble_eq_true rfl⟩)) (fun r_233 hw => ?_)
    subst hw
    exact W.iret (v := 0) hx hb hr (fun t ht hW => ⟨⟨0, (), rfl, ⟨fun _ => rfl, fun h => absurd (tz_in (by decide +kernel)) h⟩, trivial⟩, hS.F ht⟩) hS.2.2 dX11_sets_50
  · have hl : lv_has ls 3 [(0, .ref x), (1, .int 2), (2, .int p1)] := hl
    refine lv_iload_n hx hb dX11_sets_0 rfl (lv_at hl 1 rfl) ?_
    refine lv_tableIn (off := 50) (tgt := 51) hx hb dX11_sets_1 (by decide) (by decide) (by decide) (by decide) ?_
    refine lv_aload_n hx hb dX11_sets_51 rfl (lv_at hl 0 rfl) ?_
    refine va_get (D := D) (ci := 11) (v := .ref n) (C := RX11) (T := TX11) (N := 18) hx hb hts inlX11 hown hK hP 0 rfl rfl 1 (by decide) (hts (Cond.fieldLink RX11 19 "ChanceRings" "net" "LChanceRings$Net;") qw_114) (fun _ h9 => h9) rfl dX11_sets_52 ?_
    refine lv_iload_n hx hb dX11_sets_55 rfl (lv_at hl 2 rfl) ?_
    have hPc := hP.sub (ws' := [(n, .inr (2, [.int 0, .ref n_kind, .ref n_pay, .ref n_name, .ref n_ways, .ref n_held, .ref n_targets, .ref n_weights]))]) [4] rfl
    refine vp_callSi (va_Run.run (va_runV (As := [.int p1]) (rest := []) ⟨hx, hb, hml, hown, hts⟩ (c_X2_has l D g n p1 n_kind n_pay n_name n_ways n_held n_targets n_weights) (cwV 1 hts (tz_gV qw_119 qw_2 qw_3 qw_4 qw_5) rfl rfl rfl (by decide +kernel) ⟨Nat.le_of_ble_eq_true rfl, Nat.le_of_ble_eq_true rfl⟩) ⟨tz_blS, va_recv hK hPc (ci := 2) (q0 := 0) rfl rfl, tz_preS hPc hK⟩ rfl rfl hl.1 rfl (lv_room (Nat.le_of_ble_eq_true rfl)) dX11_sets_56 ⟨Nat.le_of_ble_eq_true rfl, Nat.le_of_ble_eq_true rfl⟩)) (fun r_234 hw => ?_)
    subst hw
    refine lv_if_eq (tgt := 73) hx hb dX11_sets_59 (by decide) (fun _ => ?_) (fun h9 => (h9 (by decide)).elim)
    refine lv_iconst (v := (-1)) hx hb dX11_sets_73 (by decide) ?_
    exact W.iret (v := (-1)) hx hb hr (fun t ht hW => ⟨⟨(-1), (), rfl, ⟨fun h => absurd h (tz_nin (by decide +kernel)), fun _ => rfl⟩, trivial⟩, hS.F ht⟩) hS.2.2 dX11_sets_74
  · refine lv_iload_n hx hb dX11_sets_0 rfl (lv_at hl 1 rfl) ?_
    refine lv_tableOut (tgt := 75) hx hb dX11_sets_1 (tz_out hN) (by decide) ?_
    refine lv_iconst (v := (-1)) hx hb dX11_sets_75 (by decide) ?_
    exact W.iret (v := (-1)) hx hb hr (fun t ht hW => ⟨⟨(-1), (), rfl, ⟨fun h => absurd (tz_in_mono h (by decide)) hN, fun _ => rfl⟩, trivial⟩, hS.F ht⟩) hS.2.2 dX11_sets_76
set_option maxHeartbeats 4000000 in
set_option maxRecDepth 100000 in
theorem c_X9_tell (l : Launch) (D : va_G) (g : Nat → ClassId) (sz : Nat) (tl : Nat) (n : Nat) (rd : Nat) (tl_bytes : Nat) (n_kind : Nat) (n_pay : Nat) (n_name : Nat) (n_ways : Nat) (n_held : Nat) (n_targets : Nat) (n_weights : Nat) : Met l yX9_tell (.code yX9_tell cX9_tell 5 none :: wsL_law) ({ frames := 0, cells := 0, slots := 0, locals := 0 }) (va_Pc [.ref tl, .ref n, .ref rd] (fun U => U.heap.size = sz ∧ va_P D vwCl [(tl, .inr (9, [.ref tl_bytes, .int 0])), (n, .inr (2, [.int 0, .ref n_kind, .ref n_pay, .ref n_name, .ref n_ways, .ref n_held, .ref n_targets, .ref n_weights]))] U.heap ∧ va_K D vwCl (TY g) U ∧ va_D (fun _ => True) [(tl, .inr (9, [.ref tl_bytes, .int 0])), (n, .inr (2, [.int 0, .ref n_kind, .ref n_pay, .ref n_name, .ref n_ways, .ref n_held, .ref n_targets, .ref n_weights]))])) (va_Qv (fun (_ : Unit) => True) (fun _ t => va_P D vwCl [(tl, .inr (9, [.ref tl_bytes, .int 0])), (n, .inr (2, [.int 0, .ref n_kind, .ref n_pay, .ref n_name, .ref n_ways, .ref n_held, .ref n_targets, .ref n_weights]))] t.heap ∧ va_D (va_A [(tl, .inr (9, [.ref tl_bytes, .int 0])), (n, .inr (2, [.int 0, .ref n_kind, .ref n_pay, .ref n_name, .ref n_ways, .ref n_held, .ref n_targets, .ref n_weights]))] sz) [(tl, .inr (9, [.ref tl_bytes, .int 0])), (n, .inr (2, [.int 0, .ref n_kind, .ref n_pay, .ref n_name, .ref n_ways, .ref n_held, .ref n_targets, .ref n_weights]))]) (va_A [(tl, .inr (9, [.ref tl_bytes, .int 0])), (n, .inr (2, [.int 0, .ref n_kind, .ref n_pay, .ref n_name, .ref n_ways, .ref n_held, .ref n_targets, .ref n_weights]))] sz)) 0 0 (va_A [(tl, .inr (9, [.ref tl_bytes, .int 0])), (n, .inr (2, [.int 0, .ref n_kind, .ref n_pay, .ref n_name, .ref n_ways, .ref n_held, .ref n_targets, .ref n_weights]))] sz) := by
  refine Met.ofW (cc := cX9_tell) (maxL := 5) (ret := none) (by decide) rfl ?_
  intro p e s m args below meth c s₁ B hml hv
  obtain ⟨rfl, hsz, hP, hK, hD0⟩ := hv
  have hx := B.exec
  have hb := B.bytes
  have hr := B.returns
  have hts0 := atoms_spec (ws := (.code yX9_tell cX9_tell 5 none :: wsL_law)) B.pre
  have hts : ∀ w ∈ wsL_law, w.before _ s = true := fun w h => hts0 w (List.mem_cons_of_mem _ h)
  have hown : s.vm.findClass RX9 = some m.cls := findClass_of_methodNamed B.named
  have hlocks := B.notSynchronized
  subst hsz
  have hD := hD0.self (sz := s.heap.size)
  generalize hAe : va_A [(tl, .inr (9, [.ref tl_bytes, .int 0])), (n, .inr (2, [.int 0, .ref n_kind, .ref n_pay, .ref n_name, .ref n_ways, .ref n_held, .ref n_targets, .ref n_weights]))] s.heap.size = A at hD ⊢
  have hA : ∀ q : Nat, s.heap.size ≤ q → A q := fun q h => by rw [← hAe]; exact Or.inr h
  have hS : va_S A s.heap s.heap [] := va_S.rf
  have hP : va_P D vwCl [(tl, .inr (9, [.ref tl_bytes, .int 0])), (n, .inr (2, [.int 0, .ref n_kind, .ref n_pay, .ref n_name, .ref n_ways, .ref n_held, .ref n_targets, .ref n_weights]))] s.heap := hP
  have hl := lv_entry ([.ref tl, .ref n, .ref rd]) (n := 5) (Nat.le_of_ble_eq_true rfl)
  rw [lg_entry_eq]
  generalize (lg_sl ([.ref tl, .ref n, .ref rd]) ++ List.replicate (5 - (lg_sl ([.ref tl, .ref n, .ref rd])).length) Slot.unset).toArray = ls at hl ⊢
  have hl : lv_has ls 5 [(0, .ref tl), (1, .ref n), (2, .ref rd)] := hl
  refine lv_aload_n hx hb dX9_tell_0 rfl (lv_at hl 0 rfl) ?_
  refine lv_iconst (v := 0) hx hb dX9_tell_1 (by decide) ?_
  refine va_put (D := D) (ci := 9) (v := .int 0) (ty := .int) (C := RX9) (T := TX9) (N := 2) hx hb hts inlX9 tyX9 tyX9_ok nmX9 hown hK hP hD hS 0 rfl rfl 1 (by decide) (hts (Cond.fieldLink RX9 15 "ChanceRings$Telling" "length" "I") qw_198) (fun _ h9 => h9) rfl (by decide +kernel) rfl rfl (Nat.le_of_ble_eq_true rfl) dX9_tell_2 (fun H locs hP hD hS => ?_)
  have hP : va_P D vwCl [(tl, .inr (9, [.ref tl_bytes, .int 0])), (n, .inr (2, [.int 0, .ref n_kind, .ref n_pay, .ref n_name, .ref n_ways, .ref n_held, .ref n_targets, .ref n_weights]))] H := hP
  have hD : va_D A [(tl, .inr (9, [.ref tl_bytes, .int 0])), (n, .inr (2, [.int 0, .ref n_kind, .ref n_pay, .ref n_name, .ref n_ways, .ref n_held, .ref n_targets, .ref n_weights]))] := hD
  refine lv_iconst (v := 0) hx hb dX9_tell_5 (by decide) ?_
  refine lv_istore_n (lv' := [(3, .int 0), (0, .ref tl), (1, .ref n), (2, .ref rd)]) hx hb dX9_tell_6 rfl hl (by decide) rfl (fun ls hl => ?_)
  refine lv_iload_n hx hb dX9_tell_7 rfl (lv_at hl 0 rfl) ?_
  refine lv_aload_n hx hb dX9_tell_8 rfl (lv_at hl 2 rfl) ?_
  refine va_get (D := D) (ci := 2) (v := .int 0) (C := RX2) (T := TX2) (N := 8) hx hb hts inlX2 hown hK hP 1 rfl rfl 0 (by decide) (hts (Cond.fieldLink RX9 19 "ChanceRings$Net" "nodes" "I") qw_199) (fun _ h9 => h9) rfl dX9_tell_9 ?_
  refine lv_icmp_ge (tgt := 71) hx hb dX9_tell_12 (by decide) (fun _ => ?_) (fun h9 => (h9 (by decide)).elim)
  refine lv_iconst (v := 0) hx hb dX9_tell_71 (by decide) ?_
  refine lv_istore_n (lv' := [(3, .int 0), (0, .ref tl), (1, .ref n), (2, .ref rd)]) hx hb dX9_tell_72 rfl hl (by decide) rfl (fun ls hl => ?_)
  refine lv_iload_n hx hb dX9_tell_73 rfl (lv_at hl 0 rfl) ?_
  refine lv_aload_n hx hb dX9_tell_74 rfl (lv_at hl 2 rfl) ?_
  refine va_get (D := D) (ci := 2) (v := .int 0) (C := RX2) (T := TX2) (N := 8) hx hb hts inlX2 hown hK hP 1 rfl rfl 0 (by decide) (hts (Cond.fieldLink RX9 19 "ChanceRings$Net" "nodes" "I") qw_199) (fun _ h9 => h9) rfl dX9_tell_75 ?_
  refine lv_icmp_ge (tgt := 168) hx hb dX9_tell_78 (by decide) (fun _ => ?_) (fun h9 => (h9 (by decide)).elim)
  have hP9 := hP.sub (ws' := [(tl, .inr (9, [.ref tl_bytes, .int 0])), (n, .inr (2, [.int 0, .ref n_kind, .ref n_pay, .ref n_name, .ref n_ways, .ref n_held, .ref n_targets, .ref n_weights]))]) [0, 1] rfl
  have hD9 := hD.sub (ws' := [(tl, .inr (9, [.ref tl_bytes, .int 0])), (n, .inr (2, [.int 0, .ref n_kind, .ref n_pay, .ref n_name, .ref n_ways, .ref n_held, .ref n_targets, .ref n_weights]))]) [0, 1] (by decide) rfl
  exact W.vret hx hb hr (fun t ht hW => ⟨⟨(), rfl, trivial, by rw [ht]; exact hP9, hD9⟩, hS.F ht⟩) hS.2.2 dX9_tell_168
set_option maxHeartbeats 4000000 in
set_option maxRecDepth 100000 in
theorem c_X11_text (l : Launch) (D : va_G) (g : Nat → ClassId) (sz : Nat) (x : Nat) (tp : Nat) (n : Nat) (dr : Nat) (x_images : Nat) (x_kept : Nat) (rd : Nat) (st : Nat) (tl : Nat) (rg : Nat) (sv : Nat) (oc : Nat) (x_tried : Nat) (lf : Nat) (x_stoppedWays : Nat) (x_stoppedWorth : Nat) (x_withinWorth : Nat) (tl_bytes : Nat) (n_kind : Nat) (n_pay : Nat) (n_name : Nat) (n_ways : Nat) (n_held : Nat) (n_targets : Nat) (n_weights : Nat) : Met l yX11_text (.code yX11_text cX11_text 1 (some .int) :: wsL_law) ({ frames := 1, cells := 0, slots := 0, locals := 24 }) (va_Pc [.ref x] (fun U => U.heap.size = sz ∧ va_P D vwCl [(x, .inr (11, [.ref tp, .ref n, .ref dr, .ref x_images, .ref x_kept, .ref rd, .ref st, .ref tl, .ref rg, .ref sv, .ref oc, .ref x_tried, .ref lf, .int 0, .ref x_stoppedWays, .ref x_stoppedWorth, .int 0, .ref x_withinWorth])), (tl, .inr (9, [.ref tl_bytes, .int 0])), (n, .inr (2, [.int 0, .ref n_kind, .ref n_pay, .ref n_name, .ref n_ways, .ref n_held, .ref n_targets, .ref n_weights]))] U.heap ∧ va_K D vwCl (TY g) U ∧ va_D (fun _ => True) [(x, .inr (11, [.ref tp, .ref n, .ref dr, .ref x_images, .ref x_kept, .ref rd, .ref st, .ref tl, .ref rg, .ref sv, .ref oc, .ref x_tried, .ref lf, .int 0, .ref x_stoppedWays, .ref x_stoppedWorth, .int 0, .ref x_withinWorth])), (tl, .inr (9, [.ref tl_bytes, .int 0])), (n, .inr (2, [.int 0, .ref n_kind, .ref n_pay, .ref n_name, .ref n_ways, .ref n_held, .ref n_targets, .ref n_weights]))])) (va_Qi (fun r (_ : Unit) => r = 0) (fun _ _ => True) (va_A [(x, .inr (11, [.ref tp, .ref n, .ref dr, .ref x_images, .ref x_kept, .ref rd, .ref st, .ref tl, .ref rg, .ref sv, .ref oc, .ref x_tried, .ref lf, .int 0, .ref x_stoppedWays, .ref x_stoppedWorth, .int 0, .ref x_withinWorth])), (tl, .inr (9, [.ref tl_bytes, .int 0])), (n, .inr (2, [.int 0, .ref n_kind, .ref n_pay, .ref n_name, .ref n_ways, .ref n_held, .ref n_targets, .ref n_weights]))] sz)) 0 0 (va_A [(x, .inr (11, [.ref tp, .ref n, .ref dr, .ref x_images, .ref x_kept, .ref rd, .ref st, .ref tl, .ref rg, .ref sv, .ref oc, .ref x_tried, .ref lf, .int 0, .ref x_stoppedWays, .ref x_stoppedWorth, .int 0, .ref x_withinWorth])), (tl, .inr (9, [.ref tl_bytes, .int 0])), (n, .inr (2, [.int 0, .ref n_kind, .ref n_pay, .ref n_name, .ref n_ways, .ref n_held, .ref n_targets, .ref n_weights]))] sz) := by
  refine Met.ofW (cc := cX11_text) (maxL := 1) (ret := (some .int)) (by decide) rfl ?_
  intro p e s m args below meth c s₁ B hml hv
  obtain ⟨rfl, hsz, hP, hK, hD0⟩ := hv
  have hx := B.exec
  have hb := B.bytes
  have hr := B.returns
  have hts0 := atoms_spec (ws := (.code yX11_text cX11_text 1 (some .int) :: wsL_law)) B.pre
  have hts : ∀ w ∈ wsL_law, w.before _ s = true := fun w h => hts0 w (List.mem_cons_of_mem _ h)
  have hown : s.vm.findClass RX11 = some m.cls := findClass_of_methodNamed B.named
  have hlocks := B.notSynchronized
  subst hsz
  have hD := hD0.self (sz := s.heap.size)
  generalize hAe : va_A [(x, .inr (11, [.ref tp, .ref n, .ref dr, .ref x_images, .ref x_kept, .ref rd, .ref st, .ref tl, .ref rg, .ref sv, .ref oc, .ref x_tried, .ref lf, .int 0, .ref x_stoppedWays, .ref x_stoppedWorth, .int 0, .ref x_withinWorth])), (tl, .inr (9, [.ref tl_bytes, .int 0])), (n, .inr (2, [.int 0, .ref n_kind, .ref n_pay, .ref n_name, .ref n_ways, .ref n_held, .ref n_targets, .ref n_weights]))] s.heap.size = A at hD ⊢
  have hA : ∀ q : Nat, s.heap.size ≤ q → A q := fun q h => by rw [← hAe]; exact Or.inr h
  have hS : va_S A s.heap s.heap [] := va_S.rf
  have hP : va_P D vwCl [(x, .inr (11, [.ref tp, .ref n, .ref dr, .ref x_images, .ref x_kept, .ref rd, .ref st, .ref tl, .ref rg, .ref sv, .ref oc, .ref x_tried, .ref lf, .int 0, .ref x_stoppedWays, .ref x_stoppedWorth, .int 0, .ref x_withinWorth])), (tl, .inr (9, [.ref tl_bytes, .int 0])), (n, .inr (2, [.int 0, .ref n_kind, .ref n_pay, .ref n_name, .ref n_ways, .ref n_held, .ref n_targets, .ref n_weights]))] s.heap := hP
  have hl := lv_entry ([.ref x]) (n := 1) (Nat.le_of_ble_eq_true rfl)
  rw [lg_entry_eq]
  generalize (lg_sl ([.ref x]) ++ List.replicate (1 - (lg_sl ([.ref x])).length) Slot.unset).toArray = ls at hl ⊢
  have hl : lv_has ls 1 [(0, .ref x)] := hl
  refine lv_aload_n hx hb dX11_text_0 rfl (lv_at hl 0 rfl) ?_
  refine va_get (D := D) (ci := 11) (v := .ref tl) (C := RX11) (T := TX11) (N := 18) hx hb hts inlX11 hown hK hP 0 rfl rfl 7 (by decide) (hts (Cond.fieldLink RX11 53 "ChanceRings" "telling" "LChanceRings$Telling;") qw_126) (fun _ h9 => h9) rfl dX11_text_1 ?_
  refine lv_aload_n hx hb dX11_text_4 rfl (lv_at hl 0 rfl) ?_
  refine va_get (D := D) (ci := 11) (v := .ref n) (C := RX11) (T := TX11) (N := 18) hx hb hts inlX11 hown hK hP 0 rfl rfl 1 (by decide) (hts (Cond.fieldLink RX11 19 "ChanceRings" "net" "LChanceRings$Net;") qw_114) (fun _ h9 => h9) rfl dX11_text_5 ?_
  refine lv_aload_n hx hb dX11_text_8 rfl (lv_at hl 0 rfl) ?_
  refine va_get (D := D) (ci := 11) (v := .ref rd) (C := RX11) (T := TX11) (N := 18) hx hb hts inlX11 hown hK hP 0 rfl rfl 5 (by decide) (hts (Cond.fieldLink RX11 39 "ChanceRings" "reader" "LChanceRings$Reader;") qw_128) (fun _ h9 => h9) rfl dX11_text_9 ?_
  have hPc := hP.sub (ws' := [(tl, .inr (9, [.ref tl_bytes, .int 0])), (n, .inr (2, [.int 0, .ref n_kind, .ref n_pay, .ref n_name, .ref n_ways, .ref n_held, .ref n_targets, .ref n_weights]))]) [1, 2] rfl
  have hDc := hD.sub (ws' := [(tl, .inr (9, [.ref tl_bytes, .int 0])), (n, .inr (2, [.int 0, .ref n_kind, .ref n_pay, .ref n_name, .ref n_ways, .ref n_held, .ref n_targets, .ref n_weights]))]) [1, 2] (by decide) rfl
  have hFc := va_free (wc := [(tl, .inr (9, [.ref tl_bytes, .int 0])), (n, .inr (2, [.int 0, .ref n_kind, .ref n_pay, .ref n_name, .ref n_ways, .ref n_held, .ref n_targets, .ref n_weights]))]) hD hS hA [1, 2] rfl
  refine va_callv (va_runV (As := [.ref n, .ref rd]) (rest := []) ⟨hx, hb, hml, hown, hts⟩ (c_X9_tell l D g s.heap.size tl n rd tl_bytes n_kind n_pay n_name n_ways n_held n_targets n_weights) (cwV 2 hts (tz_gV qw_200 qw_201 qw_202 qw_203 qw_204) rfl rfl rfl (by decide +kernel) ⟨Nat.le_of_ble_eq_true rfl, Nat.le_of_ble_eq_true rfl⟩) ⟨tz_blQ, va_recv hK hPc (ci := 9) (q0 := 0) rfl rfl, tz_preQ hPc hK hDc⟩ rfl rfl hl.1 rfl (lv_room (Nat.le_of_ble_eq_true rfl)) dX11_text_12 ⟨Nat.le_of_ble_eq_true rfl, Nat.le_of_ble_eq_true rfl⟩) hS (fun q _ h => hFc q h) hFc (fun u t H1 locs ht hvm hw hB hz1 hk1 hS => ?_)
  obtain ⟨hP1, hD1⟩ := hB
  rw [ht] at hP1
  obtain ⟨hP, hD⟩ := va_join (wr := [(x, .inr (11, [.ref tp, .ref n, .ref dr, .ref x_images, .ref x_kept, .ref rd, .ref st, .ref tl, .ref rg, .ref sv, .ref oc, .ref x_tried, .ref lf, .int 0, .ref x_stoppedWays, .ref x_stoppedWorth, .int 0, .ref x_withinWorth]))]) (w1 := [(tl, .inr (9, [.ref tl_bytes, .int 0])), (n, .inr (2, [.int 0, .ref n_kind, .ref n_pay, .ref n_name, .ref n_ways, .ref n_held, .ref n_targets, .ref n_weights]))]) hP hD [1, 2] [0] rfl rfl (by decide) (by decide) hk1 hFc hP1 hD1
  generalize H1 = H at hP hS ⊢
  have hP : va_P D vwCl [(x, .inr (11, [.ref tp, .ref n, .ref dr, .ref x_images, .ref x_kept, .ref rd, .ref st, .ref tl, .ref rg, .ref sv, .ref oc, .ref x_tried, .ref lf, .int 0, .ref x_stoppedWays, .ref x_stoppedWorth, .int 0, .ref x_withinWorth])), (tl, .inr (9, [.ref tl_bytes, .int 0])), (n, .inr (2, [.int 0, .ref n_kind, .ref n_pay, .ref n_name, .ref n_ways, .ref n_held, .ref n_targets, .ref n_weights]))] H := hP
  have hD : va_D A [(x, .inr (11, [.ref tp, .ref n, .ref dr, .ref x_images, .ref x_kept, .ref rd, .ref st, .ref tl, .ref rg, .ref sv, .ref oc, .ref x_tried, .ref lf, .int 0, .ref x_stoppedWays, .ref x_stoppedWorth, .int 0, .ref x_withinWorth])), (tl, .inr (9, [.ref tl_bytes, .int 0])), (n, .inr (2, [.int 0, .ref n_kind, .ref n_pay, .ref n_name, .ref n_ways, .ref n_held, .ref n_targets, .ref n_weights]))] := hD
  refine lv_aload_n hx hb dX11_text_15 rfl (lv_at hl 0 rfl) ?_
  refine va_get (D := D) (ci := 11) (v := .ref tl) (C := RX11) (T := TX11) (N := 18) hx hb hts inlX11 hown hK hP 0 rfl rfl 7 (by decide) (hts (Cond.fieldLink RX11 53 "ChanceRings" "telling" "LChanceRings$Telling;") qw_126) (fun _ h9 => h9) rfl dX11_text_16 ?_
  refine va_get (D := D) (ci := 9) (v := .int 0) (C := RX9) (T := TX9) (N := 2) hx hb hts inlX9 hown hK hP 1 rfl rfl 1 (by decide) (hts (Cond.fieldLink RX11 266 "ChanceRings$Telling" "length" "I") qw_127) (fun _ h9 => h9) rfl dX11_text_19 ?_
  exact W.iret (v := 0) hx hb hr (fun t ht hW => ⟨⟨0, (), rfl, rfl, trivial⟩, hS.F ht⟩) hS.2.2 dX11_text_22
set_option maxHeartbeats 4000000 in
set_option maxRecDepth 100000 in
theorem c_X11_renew (l : Launch) (D : va_G) (g : Nat → ClassId) (sz : Nat) (x : Nat) (tp : Nat) (n : Nat) (dr : Nat) (x_images : Nat) (x_kept : Nat) (rd : Nat) (st : Nat) (tl : Nat) (rg : Nat) (sv : Nat) (oc : Nat) (x_tried : Nat) (lf : Nat) (x_stoppedWays : Nat) (x_stoppedWorth : Nat) (x_withinWorth : Nat) (oc_net : Nat) (oc_solver : Nat) (oc_plan : Nat) (oc_worth : Nat) (oc_length : Nat) (oc_reach : Nat) (oc_ringBits : Nat) (oc_ringCount : Int32) (oc_ringNodes : Int32) (sv_course : Nat) (sv_keep : Nat) (sv_scaled : Nat) (n_kind : Nat) (n_pay : Nat) (n_name : Nat) (n_ways : Nat) (n_held : Nat) (n_targets : Nat) (n_weights : Nat) : Met l yX11_renew (.code yX11_renew cX11_renew 1 none :: wsL_law) ({ frames := 1, cells := 0, slots := 0, locals := 22 }) (va_Pc [.ref x] (fun U => U.heap.size = sz ∧ va_P D vwCl [(x, .inr (11, [.ref tp, .ref n, .ref dr, .ref x_images, .ref x_kept, .ref rd, .ref st, .ref tl, .ref rg, .ref sv, .ref oc, .ref x_tried, .ref lf, .int 0, .ref x_stoppedWays, .ref x_stoppedWorth, .int 0, .ref x_withinWorth])), (oc, .inr (3, [.ref oc_net, .ref oc_solver, .ref oc_plan, .ref oc_worth, .ref oc_length, .ref oc_reach, .ref oc_ringBits, .int oc_ringCount, .int oc_ringNodes, .int 0])), (sv, .inr (6, [.ref n, .ref sv_course, .ref sv_keep, .ref sv_scaled])), (n, .inr (2, [.int 0, .ref n_kind, .ref n_pay, .ref n_name, .ref n_ways, .ref n_held, .ref n_targets, .ref n_weights]))] U.heap ∧ va_K D vwCl (TY g) U ∧ va_D (fun _ => True) [(x, .inr (11, [.ref tp, .ref n, .ref dr, .ref x_images, .ref x_kept, .ref rd, .ref st, .ref tl, .ref rg, .ref sv, .ref oc, .ref x_tried, .ref lf, .int 0, .ref x_stoppedWays, .ref x_stoppedWorth, .int 0, .ref x_withinWorth])), (oc, .inr (3, [.ref oc_net, .ref oc_solver, .ref oc_plan, .ref oc_worth, .ref oc_length, .ref oc_reach, .ref oc_ringBits, .int oc_ringCount, .int oc_ringNodes, .int 0])), (sv, .inr (6, [.ref n, .ref sv_course, .ref sv_keep, .ref sv_scaled])), (n, .inr (2, [.int 0, .ref n_kind, .ref n_pay, .ref n_name, .ref n_ways, .ref n_held, .ref n_targets, .ref n_weights]))])) (va_Qv (fun (_ : Unit) => True) (fun _ t => va_P D vwCl [(x, .inr (11, [.ref tp, .ref n, .ref dr, .ref x_images, .ref x_kept, .ref rd, .ref st, .ref tl, .ref rg, .ref sv, .ref oc, .ref x_tried, .ref lf, .int 0, .ref x_stoppedWays, .ref x_stoppedWorth, .int 0, .ref x_withinWorth])), (n, .inr (2, [.int 0, .ref n_kind, .ref n_pay, .ref n_name, .ref n_ways, .ref n_held, .ref n_targets, .ref n_weights]))] t.heap ∧ va_D (va_A [(x, .inr (11, [.ref tp, .ref n, .ref dr, .ref x_images, .ref x_kept, .ref rd, .ref st, .ref tl, .ref rg, .ref sv, .ref oc, .ref x_tried, .ref lf, .int 0, .ref x_stoppedWays, .ref x_stoppedWorth, .int 0, .ref x_withinWorth])), (oc, .inr (3, [.ref oc_net, .ref oc_solver, .ref oc_plan, .ref oc_worth, .ref oc_length, .ref oc_reach, .ref oc_ringBits, .int oc_ringCount, .int oc_ringNodes, .int 0])), (sv, .inr (6, [.ref n, .ref sv_course, .ref sv_keep, .ref sv_scaled])), (n, .inr (2, [.int 0, .ref n_kind, .ref n_pay, .ref n_name, .ref n_ways, .ref n_held, .ref n_targets, .ref n_weights]))] sz) [(x, .inr (11, [.ref tp, .ref n, .ref dr, .ref x_images, .ref x_kept, .ref rd, .ref st, .ref tl, .ref rg, .ref sv, .ref oc, .ref x_tried, .ref lf, .int 0, .ref x_stoppedWays, .ref x_stoppedWorth, .int 0, .ref x_withinWorth])), (n, .inr (2, [.int 0, .ref n_kind, .ref n_pay, .ref n_name, .ref n_ways, .ref n_held, .ref n_targets, .ref n_weights]))]) (va_A [(x, .inr (11, [.ref tp, .ref n, .ref dr, .ref x_images, .ref x_kept, .ref rd, .ref st, .ref tl, .ref rg, .ref sv, .ref oc, .ref x_tried, .ref lf, .int 0, .ref x_stoppedWays, .ref x_stoppedWorth, .int 0, .ref x_withinWorth])), (oc, .inr (3, [.ref oc_net, .ref oc_solver, .ref oc_plan, .ref oc_worth, .ref oc_length, .ref oc_reach, .ref oc_ringBits, .int oc_ringCount, .int oc_ringNodes, .int 0])), (sv, .inr (6, [.ref n, .ref sv_course, .ref sv_keep, .ref sv_scaled])), (n, .inr (2, [.int 0, .ref n_kind, .ref n_pay, .ref n_name, .ref n_ways, .ref n_held, .ref n_targets, .ref n_weights]))] sz)) 0 0 (va_A [(x, .inr (11, [.ref tp, .ref n, .ref dr, .ref x_images, .ref x_kept, .ref rd, .ref st, .ref tl, .ref rg, .ref sv, .ref oc, .ref x_tried, .ref lf, .int 0, .ref x_stoppedWays, .ref x_stoppedWorth, .int 0, .ref x_withinWorth])), (oc, .inr (3, [.ref oc_net, .ref oc_solver, .ref oc_plan, .ref oc_worth, .ref oc_length, .ref oc_reach, .ref oc_ringBits, .int oc_ringCount, .int oc_ringNodes, .int 0])), (sv, .inr (6, [.ref n, .ref sv_course, .ref sv_keep, .ref sv_scaled])), (n, .inr (2, [.int 0, .ref n_kind, .ref n_pay, .ref n_name, .ref n_ways, .ref n_held, .ref n_targets, .ref n_weights]))] sz) := by
  refine Met.ofW (cc := cX11_renew) (maxL := 1) (ret := none) (by decide) rfl ?_
  intro p e s m args below meth c s₁ B hml hv
  obtain ⟨rfl, hsz, hP, hK, hD0⟩ := hv
  have hx := B.exec
  have hb := B.bytes
  have hr := B.returns
  have hts0 := atoms_spec (ws := (.code yX11_renew cX11_renew 1 none :: wsL_law)) B.pre
  have hts : ∀ w ∈ wsL_law, w.before _ s = true := fun w h => hts0 w (List.mem_cons_of_mem _ h)
  have hown : s.vm.findClass RX11 = some m.cls := findClass_of_methodNamed B.named
  have hlocks := B.notSynchronized
  subst hsz
  have hD := hD0.self (sz := s.heap.size)
  generalize hAe : va_A [(x, .inr (11, [.ref tp, .ref n, .ref dr, .ref x_images, .ref x_kept, .ref rd, .ref st, .ref tl, .ref rg, .ref sv, .ref oc, .ref x_tried, .ref lf, .int 0, .ref x_stoppedWays, .ref x_stoppedWorth, .int 0, .ref x_withinWorth])), (oc, .inr (3, [.ref oc_net, .ref oc_solver, .ref oc_plan, .ref oc_worth, .ref oc_length, .ref oc_reach, .ref oc_ringBits, .int oc_ringCount, .int oc_ringNodes, .int 0])), (sv, .inr (6, [.ref n, .ref sv_course, .ref sv_keep, .ref sv_scaled])), (n, .inr (2, [.int 0, .ref n_kind, .ref n_pay, .ref n_name, .ref n_ways, .ref n_held, .ref n_targets, .ref n_weights]))] s.heap.size = A at hD ⊢
  have hA : ∀ q : Nat, s.heap.size ≤ q → A q := fun q h => by rw [← hAe]; exact Or.inr h
  have hS : va_S A s.heap s.heap [] := va_S.rf
  have hP : va_P D vwCl [(x, .inr (11, [.ref tp, .ref n, .ref dr, .ref x_images, .ref x_kept, .ref rd, .ref st, .ref tl, .ref rg, .ref sv, .ref oc, .ref x_tried, .ref lf, .int 0, .ref x_stoppedWays, .ref x_stoppedWorth, .int 0, .ref x_withinWorth])), (oc, .inr (3, [.ref oc_net, .ref oc_solver, .ref oc_plan, .ref oc_worth, .ref oc_length, .ref oc_reach, .ref oc_ringBits, .int oc_ringCount, .int oc_ringNodes, .int 0])), (sv, .inr (6, [.ref n, .ref sv_course, .ref sv_keep, .ref sv_scaled])), (n, .inr (2, [.int 0, .ref n_kind, .ref n_pay, .ref n_name, .ref n_ways, .ref n_held, .ref n_targets, .ref n_weights]))] s.heap := hP
  have hl := lv_entry ([.ref x]) (n := 1) (Nat.le_of_ble_eq_true rfl)
  rw [lg_entry_eq]
  generalize (lg_sl ([.ref x]) ++ List.replicate (1 - (lg_sl ([.ref x])).length) Slot.unset).toArray = ls at hl ⊢
  have hl : lv_has ls 1 [(0, .ref x)] := hl
  refine lv_aload_n hx hb dX11_renew_0 rfl (lv_at hl 0 rfl) ?_
  refine va_get (D := D) (ci := 11) (v := .ref oc) (C := RX11) (T := TX11) (N := 18) hx hb hts inlX11 hown hK hP 0 rfl rfl 10 (by decide) (hts (Cond.fieldLink RX11 78 "ChanceRings" "outcome" "LChanceRings$Outcome;") qw_184) (fun _ h9 => h9) rfl dX11_renew_1 ?_
  refine lv_iconst (v := 0) hx hb dX11_renew_4 (by decide) ?_
  refine va_put (D := D) (ci := 3) (v := .int 0) (ty := .boolean) (C := RX3) (T := TX3) (N := 10) hx hb hts inlX3 tyX3 tyX3_ok nmX3 hown hK hP hD hS 1 rfl rfl 9 (by decide) (hts (Cond.fieldLink RX11 282 "ChanceRings$Outcome" "settled" "Z") qw_205) (fun _ h9 => h9) rfl (by decide +kernel) (by decide) rfl (Nat.le_of_ble_eq_true rfl) dX11_renew_5 (fun H locs hP hD hS => ?_)
  have hP : va_P D vwCl [(x, .inr (11, [.ref tp, .ref n, .ref dr, .ref x_images, .ref x_kept, .ref rd, .ref st, .ref tl, .ref rg, .ref sv, .ref oc, .ref x_tried, .ref lf, .int 0, .ref x_stoppedWays, .ref x_stoppedWorth, .int 0, .ref x_withinWorth])), (oc, .inr (3, [.ref oc_net, .ref oc_solver, .ref oc_plan, .ref oc_worth, .ref oc_length, .ref oc_reach, .ref oc_ringBits, .int oc_ringCount, .int oc_ringNodes, .int 0])), (sv, .inr (6, [.ref n, .ref sv_course, .ref sv_keep, .ref sv_scaled])), (n, .inr (2, [.int 0, .ref n_kind, .ref n_pay, .ref n_name, .ref n_ways, .ref n_held, .ref n_targets, .ref n_weights]))] H := hP
  have hD : va_D A [(x, .inr (11, [.ref tp, .ref n, .ref dr, .ref x_images, .ref x_kept, .ref rd, .ref st, .ref tl, .ref rg, .ref sv, .ref oc, .ref x_tried, .ref lf, .int 0, .ref x_stoppedWays, .ref x_stoppedWorth, .int 0, .ref x_withinWorth])), (oc, .inr (3, [.ref oc_net, .ref oc_solver, .ref oc_plan, .ref oc_worth, .ref oc_length, .ref oc_reach, .ref oc_ringBits, .int oc_ringCount, .int oc_ringNodes, .int 0])), (sv, .inr (6, [.ref n, .ref sv_course, .ref sv_keep, .ref sv_scaled])), (n, .inr (2, [.int 0, .ref n_kind, .ref n_pay, .ref n_name, .ref n_ways, .ref n_held, .ref n_targets, .ref n_weights]))] := hD
  refine lv_aload_n hx hb dX11_renew_8 rfl (lv_at hl 0 rfl) ?_
  refine lv_iconst (v := 0) hx hb dX11_renew_9 (by decide) ?_
  refine va_put (D := D) (ci := 11) (v := .int 0) (ty := .boolean) (C := RX11) (T := TX11) (N := 18) hx hb hts inlX11 tyX11 tyX11_ok nmX11 hown hK hP hD hS 0 rfl rfl 13 (by decide) (hts (Cond.fieldLink RX11 188 "ChanceRings" "leftKnown" "Z") qw_157) (fun _ h9 => h9) rfl (by decide +kernel) (by decide) rfl (Nat.le_of_ble_eq_true rfl) dX11_renew_10 (fun H locs hP hD hS => ?_)
  have hP : va_P D vwCl [(x, .inr (11, [.ref tp, .ref n, .ref dr, .ref x_images, .ref x_kept, .ref rd, .ref st, .ref tl, .ref rg, .ref sv, .ref oc, .ref x_tried, .ref lf, .int 0, .ref x_stoppedWays, .ref x_stoppedWorth, .int 0, .ref x_withinWorth])), (oc, .inr (3, [.ref oc_net, .ref oc_solver, .ref oc_plan, .ref oc_worth, .ref oc_length, .ref oc_reach, .ref oc_ringBits, .int oc_ringCount, .int oc_ringNodes, .int 0])), (sv, .inr (6, [.ref n, .ref sv_course, .ref sv_keep, .ref sv_scaled])), (n, .inr (2, [.int 0, .ref n_kind, .ref n_pay, .ref n_name, .ref n_ways, .ref n_held, .ref n_targets, .ref n_weights]))] H := hP
  have hD : va_D A [(x, .inr (11, [.ref tp, .ref n, .ref dr, .ref x_images, .ref x_kept, .ref rd, .ref st, .ref tl, .ref rg, .ref sv, .ref oc, .ref x_tried, .ref lf, .int 0, .ref x_stoppedWays, .ref x_stoppedWorth, .int 0, .ref x_withinWorth])), (oc, .inr (3, [.ref oc_net, .ref oc_solver, .ref oc_plan, .ref oc_worth, .ref oc_length, .ref oc_reach, .ref oc_ringBits, .int oc_ringCount, .int oc_ringNodes, .int 0])), (sv, .inr (6, [.ref n, .ref sv_course, .ref sv_keep, .ref sv_scaled])), (n, .inr (2, [.int 0, .ref n_kind, .ref n_pay, .ref n_name, .ref n_ways, .ref n_held, .ref n_targets, .ref n_weights]))] := hD
  refine lv_aload_n hx hb dX11_renew_13 rfl (lv_at hl 0 rfl) ?_
  refine lv_iconst (v := 0) hx hb dX11_renew_14 (by decide) ?_
  refine va_put (D := D) (ci := 11) (v := .int 0) (ty := .int) (C := RX11) (T := TX11) (N := 18) hx hb hts inlX11 tyX11 tyX11_ok nmX11 hown hK hP hD hS 0 rfl rfl 16 (by decide) (hts (Cond.fieldLink RX11 208 "ChanceRings" "stoppedBy" "I") qw_206) (fun _ h9 => h9) rfl (by decide +kernel) rfl rfl (Nat.le_of_ble_eq_true rfl) dX11_renew_15 (fun H locs hP hD hS => ?_)
  have hP : va_P D vwCl [(x, .inr (11, [.ref tp, .ref n, .ref dr, .ref x_images, .ref x_kept, .ref rd, .ref st, .ref tl, .ref rg, .ref sv, .ref oc, .ref x_tried, .ref lf, .int 0, .ref x_stoppedWays, .ref x_stoppedWorth, .int 0, .ref x_withinWorth])), (oc, .inr (3, [.ref oc_net, .ref oc_solver, .ref oc_plan, .ref oc_worth, .ref oc_length, .ref oc_reach, .ref oc_ringBits, .int oc_ringCount, .int oc_ringNodes, .int 0])), (sv, .inr (6, [.ref n, .ref sv_course, .ref sv_keep, .ref sv_scaled])), (n, .inr (2, [.int 0, .ref n_kind, .ref n_pay, .ref n_name, .ref n_ways, .ref n_held, .ref n_targets, .ref n_weights]))] H := hP
  have hD : va_D A [(x, .inr (11, [.ref tp, .ref n, .ref dr, .ref x_images, .ref x_kept, .ref rd, .ref st, .ref tl, .ref rg, .ref sv, .ref oc, .ref x_tried, .ref lf, .int 0, .ref x_stoppedWays, .ref x_stoppedWorth, .int 0, .ref x_withinWorth])), (oc, .inr (3, [.ref oc_net, .ref oc_solver, .ref oc_plan, .ref oc_worth, .ref oc_length, .ref oc_reach, .ref oc_ringBits, .int oc_ringCount, .int oc_ringNodes, .int 0])), (sv, .inr (6, [.ref n, .ref sv_course, .ref sv_keep, .ref sv_scaled])), (n, .inr (2, [.int 0, .ref n_kind, .ref n_pay, .ref n_name, .ref n_ways, .ref n_held, .ref n_targets, .ref n_weights]))] := hD
  refine lv_aload_n hx hb dX11_renew_18 rfl (lv_at hl 0 rfl) ?_
  refine va_get (D := D) (ci := 11) (v := .ref sv) (C := RX11) (T := TX11) (N := 18) hx hb hts inlX11 hown hK hP 0 rfl rfl 9 (by decide) (hts (Cond.fieldLink RX11 69 "ChanceRings" "solver" "LChanceRings$Solver;") qw_158) (fun _ h9 => h9) rfl dX11_renew_19 ?_
  refine lv_aload_n hx hb dX11_renew_22 rfl (lv_at hl 0 rfl) ?_
  refine va_get (D := D) (ci := 11) (v := .ref x_tried) (C := RX11) (T := TX11) (N := 18) hx hb hts inlX11 hown hK hP 0 rfl rfl 11 (by decide) (hts (Cond.fieldLink RX11 82 "ChanceRings" "tried" "[I") qw_159) (fun _ h9 => h9) rfl dX11_renew_23 ?_
  have hPc := hP.sub (ws' := [(sv, .inr (6, [.ref n, .ref sv_course, .ref sv_keep, .ref sv_scaled])), (n, .inr (2, [.int 0, .ref n_kind, .ref n_pay, .ref n_name, .ref n_ways, .ref n_held, .ref n_targets, .ref n_weights]))]) [2, 3] rfl
  refine va_csv (va_Run.run (va_runV (As := [.ref x_tried]) (rest := []) ⟨hx, hb, hml, hown, hts⟩ (c_X6_firstWays l D g sv x_tried n sv_course sv_keep sv_scaled n_kind n_pay n_name n_ways n_held n_targets n_weights) (cwV 1 hts (tz_gV qw_207 qw_87 qw_88 qw_11 qw_89) rfl rfl rfl (by decide +kernel) ⟨Nat.le_of_ble_eq_true rfl, Nat.le_of_ble_eq_true rfl⟩) ⟨tz_blS, va_recv hK hPc (ci := 6) (q0 := 0) rfl rfl, tz_preS hPc hK⟩ rfl rfl hl.1 rfl (lv_room (Nat.le_of_ble_eq_true rfl)) dX11_renew_26 ⟨Nat.le_of_ble_eq_true rfl, Nat.le_of_ble_eq_true rfl⟩)) (fun _ => ?_)
  have hP9 := hP.sub (ws' := [(x, .inr (11, [.ref tp, .ref n, .ref dr, .ref x_images, .ref x_kept, .ref rd, .ref st, .ref tl, .ref rg, .ref sv, .ref oc, .ref x_tried, .ref lf, .int 0, .ref x_stoppedWays, .ref x_stoppedWorth, .int 0, .ref x_withinWorth])), (n, .inr (2, [.int 0, .ref n_kind, .ref n_pay, .ref n_name, .ref n_ways, .ref n_held, .ref n_targets, .ref n_weights]))]) [0, 3] rfl
  have hD9 := hD.sub (ws' := [(x, .inr (11, [.ref tp, .ref n, .ref dr, .ref x_images, .ref x_kept, .ref rd, .ref st, .ref tl, .ref rg, .ref sv, .ref oc, .ref x_tried, .ref lf, .int 0, .ref x_stoppedWays, .ref x_stoppedWorth, .int 0, .ref x_withinWorth])), (n, .inr (2, [.int 0, .ref n_kind, .ref n_pay, .ref n_name, .ref n_ways, .ref n_held, .ref n_targets, .ref n_weights]))]) [0, 3] (by decide) rfl
  exact W.vret hx hb hr (fun t ht hW => ⟨⟨(), rfl, trivial, by rw [ht]; exact hP9, hD9⟩, hS.F ht⟩) hS.2.2 dX11_renew_29
