theorem qw_131 : Cond.methodLink RX12 204 yX12_divisor ∈ wsL_law := tseg_6 (by decide +kernel) (List.mem_of_getElem? (i := 157) (by decide +kernel))
theorem qw_132 : Cond.static yX12_divisor ∈ wsL_law := tseg_6 (by decide +kernel) (List.mem_of_getElem? (i := 158) (by decide +kernel))
theorem qw_133 : Cond.code yX12_divisor cX12_divisor 10 (some .long) ∈ wsL_law := tseg_6 (by decide +kernel) (List.mem_of_getElem? (i := 159) (by decide +kernel))
theorem qw_136 : Cond.methodLink RX12 212 yX12_ends ∈ wsL_law := tseg_6 (by decide +kernel) (List.mem_of_getElem? (i := 141) (by decide +kernel))
theorem qw_137 : Cond.instanceMethod yX12_ends ∈ wsL_law := tseg_6 (by decide +kernel) (List.mem_of_getElem? (i := 143) (by decide +kernel))
theorem qw_138 : Cond.selects RX12 yX12_ends yX12_ends ∈ wsL_law := List.mem_filter.mpr ⟨List.mem_append_left _ (List.mem_of_getElem? (i := 73) (by decide +kernel)), by decide +kernel⟩
theorem qw_139 : Cond.code yX12_ends cX12_ends 3 (some .int) ∈ wsL_law := tseg_6 (by decide +kernel) (List.mem_of_getElem? (i := 144) (by decide +kernel))
theorem qw_140 : Cond.methodLink RX12 215 yX12_comes ∈ wsL_law := tseg_6 (by decide +kernel) (List.mem_of_getElem? (i := 145) (by decide +kernel))
theorem qw_141 : Cond.instanceMethod yX12_comes ∈ wsL_law := tseg_6 (by decide +kernel) (List.mem_of_getElem? (i := 147) (by decide +kernel))
theorem qw_142 : Cond.selects RX12 yX12_comes yX12_comes ∈ wsL_law := List.mem_filter.mpr ⟨List.mem_append_left _ (List.mem_of_getElem? (i := 74) (by decide +kernel)), by decide +kernel⟩
theorem qw_143 : Cond.code yX12_comes cX12_comes 5 (some .int) ∈ wsL_law := tseg_6 (by decide +kernel) (List.mem_of_getElem? (i := 148) (by decide +kernel))
theorem qw_144 : Cond.methodLink RX12 225 yX12_solves ∈ wsL_law := tseg_6 (by decide +kernel) (List.mem_of_getElem? (i := 163) (by decide +kernel))
theorem qw_145 : Cond.instanceMethod yX12_solves ∈ wsL_law := tseg_6 (by decide +kernel) (List.mem_of_getElem? (i := 165) (by decide +kernel))
theorem qw_146 : Cond.selects RX12 yX12_solves yX12_solves ∈ wsL_law := List.mem_filter.mpr ⟨List.mem_append_left _ (List.mem_of_getElem? (i := 77) (by decide +kernel)), by decide +kernel⟩
theorem qw_147 : Cond.code yX12_solves cX12_solves 9 (some .long) ∈ wsL_law := tseg_6 (by decide +kernel) (List.mem_of_getElem? (i := 166) (by decide +kernel))
theorem qw_149 : Cond.methodLink RX12 218 yX12_lays ∈ wsL_law := tseg_6 (by decide +kernel) (List.mem_of_getElem? (i := 153) (by decide +kernel))
theorem qw_150 : Cond.instanceMethod yX12_lays ∈ wsL_law := tseg_6 (by decide +kernel) (List.mem_of_getElem? (i := 155) (by decide +kernel))
theorem qw_151 : Cond.selects RX12 yX12_lays yX12_lays ∈ wsL_law := List.mem_filter.mpr ⟨List.mem_append_left _ (List.mem_of_getElem? (i := 76) (by decide +kernel)), by decide +kernel⟩
theorem qw_152 : Cond.code yX12_lays cX12_lays 8 none ∈ wsL_law := tseg_6 (by decide +kernel) (List.mem_of_getElem? (i := 156) (by decide +kernel))
theorem qw_153 : Cond.methodLink RX12 222 yX12_bitOf ∈ wsL_law := tseg_6 (by decide +kernel) (List.mem_of_getElem? (i := 160) (by decide +kernel))
theorem qw_154 : Cond.static yX12_bitOf ∈ wsL_law := tseg_6 (by decide +kernel) (List.mem_of_getElem? (i := 161) (by decide +kernel))
theorem qw_155 : Cond.code yX12_bitOf cX12_bitOf 2 (some .boolean) ∈ wsL_law := tseg_6 (by decide +kernel) (List.mem_of_getElem? (i := 162) (by decide +kernel))
theorem dX12_lays_0 : decode cX12_lays 0 = .ok (.lload_n 2, 1) := by decide +kernel
theorem dX12_lays_1 : decode cX12_lays 1 = .ok (.lload 4, 2) := by decide +kernel
theorem dX12_lays_3 : decode cX12_lays 3 = .ok (.invokestatic 204, 3) := by decide +kernel
theorem dX12_lays_6 : decode cX12_lays 6 = .ok (.lstore 6, 2) := by decide +kernel
theorem dX12_lays_8 : decode cX12_lays 8 = .ok (.aload_n 0, 1) := by decide +kernel
theorem dX12_lays_9 : decode cX12_lays 9 = .ok (.getfield 46, 3) := by decide +kernel
theorem dX12_lays_12 : decode cX12_lays 12 = .ok (.iload_n 1, 1) := by decide +kernel
theorem dX12_lays_13 : decode cX12_lays 13 = .ok (.lload_n 2, 1) := by decide +kernel
theorem dX12_lays_14 : decode cX12_lays 14 = .ok (.lload 6, 2) := by decide +kernel
theorem dX12_lays_16 : decode cX12_lays 16 = .ok (.ldiv, 1) := by decide +kernel
theorem dX12_lays_17 : decode cX12_lays 17 = .ok (.lastore, 1) := by decide +kernel
theorem dX12_lays_18 : decode cX12_lays 18 = .ok (.aload_n 0, 1) := by decide +kernel
theorem dX12_lays_19 : decode cX12_lays 19 = .ok (.getfield 50, 3) := by decide +kernel
theorem dX12_lays_22 : decode cX12_lays 22 = .ok (.iload_n 1, 1) := by decide +kernel
theorem dX12_lays_23 : decode cX12_lays 23 = .ok (.lload 4, 2) := by decide +kernel
theorem dX12_lays_25 : decode cX12_lays 25 = .ok (.lload 6, 2) := by decide +kernel
theorem dX12_lays_27 : decode cX12_lays 27 = .ok (.ldiv, 1) := by decide +kernel
theorem dX12_lays_28 : decode cX12_lays 28 = .ok (.lastore, 1) := by decide +kernel
theorem dX12_lays_29 : decode cX12_lays 29 = .ok (.return_, 1) := by decide +kernel
theorem dX12_plays_0 : decode cX12_plays 0 = .ok (.aload_n 0, 1) := by decide +kernel
theorem dX12_plays_1 : decode cX12_plays 1 = .ok (.aload_n 0, 1) := by decide +kernel
theorem dX12_plays_2 : decode cX12_plays 2 = .ok (.invokevirtual 212, 3) := by decide +kernel
theorem dX12_plays_5 : decode cX12_plays 5 = .ok (.invokevirtual 215, 3) := by decide +kernel
theorem dX12_plays_8 : decode cX12_plays 8 = .ok (.istore_n 3, 1) := by decide +kernel
theorem dX12_plays_9 : decode cX12_plays 9 = .ok (.iconst 0, 1) := by decide +kernel
theorem dX12_plays_10 : decode cX12_plays 10 = .ok (.istore 4, 2) := by decide +kernel
theorem dX12_plays_12 : decode cX12_plays 12 = .ok (.iconst 0, 1) := by decide +kernel
theorem dX12_plays_13 : decode cX12_plays 13 = .ok (.istore 5, 2) := by decide +kernel
theorem dX12_plays_15 : decode cX12_plays 15 = .ok (.iload 5, 2) := by decide +kernel
theorem dX12_plays_17 : decode cX12_plays 17 = .ok (.aload_n 0, 1) := by decide +kernel
theorem dX12_plays_18 : decode cX12_plays 18 = .ok (.getfield 13, 3) := by decide +kernel
theorem dX12_plays_21 : decode cX12_plays 21 = .ok (.iconst 0, 1) := by decide +kernel
theorem dX12_plays_22 : decode cX12_plays 22 = .ok (.iaload, 1) := by decide +kernel
theorem dX12_plays_23 : decode cX12_plays 23 = .ok (.if_icmp .ge 87, 3) := by decide +kernel
theorem dX12_plays_26 : decode cX12_plays 26 = .ok (.aload_n 0, 1) := by decide +kernel
theorem dX12_plays_27 : decode cX12_plays 27 = .ok (.getfield 43, 3) := by decide +kernel
theorem dX12_plays_30 : decode cX12_plays 30 = .ok (.iload 5, 2) := by decide +kernel
theorem dX12_plays_32 : decode cX12_plays 32 = .ok (.iconst (-1), 1) := by decide +kernel
theorem dX12_plays_33 : decode cX12_plays 33 = .ok (.iastore, 1) := by decide +kernel
theorem dX12_plays_34 : decode cX12_plays 34 = .ok (.aload_n 0, 1) := by decide +kernel
theorem dX12_plays_35 : decode cX12_plays 35 = .ok (.iload 5, 2) := by decide +kernel
theorem dX12_plays_37 : decode cX12_plays 37 = .ok (.aload_n 0, 1) := by decide +kernel
theorem dX12_plays_38 : decode cX12_plays 38 = .ok (.iload 5, 2) := by decide +kernel
theorem dX12_plays_40 : decode cX12_plays 40 = .ok (.iconst 0, 1) := by decide +kernel
theorem dX12_plays_41 : decode cX12_plays 41 = .ok (.invokevirtual 187, 3) := by decide +kernel
theorem dX12_plays_44 : decode cX12_plays 44 = .ok (.ifCond .eq 21, 3) := by decide +kernel
theorem dX12_plays_47 : decode cX12_plays 47 = .ok (.iload_n 2, 1) := by decide +kernel
theorem dX12_plays_48 : decode cX12_plays 48 = .ok (.ifCond .ne 17, 3) := by decide +kernel
theorem dX12_plays_51 : decode cX12_plays 51 = .ok (.aload_n 0, 1) := by decide +kernel
theorem dX12_plays_52 : decode cX12_plays 52 = .ok (.getfield 13, 3) := by decide +kernel
theorem dX12_plays_55 : decode cX12_plays 55 = .ok (.bipush 13, 2) := by decide +kernel
theorem dX12_plays_57 : decode cX12_plays 57 = .ok (.iload 5, 2) := by decide +kernel
theorem dX12_plays_59 : decode cX12_plays 59 = .ok (.iadd, 1) := by decide +kernel
theorem dX12_plays_60 : decode cX12_plays 60 = .ok (.iaload, 1) := by decide +kernel
theorem dX12_plays_61 : decode cX12_plays 61 = .ok (.i2l, 1) := by decide +kernel
theorem dX12_plays_62 : decode cX12_plays 62 = .ok (.goto 4, 3) := by decide +kernel
theorem dX12_plays_65 : decode cX12_plays 65 = .ok (.lconst 0, 1) := by decide +kernel
theorem dX12_plays_66 : decode cX12_plays 66 = .ok (.lconst 1, 1) := by decide +kernel
theorem dX12_plays_67 : decode cX12_plays 67 = .ok (.invokevirtual 218, 3) := by decide +kernel
theorem dX12_plays_70 : decode cX12_plays 70 = .ok (.aload_n 0, 1) := by decide +kernel
theorem dX12_plays_71 : decode cX12_plays 71 = .ok (.iload 5, 2) := by decide +kernel
theorem dX12_plays_73 : decode cX12_plays 73 = .ok (.iconst 0, 1) := by decide +kernel
theorem dX12_plays_74 : decode cX12_plays 74 = .ok (.invokevirtual 187, 3) := by decide +kernel
theorem dX12_plays_77 : decode cX12_plays 77 = .ok (.ifCond .ne 27, 3) := by decide +kernel
theorem dX12_plays_80 : decode cX12_plays 80 = .ok (.iload_n 3, 1) := by decide +kernel
theorem dX12_plays_81 : decode cX12_plays 81 = .ok (.iload 5, 2) := by decide +kernel
theorem dX12_plays_83 : decode cX12_plays 83 = .ok (.invokestatic 222, 3) := by decide +kernel
theorem dX12_plays_86 : decode cX12_plays 86 = .ok (.ifCond .ne 6, 3) := by decide +kernel
theorem dX12_plays_89 : decode cX12_plays 89 = .ok (.goto 15, 3) := by decide +kernel
theorem dX12_plays_92 : decode cX12_plays 92 = .ok (.aload_n 0, 1) := by decide +kernel
theorem dX12_plays_93 : decode cX12_plays 93 = .ok (.getfield 43, 3) := by decide +kernel
theorem dX12_plays_96 : decode cX12_plays 96 = .ok (.iload 5, 2) := by decide +kernel
theorem dX12_plays_98 : decode cX12_plays 98 = .ok (.iload 4, 2) := by decide +kernel
theorem dX12_plays_100 : decode cX12_plays 100 = .ok (.iastore, 1) := by decide +kernel
theorem dX12_plays_101 : decode cX12_plays 101 = .ok (.iinc 4 1, 3) := by decide +kernel
theorem dX12_plays_104 : decode cX12_plays 104 = .ok (.iinc 5 1, 3) := by decide +kernel
theorem dX12_plays_107 : decode cX12_plays 107 = .ok (.goto (-92), 3) := by decide +kernel
theorem dX12_plays_110 : decode cX12_plays 110 = .ok (.iload_n 1, 1) := by decide +kernel
theorem dX12_plays_111 : decode cX12_plays 111 = .ok (.ifCond .ne 7, 3) := by decide +kernel
theorem dX12_plays_114 : decode cX12_plays 114 = .ok (.lconst 1, 1) := by decide +kernel
theorem dX12_plays_115 : decode cX12_plays 115 = .ok (.goto 5, 3) := by decide +kernel
theorem dX12_plays_118 : decode cX12_plays 118 = .ok (.iload_n 1, 1) := by decide +kernel
theorem dX12_plays_119 : decode cX12_plays 119 = .ok (.i2l, 1) := by decide +kernel
theorem dX12_plays_120 : decode cX12_plays 120 = .ok (.lstore 5, 2) := by decide +kernel
theorem dX12_plays_122 : decode cX12_plays 122 = .ok (.iload_n 1, 1) := by decide +kernel
theorem dX12_plays_123 : decode cX12_plays 123 = .ok (.ifCond .ne 7, 3) := by decide +kernel
theorem dX12_plays_126 : decode cX12_plays 126 = .ok (.lconst 1, 1) := by decide +kernel
theorem dX12_plays_127 : decode cX12_plays 127 = .ok (.goto 7, 3) := by decide +kernel
theorem dX12_plays_130 : decode cX12_plays 130 = .ok (.iload_n 1, 1) := by decide +kernel
theorem dX12_plays_131 : decode cX12_plays 131 = .ok (.iconst 1, 1) := by decide +kernel
theorem dX12_plays_132 : decode cX12_plays 132 = .ok (.isub, 1) := by decide +kernel
theorem dX12_plays_133 : decode cX12_plays 133 = .ok (.i2l, 1) := by decide +kernel
theorem dX12_plays_134 : decode cX12_plays 134 = .ok (.lstore 7, 2) := by decide +kernel
theorem dX12_plays_136 : decode cX12_plays 136 = .ok (.iconst 0, 1) := by decide +kernel
theorem dX12_plays_137 : decode cX12_plays 137 = .ok (.istore 9, 2) := by decide +kernel
theorem dX12_plays_139 : decode cX12_plays 139 = .ok (.iload 9, 2) := by decide +kernel
theorem dX12_plays_141 : decode cX12_plays 141 = .ok (.aload_n 0, 1) := by decide +kernel
theorem dX12_plays_142 : decode cX12_plays 142 = .ok (.getfield 13, 3) := by decide +kernel
theorem dX12_plays_145 : decode cX12_plays 145 = .ok (.iconst 0, 1) := by decide +kernel
theorem dX12_plays_146 : decode cX12_plays 146 = .ok (.iaload, 1) := by decide +kernel
theorem dX12_plays_147 : decode cX12_plays 147 = .ok (.if_icmp .ge 271, 3) := by decide +kernel
theorem dX12_plays_150 : decode cX12_plays 150 = .ok (.aload_n 0, 1) := by decide +kernel
theorem dX12_plays_151 : decode cX12_plays 151 = .ok (.getfield 43, 3) := by decide +kernel
theorem dX12_plays_154 : decode cX12_plays 154 = .ok (.iload 9, 2) := by decide +kernel
theorem dX12_plays_156 : decode cX12_plays 156 = .ok (.iaload, 1) := by decide +kernel
theorem dX12_plays_157 : decode cX12_plays 157 = .ok (.ifCond .ge 6, 3) := by decide +kernel
theorem dX12_plays_160 : decode cX12_plays 160 = .ok (.goto 252, 3) := by decide +kernel
theorem dX12_plays_163 : decode cX12_plays 163 = .ok (.iconst 0, 1) := by decide +kernel
theorem dX12_plays_164 : decode cX12_plays 164 = .ok (.istore 10, 2) := by decide +kernel
theorem dX12_plays_166 : decode cX12_plays 166 = .ok (.iload 10, 2) := by decide +kernel
theorem dX12_plays_168 : decode cX12_plays 168 = .ok (.iload 4, 2) := by decide +kernel
theorem dX12_plays_170 : decode cX12_plays 170 = .ok (.if_icmp .gt 25, 3) := by decide +kernel
theorem dX12_plays_173 : decode cX12_plays 173 = .ok (.aload_n 0, 1) := by decide +kernel
theorem dX12_plays_174 : decode cX12_plays 174 = .ok (.getfield 55, 3) := by decide +kernel
theorem dX12_plays_177 : decode cX12_plays 177 = .ok (.aload_n 0, 1) := by decide +kernel
theorem dX12_plays_178 : decode cX12_plays 178 = .ok (.getfield 43, 3) := by decide +kernel
theorem dX12_plays_181 : decode cX12_plays 181 = .ok (.iload 9, 2) := by decide +kernel
theorem dX12_plays_183 : decode cX12_plays 183 = .ok (.iaload, 1) := by decide +kernel
theorem dX12_plays_184 : decode cX12_plays 184 = .ok (.aaload, 1) := by decide +kernel
theorem dX12_plays_185 : decode cX12_plays 185 = .ok (.iload 10, 2) := by decide +kernel
theorem dX12_plays_187 : decode cX12_plays 187 = .ok (.lconst 0, 1) := by decide +kernel
theorem dX12_plays_188 : decode cX12_plays 188 = .ok (.lastore, 1) := by decide +kernel
theorem dX12_plays_189 : decode cX12_plays 189 = .ok (.iinc 10 1, 3) := by decide +kernel
theorem dX12_plays_192 : decode cX12_plays 192 = .ok (.goto (-26), 3) := by decide +kernel
theorem dX12_plays_195 : decode cX12_plays 195 = .ok (.lconst 0, 1) := by decide +kernel
theorem dX12_plays_196 : decode cX12_plays 196 = .ok (.lstore 10, 2) := by decide +kernel
theorem dX12_plays_198 : decode cX12_plays 198 = .ok (.iconst 0, 1) := by decide +kernel
theorem dX12_plays_199 : decode cX12_plays 199 = .ok (.istore 12, 2) := by decide +kernel
theorem dX12_plays_201 : decode cX12_plays 201 = .ok (.iload 12, 2) := by decide +kernel
theorem dX12_plays_203 : decode cX12_plays 203 = .ok (.aload_n 0, 1) := by decide +kernel
theorem dX12_plays_204 : decode cX12_plays 204 = .ok (.getfield 13, 3) := by decide +kernel
theorem dX12_plays_207 : decode cX12_plays 207 = .ok (.bipush 25, 2) := by decide +kernel
theorem dX12_plays_209 : decode cX12_plays 209 = .ok (.iload 9, 2) := by decide +kernel
theorem dX12_plays_211 : decode cX12_plays 211 = .ok (.iadd, 1) := by decide +kernel
theorem dX12_plays_212 : decode cX12_plays 212 = .ok (.iaload, 1) := by decide +kernel
theorem dX12_plays_213 : decode cX12_plays 213 = .ok (.if_icmp .ge 148, 3) := by decide +kernel
theorem dX12_plays_216 : decode cX12_plays 216 = .ok (.aload_n 0, 1) := by decide +kernel
theorem dX12_plays_217 : decode cX12_plays 217 = .ok (.iload 9, 2) := by decide +kernel
theorem dX12_plays_219 : decode cX12_plays 219 = .ok (.iconst 3, 1) := by decide +kernel
theorem dX12_plays_220 : decode cX12_plays 220 = .ok (.invokevirtual 187, 3) := by decide +kernel
theorem dX12_plays_223 : decode cX12_plays 223 = .ok (.ifCond .ne 18, 3) := by decide +kernel
theorem dX12_plays_226 : decode cX12_plays 226 = .ok (.aload_n 0, 1) := by decide +kernel
theorem dX12_plays_227 : decode cX12_plays 227 = .ok (.getfield 40, 3) := by decide +kernel
theorem dX12_plays_230 : decode cX12_plays 230 = .ok (.iload 9, 2) := by decide +kernel
theorem dX12_plays_232 : decode cX12_plays 232 = .ok (.iaload, 1) := by decide +kernel
theorem dX12_plays_233 : decode cX12_plays 233 = .ok (.iload 12, 2) := by decide +kernel
theorem dX12_plays_235 : decode cX12_plays 235 = .ok (.if_icmp .eq 6, 3) := by decide +kernel
theorem dX12_plays_238 : decode cX12_plays 238 = .ok (.goto 117, 3) := by decide +kernel
theorem dX12_plays_241 : decode cX12_plays 241 = .ok (.aload_n 0, 1) := by decide +kernel
theorem dX12_plays_242 : decode cX12_plays 242 = .ok (.iload 9, 2) := by decide +kernel
theorem dX12_plays_244 : decode cX12_plays 244 = .ok (.iconst 3, 1) := by decide +kernel
theorem dX12_plays_245 : decode cX12_plays 245 = .ok (.invokevirtual 187, 3) := by decide +kernel
theorem dX12_plays_248 : decode cX12_plays 248 = .ok (.ifCond .eq 15, 3) := by decide +kernel
theorem dX12_plays_251 : decode cX12_plays 251 = .ok (.aload_n 0, 1) := by decide +kernel
theorem dX12_plays_252 : decode cX12_plays 252 = .ok (.iload 9, 2) := by decide +kernel
theorem dX12_plays_254 : decode cX12_plays 254 = .ok (.iload 12, 2) := by decide +kernel
theorem dX12_plays_256 : decode cX12_plays 256 = .ok (.invokevirtual 201, 3) := by decide +kernel
theorem dX12_plays_259 : decode cX12_plays 259 = .ok (.i2l, 1) := by decide +kernel
theorem dX12_plays_260 : decode cX12_plays 260 = .ok (.goto 4, 3) := by decide +kernel
theorem dX12_plays_263 : decode cX12_plays 263 = .ok (.lconst 1, 1) := by decide +kernel
theorem dX12_plays_264 : decode cX12_plays 264 = .ok (.lstore 13, 2) := by decide +kernel
theorem dX12_plays_266 : decode cX12_plays 266 = .ok (.aload_n 0, 1) := by decide +kernel
theorem dX12_plays_267 : decode cX12_plays 267 = .ok (.iload 9, 2) := by decide +kernel
theorem dX12_plays_269 : decode cX12_plays 269 = .ok (.iload 12, 2) := by decide +kernel
theorem dX12_plays_271 : decode cX12_plays 271 = .ok (.invokevirtual 197, 3) := by decide +kernel
theorem dX12_plays_274 : decode cX12_plays 274 = .ok (.istore 15, 2) := by decide +kernel
theorem dX12_plays_276 : decode cX12_plays 276 = .ok (.lload 10, 2) := by decide +kernel
theorem dX12_plays_278 : decode cX12_plays 278 = .ok (.lload 13, 2) := by decide +kernel
theorem dX12_plays_280 : decode cX12_plays 280 = .ok (.ladd, 1) := by decide +kernel
theorem dX12_plays_281 : decode cX12_plays 281 = .ok (.lstore 10, 2) := by decide +kernel
theorem dX12_plays_283 : decode cX12_plays 283 = .ok (.aload_n 0, 1) := by decide +kernel
theorem dX12_plays_284 : decode cX12_plays 284 = .ok (.getfield 43, 3) := by decide +kernel
theorem dX12_plays_287 : decode cX12_plays 287 = .ok (.iload 15, 2) := by decide +kernel
theorem dX12_plays_289 : decode cX12_plays 289 = .ok (.iaload, 1) := by decide +kernel
theorem dX12_plays_290 : decode cX12_plays 290 = .ok (.ifCond .lt 34, 3) := by decide +kernel
theorem dX12_plays_293 : decode cX12_plays 293 = .ok (.aload_n 0, 1) := by decide +kernel
theorem dX12_plays_294 : decode cX12_plays 294 = .ok (.getfield 55, 3) := by decide +kernel
theorem dX12_plays_297 : decode cX12_plays 297 = .ok (.aload_n 0, 1) := by decide +kernel
theorem dX12_plays_298 : decode cX12_plays 298 = .ok (.getfield 43, 3) := by decide +kernel
theorem dX12_plays_301 : decode cX12_plays 301 = .ok (.iload 9, 2) := by decide +kernel
theorem dX12_plays_303 : decode cX12_plays 303 = .ok (.iaload, 1) := by decide +kernel
theorem dX12_plays_304 : decode cX12_plays 304 = .ok (.aaload, 1) := by decide +kernel
theorem dX12_plays_305 : decode cX12_plays 305 = .ok (.aload_n 0, 1) := by decide +kernel
theorem dX12_plays_306 : decode cX12_plays 306 = .ok (.getfield 43, 3) := by decide +kernel
theorem dX12_plays_309 : decode cX12_plays 309 = .ok (.iload 15, 2) := by decide +kernel
theorem dX12_plays_311 : decode cX12_plays 311 = .ok (.iaload, 1) := by decide +kernel
theorem dX12_plays_312 : decode cX12_plays 312 = .ok (.dup2, 1) := by decide +kernel
theorem dX12_plays_313 : decode cX12_plays 313 = .ok (.laload, 1) := by decide +kernel
theorem dX12_plays_314 : decode cX12_plays 314 = .ok (.lload 7, 2) := by decide +kernel
theorem dX12_plays_316 : decode cX12_plays 316 = .ok (.lload 13, 2) := by decide +kernel
theorem dX12_plays_318 : decode cX12_plays 318 = .ok (.lmul, 1) := by decide +kernel
theorem dX12_plays_319 : decode cX12_plays 319 = .ok (.lsub, 1) := by decide +kernel
theorem dX12_plays_320 : decode cX12_plays 320 = .ok (.lastore, 1) := by decide +kernel
theorem dX12_plays_321 : decode cX12_plays 321 = .ok (.goto 34, 3) := by decide +kernel
theorem dX12_plays_324 : decode cX12_plays 324 = .ok (.aload_n 0, 1) := by decide +kernel
theorem dX12_plays_325 : decode cX12_plays 325 = .ok (.getfield 55, 3) := by decide +kernel
theorem dX12_plays_328 : decode cX12_plays 328 = .ok (.aload_n 0, 1) := by decide +kernel
theorem dX12_plays_329 : decode cX12_plays 329 = .ok (.getfield 43, 3) := by decide +kernel
theorem dX12_plays_332 : decode cX12_plays 332 = .ok (.iload 9, 2) := by decide +kernel
theorem dX12_plays_334 : decode cX12_plays 334 = .ok (.iaload, 1) := by decide +kernel
theorem dX12_plays_335 : decode cX12_plays 335 = .ok (.aaload, 1) := by decide +kernel
theorem dX12_plays_336 : decode cX12_plays 336 = .ok (.iload 4, 2) := by decide +kernel
theorem dX12_plays_338 : decode cX12_plays 338 = .ok (.dup2, 1) := by decide +kernel
theorem dX12_plays_339 : decode cX12_plays 339 = .ok (.laload, 1) := by decide +kernel
theorem dX12_plays_340 : decode cX12_plays 340 = .ok (.lload 7, 2) := by decide +kernel
theorem dX12_plays_342 : decode cX12_plays 342 = .ok (.lload 13, 2) := by decide +kernel
theorem dX12_plays_344 : decode cX12_plays 344 = .ok (.lmul, 1) := by decide +kernel
theorem dX12_plays_345 : decode cX12_plays 345 = .ok (.aload_n 0, 1) := by decide +kernel
theorem dX12_plays_346 : decode cX12_plays 346 = .ok (.getfield 46, 3) := by decide +kernel
theorem dX12_plays_349 : decode cX12_plays 349 = .ok (.iload 15, 2) := by decide +kernel
theorem dX12_plays_351 : decode cX12_plays 351 = .ok (.laload, 1) := by decide +kernel
theorem dX12_plays_352 : decode cX12_plays 352 = .ok (.lmul, 1) := by decide +kernel
theorem dX12_plays_353 : decode cX12_plays 353 = .ok (.ladd, 1) := by decide +kernel
theorem dX12_plays_354 : decode cX12_plays 354 = .ok (.lastore, 1) := by decide +kernel
theorem dX12_plays_355 : decode cX12_plays 355 = .ok (.iinc 12 1, 3) := by decide +kernel
theorem dX12_plays_358 : decode cX12_plays 358 = .ok (.goto (-157), 3) := by decide +kernel
theorem dX12_plays_361 : decode cX12_plays 361 = .ok (.aload_n 0, 1) := by decide +kernel
theorem dX12_plays_362 : decode cX12_plays 362 = .ok (.getfield 55, 3) := by decide +kernel
theorem dX12_plays_365 : decode cX12_plays 365 = .ok (.aload_n 0, 1) := by decide +kernel
theorem dX12_plays_366 : decode cX12_plays 366 = .ok (.getfield 43, 3) := by decide +kernel
theorem dX12_plays_369 : decode cX12_plays 369 = .ok (.iload 9, 2) := by decide +kernel
theorem dX12_plays_371 : decode cX12_plays 371 = .ok (.iaload, 1) := by decide +kernel
theorem dX12_plays_372 : decode cX12_plays 372 = .ok (.aaload, 1) := by decide +kernel
theorem dX12_plays_373 : decode cX12_plays 373 = .ok (.aload_n 0, 1) := by decide +kernel
theorem dX12_plays_374 : decode cX12_plays 374 = .ok (.getfield 43, 3) := by decide +kernel
theorem dX12_plays_377 : decode cX12_plays 377 = .ok (.iload 9, 2) := by decide +kernel
theorem dX12_plays_379 : decode cX12_plays 379 = .ok (.iaload, 1) := by decide +kernel
theorem dX12_plays_380 : decode cX12_plays 380 = .ok (.dup2, 1) := by decide +kernel
theorem dX12_plays_381 : decode cX12_plays 381 = .ok (.laload, 1) := by decide +kernel
theorem dX12_plays_382 : decode cX12_plays 382 = .ok (.lload 5, 2) := by decide +kernel
theorem dX12_plays_384 : decode cX12_plays 384 = .ok (.lload 10, 2) := by decide +kernel
theorem dX12_plays_386 : decode cX12_plays 386 = .ok (.lmul, 1) := by decide +kernel
theorem dX12_plays_387 : decode cX12_plays 387 = .ok (.ladd, 1) := by decide +kernel
theorem dX12_plays_388 : decode cX12_plays 388 = .ok (.lastore, 1) := by decide +kernel
theorem dX12_plays_389 : decode cX12_plays 389 = .ok (.aload_n 0, 1) := by decide +kernel
theorem dX12_plays_390 : decode cX12_plays 390 = .ok (.getfield 55, 3) := by decide +kernel
theorem dX12_plays_393 : decode cX12_plays 393 = .ok (.aload_n 0, 1) := by decide +kernel
theorem dX12_plays_394 : decode cX12_plays 394 = .ok (.getfield 43, 3) := by decide +kernel
theorem dX12_plays_397 : decode cX12_plays 397 = .ok (.iload 9, 2) := by decide +kernel
theorem dX12_plays_399 : decode cX12_plays 399 = .ok (.iaload, 1) := by decide +kernel
theorem dX12_plays_400 : decode cX12_plays 400 = .ok (.aaload, 1) := by decide +kernel
theorem dX12_plays_401 : decode cX12_plays 401 = .ok (.iload 4, 2) := by decide +kernel
theorem dX12_plays_403 : decode cX12_plays 403 = .ok (.dup2, 1) := by decide +kernel
theorem dX12_plays_404 : decode cX12_plays 404 = .ok (.laload, 1) := by decide +kernel
theorem dX12_plays_405 : decode cX12_plays 405 = .ok (.iload_n 2, 1) := by decide +kernel
theorem dX12_plays_406 : decode cX12_plays 406 = .ok (.i2l, 1) := by decide +kernel
theorem dX12_plays_407 : decode cX12_plays 407 = .ok (.lload 10, 2) := by decide +kernel
theorem dX12_plays_409 : decode cX12_plays 409 = .ok (.lmul, 1) := by decide +kernel
theorem dX12_plays_410 : decode cX12_plays 410 = .ok (.ladd, 1) := by decide +kernel
theorem dX12_plays_411 : decode cX12_plays 411 = .ok (.lastore, 1) := by decide +kernel
theorem dX12_plays_412 : decode cX12_plays 412 = .ok (.iinc 9 1, 3) := by decide +kernel
theorem dX12_plays_415 : decode cX12_plays 415 = .ok (.goto (-276), 3) := by decide +kernel
theorem dX12_plays_418 : decode cX12_plays 418 = .ok (.aload_n 0, 1) := by decide +kernel
theorem dX12_plays_419 : decode cX12_plays 419 = .ok (.iload 4, 2) := by decide +kernel
theorem dX12_plays_421 : decode cX12_plays 421 = .ok (.invokevirtual 225, 3) := by decide +kernel
theorem dX12_plays_424 : decode cX12_plays 424 = .ok (.lstore 9, 2) := by decide +kernel
theorem dX12_plays_426 : decode cX12_plays 426 = .ok (.iconst 0, 1) := by decide +kernel
theorem dX12_plays_427 : decode cX12_plays 427 = .ok (.istore 11, 2) := by decide +kernel
theorem dX12_plays_429 : decode cX12_plays 429 = .ok (.iload 11, 2) := by decide +kernel
theorem dX12_plays_431 : decode cX12_plays 431 = .ok (.aload_n 0, 1) := by decide +kernel
theorem dX12_plays_432 : decode cX12_plays 432 = .ok (.getfield 13, 3) := by decide +kernel
theorem dX12_plays_435 : decode cX12_plays 435 = .ok (.iconst 0, 1) := by decide +kernel
theorem dX12_plays_436 : decode cX12_plays 436 = .ok (.iaload, 1) := by decide +kernel
theorem dX12_plays_437 : decode cX12_plays 437 = .ok (.if_icmp .ge 81, 3) := by decide +kernel
theorem dX12_plays_440 : decode cX12_plays 440 = .ok (.aload_n 0, 1) := by decide +kernel
theorem dX12_plays_441 : decode cX12_plays 441 = .ok (.getfield 43, 3) := by decide +kernel
theorem dX12_plays_444 : decode cX12_plays 444 = .ok (.iload 11, 2) := by decide +kernel
theorem dX12_plays_446 : decode cX12_plays 446 = .ok (.iaload, 1) := by decide +kernel
theorem dX12_plays_447 : decode cX12_plays 447 = .ok (.ifCond .lt 65, 3) := by decide +kernel
theorem dX12_plays_450 : decode cX12_plays 450 = .ok (.aload_n 0, 1) := by decide +kernel
theorem dX12_plays_451 : decode cX12_plays 451 = .ok (.iload 11, 2) := by decide +kernel
theorem dX12_plays_453 : decode cX12_plays 453 = .ok (.lload 9, 2) := by decide +kernel
theorem dX12_plays_455 : decode cX12_plays 455 = .ok (.lconst 0, 1) := by decide +kernel
theorem dX12_plays_456 : decode cX12_plays 456 = .ok (.lcmp, 1) := by decide +kernel
theorem dX12_plays_457 : decode cX12_plays 457 = .ok (.ifCond .ge 22, 3) := by decide +kernel
theorem dX12_plays_479 : decode cX12_plays 479 = .ok (.aload_n 0, 1) := by decide +kernel
theorem dX12_plays_480 : decode cX12_plays 480 = .ok (.getfield 55, 3) := by decide +kernel
theorem dX12_plays_483 : decode cX12_plays 483 = .ok (.aload_n 0, 1) := by decide +kernel
theorem dX12_plays_484 : decode cX12_plays 484 = .ok (.getfield 43, 3) := by decide +kernel
theorem dX12_plays_487 : decode cX12_plays 487 = .ok (.iload 11, 2) := by decide +kernel
theorem dX12_plays_489 : decode cX12_plays 489 = .ok (.iaload, 1) := by decide +kernel
theorem dX12_plays_490 : decode cX12_plays 490 = .ok (.aaload, 1) := by decide +kernel
theorem dX12_plays_491 : decode cX12_plays 491 = .ok (.iload 4, 2) := by decide +kernel
theorem dX12_plays_493 : decode cX12_plays 493 = .ok (.laload, 1) := by decide +kernel
theorem dX12_plays_494 : decode cX12_plays 494 = .ok (.lload 9, 2) := by decide +kernel
theorem dX12_plays_496 : decode cX12_plays 496 = .ok (.lconst 0, 1) := by decide +kernel
theorem dX12_plays_497 : decode cX12_plays 497 = .ok (.lcmp, 1) := by decide +kernel
theorem dX12_plays_498 : decode cX12_plays 498 = .ok (.ifCond .ge 9, 3) := by decide +kernel
theorem dX12_plays_507 : decode cX12_plays 507 = .ok (.lload 9, 2) := by decide +kernel
theorem dX12_plays_509 : decode cX12_plays 509 = .ok (.invokevirtual 218, 3) := by decide +kernel
theorem dX12_plays_512 : decode cX12_plays 512 = .ok (.iinc 11 1, 3) := by decide +kernel
theorem dX12_plays_515 : decode cX12_plays 515 = .ok (.goto (-86), 3) := by decide +kernel
theorem dX12_plays_518 : decode cX12_plays 518 = .ok (.return_, 1) := by decide +kernel
set_option maxHeartbeats 4000000 in
set_option maxRecDepth 100000 in
theorem c_X12_lays (l : Launch) (D : va_G) (g : Nat → ClassId) (sz : Nat) (mm : Nat) (p0 : Int32) (a0 : Int64) (b0 : Int64) (i_thrown : Int32) (m_s : Nat) (m_spare : Nat) (m_kept : Nat) (m_undone : Nat) (m_triedWay : Nat) (m_isKept : Nat) (i_undoMany : Int32) (m_tape : Nat) (i_length : Int32) (i_size : Int32) (i_p : Int32) (i_at : Int32) (i_token : Int32) (i_number : Int32) (i_letterMany : Int32) (i_fault : Int32) (i_faultAt : Int32) (m_letters : Nat) (i_isKnown : Int32) (m_choice : Nat) (m_row : Nat) (m_up : Nat) (m_low : Nat) (m_m : Nat) (m_bestUp : Nat) (m_bestLow : Nat) (m_replyUp : Nat) (m_replyLow : Nat) (m_worthUp : Nat) (m_worthLow : Nat) (m_bestWay : Nat) (i_seed : Int32) (m_told : Nat) (i_toldMany : Int32) (uf : Nat → Int64) (lof : Nat → Int64) (h_p0 : 0 ≤ (p0 : Int32).toInt ∧ (p0 : Int32).toInt ≤ 11) (h_i_undoMany : 0 ≤ (i_undoMany : Int32).toInt ∧ (i_undoMany : Int32).toInt ≤ 8) (h_i_length : 0 ≤ (i_length : Int32).toInt ∧ (i_length : Int32).toInt ≤ 440) (h_i_size : 0 ≤ (i_size : Int32).toInt ∧ (i_size : Int32).toInt ≤ 440) (h_i_p : 0 ≤ (i_p : Int32).toInt ∧ (i_p : Int32).toInt ≤ 440) (h_i_at : 0 ≤ (i_at : Int32).toInt ∧ (i_at : Int32).toInt ≤ 440) (h_i_token : 0 ≤ (i_token : Int32).toInt ∧ (i_token : Int32).toInt ≤ 4) (h_i_number : 0 ≤ (i_number : Int32).toInt ∧ (i_number : Int32).toInt ≤ 814) (h_i_letterMany : (-440) ≤ (i_letterMany : Int32).toInt ∧ (i_letterMany : Int32).toInt ≤ 440) (h_i_faultAt : 0 ≤ (i_faultAt : Int32).toInt ∧ (i_faultAt : Int32).toInt ≤ 440) (h_i_isKnown : 0 ≤ (i_isKnown : Int32).toInt ∧ (i_isKnown : Int32).toInt ≤ 1) (h_i_toldMany : 0 ≤ (i_toldMany : Int32).toInt ∧ (i_toldMany : Int32).toInt ≤ 900) (hb0 : 0 < (b0 : Int64).toInt) : Met l yX12_lays (.code yX12_lays cX12_lays 8 none :: wsL_law) ({ frames := 1, cells := 0, slots := 0, locals := 29 }) (va_Pc [.ref mm, .int p0, .long a0, .long b0] (fun U => U.heap.size = sz ∧ va_P D vwCl [(mm, .inr (12, (.int i_thrown :: .ref m_s :: .ref m_spare :: .ref m_kept :: .ref m_undone :: .ref m_triedWay :: .ref m_isKept :: .int i_undoMany :: .ref m_tape :: .int i_length :: .int i_size :: .int i_p :: .int i_at :: .int i_token :: .int i_number :: .int i_letterMany :: .int i_fault :: .int i_faultAt :: .ref m_letters :: .int i_isKnown :: .ref m_choice :: .ref m_row :: .ref m_up :: .ref m_low :: .ref m_m :: .ref m_bestUp :: .ref m_bestLow :: .ref m_replyUp :: .ref m_replyLow :: .ref m_worthUp :: .ref m_worthLow :: .ref m_bestWay :: .int i_seed :: .ref m_told :: .int i_toldMany :: []))), (m_up, .inl (g 1, 12, .inr (.inl uf))), (m_low, .inl (g 1, 12, .inr (.inl lof)))] U.heap ∧ va_K D vwCl (TY g) U ∧ va_D (fun _ => True) [(mm, .inr (12, (.int i_thrown :: .ref m_s :: .ref m_spare :: .ref m_kept :: .ref m_undone :: .ref m_triedWay :: .ref m_isKept :: .int i_undoMany :: .ref m_tape :: .int i_length :: .int i_size :: .int i_p :: .int i_at :: .int i_token :: .int i_number :: .int i_letterMany :: .int i_fault :: .int i_faultAt :: .ref m_letters :: .int i_isKnown :: .ref m_choice :: .ref m_row :: .ref m_up :: .ref m_low :: .ref m_m :: .ref m_bestUp :: .ref m_bestLow :: .ref m_replyUp :: .ref m_replyLow :: .ref m_worthUp :: .ref m_worthLow :: .ref m_bestWay :: .int i_seed :: .ref m_told :: .int i_toldMany :: []))), (m_up, .inl (g 1, 12, .inr (.inl uf))), (m_low, .inl (g 1, 12, .inr (.inl lof)))])) (va_Qv (fun (_ : Unit) => True) (fun _ t => ∃ ouf : Nat → Int64, ∃ olof : Nat → Int64, (LYS uf lof ouf olof (p0 : Int32).toInt.toNat (a0 : Int64).toInt (b0 : Int64).toInt) ∧ va_P D vwCl [(mm, .inr (12, (.int i_thrown :: .ref m_s :: .ref m_spare :: .ref m_kept :: .ref m_undone :: .ref m_triedWay :: .ref m_isKept :: .int i_undoMany :: .ref m_tape :: .int i_length :: .int i_size :: .int i_p :: .int i_at :: .int i_token :: .int i_number :: .int i_letterMany :: .int i_fault :: .int i_faultAt :: .ref m_letters :: .int i_isKnown :: .ref m_choice :: .ref m_row :: .ref m_up :: .ref m_low :: .ref m_m :: .ref m_bestUp :: .ref m_bestLow :: .ref m_replyUp :: .ref m_replyLow :: .ref m_worthUp :: .ref m_worthLow :: .ref m_bestWay :: .int i_seed :: .ref m_told :: .int i_toldMany :: []))), (m_up, .inl (g 1, 12, .inr (.inl ouf))), (m_low, .inl (g 1, 12, .inr (.inl olof)))] t.heap ∧ va_D (va_A [(mm, .inr (12, (.int i_thrown :: .ref m_s :: .ref m_spare :: .ref m_kept :: .ref m_undone :: .ref m_triedWay :: .ref m_isKept :: .int i_undoMany :: .ref m_tape :: .int i_length :: .int i_size :: .int i_p :: .int i_at :: .int i_token :: .int i_number :: .int i_letterMany :: .int i_fault :: .int i_faultAt :: .ref m_letters :: .int i_isKnown :: .ref m_choice :: .ref m_row :: .ref m_up :: .ref m_low :: .ref m_m :: .ref m_bestUp :: .ref m_bestLow :: .ref m_replyUp :: .ref m_replyLow :: .ref m_worthUp :: .ref m_worthLow :: .ref m_bestWay :: .int i_seed :: .ref m_told :: .int i_toldMany :: []))), (m_up, .inl (g 1, 12, .inr (.inl uf))), (m_low, .inl (g 1, 12, .inr (.inl lof)))] sz) [(mm, .inr (12, (.int i_thrown :: .ref m_s :: .ref m_spare :: .ref m_kept :: .ref m_undone :: .ref m_triedWay :: .ref m_isKept :: .int i_undoMany :: .ref m_tape :: .int i_length :: .int i_size :: .int i_p :: .int i_at :: .int i_token :: .int i_number :: .int i_letterMany :: .int i_fault :: .int i_faultAt :: .ref m_letters :: .int i_isKnown :: .ref m_choice :: .ref m_row :: .ref m_up :: .ref m_low :: .ref m_m :: .ref m_bestUp :: .ref m_bestLow :: .ref m_replyUp :: .ref m_replyLow :: .ref m_worthUp :: .ref m_worthLow :: .ref m_bestWay :: .int i_seed :: .ref m_told :: .int i_toldMany :: []))), (m_up, .inl (g 1, 12, .inr (.inl ouf))), (m_low, .inl (g 1, 12, .inr (.inl olof)))]) (va_A [(mm, .inr (12, (.int i_thrown :: .ref m_s :: .ref m_spare :: .ref m_kept :: .ref m_undone :: .ref m_triedWay :: .ref m_isKept :: .int i_undoMany :: .ref m_tape :: .int i_length :: .int i_size :: .int i_p :: .int i_at :: .int i_token :: .int i_number :: .int i_letterMany :: .int i_fault :: .int i_faultAt :: .ref m_letters :: .int i_isKnown :: .ref m_choice :: .ref m_row :: .ref m_up :: .ref m_low :: .ref m_m :: .ref m_bestUp :: .ref m_bestLow :: .ref m_replyUp :: .ref m_replyLow :: .ref m_worthUp :: .ref m_worthLow :: .ref m_bestWay :: .int i_seed :: .ref m_told :: .int i_toldMany :: []))), (m_up, .inl (g 1, 12, .inr (.inl uf))), (m_low, .inl (g 1, 12, .inr (.inl lof)))] sz)) 0 0 (va_A [(mm, .inr (12, (.int i_thrown :: .ref m_s :: .ref m_spare :: .ref m_kept :: .ref m_undone :: .ref m_triedWay :: .ref m_isKept :: .int i_undoMany :: .ref m_tape :: .int i_length :: .int i_size :: .int i_p :: .int i_at :: .int i_token :: .int i_number :: .int i_letterMany :: .int i_fault :: .int i_faultAt :: .ref m_letters :: .int i_isKnown :: .ref m_choice :: .ref m_row :: .ref m_up :: .ref m_low :: .ref m_m :: .ref m_bestUp :: .ref m_bestLow :: .ref m_replyUp :: .ref m_replyLow :: .ref m_worthUp :: .ref m_worthLow :: .ref m_bestWay :: .int i_seed :: .ref m_told :: .int i_toldMany :: []))), (m_up, .inl (g 1, 12, .inr (.inl uf))), (m_low, .inl (g 1, 12, .inr (.inl lof)))] sz) := by
  refine Met.ofW (cc := cX12_lays) (maxL := 8) (ret := none) (by decide) rfl ?_
  intro p e s m args below meth c s₁ B hml hv
  obtain ⟨ha, hsz, hP, hK, hD0⟩ := hv
  have hx := B.exec
  have hb := B.bytes
  have hr := B.returns
  have hts0 := atoms_spec (ws := (.code yX12_lays cX12_lays 8 none :: wsL_law)) B.pre
  have hts : ∀ w ∈ wsL_law, w.before args s = true := fun w h => hts0 w (List.mem_cons_of_mem _ h)
  have hown : s.vm.findClass RX12 = some m.cls := findClass_of_methodNamed B.named
  have hlocks := B.notSynchronized
  subst hsz
  have hD := hD0.self (sz := s.heap.size)
  generalize hAe : va_A [(mm, .inr (12, (.int i_thrown :: .ref m_s :: .ref m_spare :: .ref m_kept :: .ref m_undone :: .ref m_triedWay :: .ref m_isKept :: .int i_undoMany :: .ref m_tape :: .int i_length :: .int i_size :: .int i_p :: .int i_at :: .int i_token :: .int i_number :: .int i_letterMany :: .int i_fault :: .int i_faultAt :: .ref m_letters :: .int i_isKnown :: .ref m_choice :: .ref m_row :: .ref m_up :: .ref m_low :: .ref m_m :: .ref m_bestUp :: .ref m_bestLow :: .ref m_replyUp :: .ref m_replyLow :: .ref m_worthUp :: .ref m_worthLow :: .ref m_bestWay :: .int i_seed :: .ref m_told :: .int i_toldMany :: []))), (m_up, .inl (g 1, 12, .inr (.inl uf))), (m_low, .inl (g 1, 12, .inr (.inl lof)))] s.heap.size = A at hD ⊢
  have hA : ∀ q : Nat, s.heap.size ≤ q → A q := fun q h => by rw [← hAe]; exact Or.inr h
  have hS : va_S A s.heap s.heap [] := va_S.rf
  have hP : va_P D vwCl [(mm, .inr (12, (.int i_thrown :: .ref m_s :: .ref m_spare :: .ref m_kept :: .ref m_undone :: .ref m_triedWay :: .ref m_isKept :: .int i_undoMany :: .ref m_tape :: .int i_length :: .int i_size :: .int i_p :: .int i_at :: .int i_token :: .int i_number :: .int i_letterMany :: .int i_fault :: .int i_faultAt :: .ref m_letters :: .int i_isKnown :: .ref m_choice :: .ref m_row :: .ref m_up :: .ref m_low :: .ref m_m :: .ref m_bestUp :: .ref m_bestLow :: .ref m_replyUp :: .ref m_replyLow :: .ref m_worthUp :: .ref m_worthLow :: .ref m_bestWay :: .int i_seed :: .ref m_told :: .int i_toldMany :: []))), (m_up, .inl (g 1, 12, .inr (.inl uf))), (m_low, .inl (g 1, 12, .inr (.inl lof)))] s.heap := hP
  refine W.eq (g2 := entryFrame m ([.ref mm, .int p0, .long a0, .long b0] : List Value).toArray 8) (by rw [ha]) ?_
  have hl := lv_entry ([.ref mm, .int p0, .long a0, .long b0]) (n := 8) (Nat.le_of_ble_eq_true rfl)
  rw [lg_entry_eq]
  generalize (lg_sl ([.ref mm, .int p0, .long a0, .long b0]) ++ List.replicate (8 - (lg_sl ([.ref mm, .int p0, .long a0, .long b0])).length) Slot.unset).toArray = ls at hl ⊢
  have hl : lv_has ls 8 [(0, .ref mm), (1, .int p0), (2, .long a0), (4, .long b0)] := hl
  refine lv_lload_n hx hb dX12_lays_0 rfl (lv_at hl 2 rfl) ?_
  refine lv_lload hx hb dX12_lays_1 (lv_at hl 3 rfl) ?_
  have hPc := hP.sub (ws' := []) [] rfl
  refine vp_callSl (va_Run.run (va_runS (As := [.long a0, .long b0]) (rest := []) ⟨hx, hb, hml, hown, hts⟩ (c_X12_divisor l D g a0 b0 hb0) (va_cwS 2 hts (tz_gS qw_131 qw_132 qw_3 qw_133) rfl rfl rfl (by decide +kernel) ⟨Nat.le_of_ble_eq_true rfl, Nat.le_of_ble_eq_true rfl⟩) ⟨tz_blS, tz_preS hPc hK⟩ rfl rfl hl.1 rfl (lv_room (Nat.le_of_ble_eq_true rfl)) dX12_lays_3 ⟨Nat.le_of_ble_eq_true rfl, Nat.le_of_ble_eq_true rfl⟩)) (fun r_8741 hw => ?_)
  have hw_8742_p0 : ¬ (r_8741 : Int64).toInt = 0 ∧ (r_8741 : Int64).toInt ∣ (a0 : Int64).toInt ∧ (r_8741 : Int64).toInt ∣ (b0 : Int64).toInt ∧ (0 ≤ (a0 : Int64).toInt → 0 < (r_8741 : Int64).toInt) := hw.2
  refine lv_lstore (lv' := [(6, .long r_8741), (0, .ref mm), (1, .int p0), (2, .long a0), (4, .long b0)]) hx hb dX12_lays_6 hl (by decide) rfl (fun ls hl => ?_)
  refine lv_aload_n hx hb dX12_lays_8 rfl (lv_at hl 1 rfl) ?_
  refine va_get (D := D) (ci := 12) (v := .ref m_up) (C := RX12) (T := TX12) (N := 35) hx hb hts inlX12 hown hK hP 0 rfl rfl 22 (by decide) (hts (Cond.fieldLink RX12 46 "ChanceRingsModel" "up" "[J") qw_134) (fun _ h9 => h9) rfl dX12_lays_9 ?_
  refine lv_iload_n hx hb dX12_lays_12 rfl (lv_at hl 2 rfl) ?_
  refine lv_lload_n hx hb dX12_lays_13 rfl (lv_at hl 3 rfl) ?_
  refine lv_lload hx hb dX12_lays_14 (lv_at hl 0 rfl) ?_
  have nzd_8743 : ¬ r_8741 = 0 := tl_ne0 hw_8742_p0.1
  refine lv_ldiv hx hb dX12_lays_16 nzd_8743 ?_
  refine lv_topl (fun w_8744 w_8744_e => ?_)
  refine va_last hx hb hK hP hD hS 1 1 rfl rfl (tr_in h_p0 (by decide) (by decide)) dX12_lays_17 (fun H locs hP hD hS => ?_)
  obtain ⟨f_8745, f_8745_e, hP, hD⟩ : ∃ FX : Nat → Int64, FX = (fun j9 => if j9 = (p0 : Int32).toNatClampNeg then w_8744 else uf j9) ∧ va_P D vwCl [(mm, .inr (12, (.int i_thrown :: .ref m_s :: .ref m_spare :: .ref m_kept :: .ref m_undone :: .ref m_triedWay :: .ref m_isKept :: .int i_undoMany :: .ref m_tape :: .int i_length :: .int i_size :: .int i_p :: .int i_at :: .int i_token :: .int i_number :: .int i_letterMany :: .int i_fault :: .int i_faultAt :: .ref m_letters :: .int i_isKnown :: .ref m_choice :: .ref m_row :: .ref m_up :: .ref m_low :: .ref m_m :: .ref m_bestUp :: .ref m_bestLow :: .ref m_replyUp :: .ref m_replyLow :: .ref m_worthUp :: .ref m_worthLow :: .ref m_bestWay :: .int i_seed :: .ref m_told :: .int i_toldMany :: []))), (m_up, .inl (g 1, 12, .inr (.inl FX))), (m_low, .inl (g 1, 12, .inr (.inl lof)))] H ∧ va_D A [(mm, .inr (12, (.int i_thrown :: .ref m_s :: .ref m_spare :: .ref m_kept :: .ref m_undone :: .ref m_triedWay :: .ref m_isKept :: .int i_undoMany :: .ref m_tape :: .int i_length :: .int i_size :: .int i_p :: .int i_at :: .int i_token :: .int i_number :: .int i_letterMany :: .int i_fault :: .int i_faultAt :: .ref m_letters :: .int i_isKnown :: .ref m_choice :: .ref m_row :: .ref m_up :: .ref m_low :: .ref m_m :: .ref m_bestUp :: .ref m_bestLow :: .ref m_replyUp :: .ref m_replyLow :: .ref m_worthUp :: .ref m_worthLow :: .ref m_bestWay :: .int i_seed :: .ref m_told :: .int i_toldMany :: []))), (m_up, .inl (g 1, 12, .inr (.inl FX))), (m_low, .inl (g 1, 12, .inr (.inl lof)))] := ⟨_, rfl, hP, hD⟩
  have hP : va_P D vwCl [(mm, .inr (12, (.int i_thrown :: .ref m_s :: .ref m_spare :: .ref m_kept :: .ref m_undone :: .ref m_triedWay :: .ref m_isKept :: .int i_undoMany :: .ref m_tape :: .int i_length :: .int i_size :: .int i_p :: .int i_at :: .int i_token :: .int i_number :: .int i_letterMany :: .int i_fault :: .int i_faultAt :: .ref m_letters :: .int i_isKnown :: .ref m_choice :: .ref m_row :: .ref m_up :: .ref m_low :: .ref m_m :: .ref m_bestUp :: .ref m_bestLow :: .ref m_replyUp :: .ref m_replyLow :: .ref m_worthUp :: .ref m_worthLow :: .ref m_bestWay :: .int i_seed :: .ref m_told :: .int i_toldMany :: []))), (m_up, .inl (g 1, 12, .inr (.inl f_8745))), (m_low, .inl (g 1, 12, .inr (.inl lof)))] H := hP
  have hD : va_D A [(mm, .inr (12, (.int i_thrown :: .ref m_s :: .ref m_spare :: .ref m_kept :: .ref m_undone :: .ref m_triedWay :: .ref m_isKept :: .int i_undoMany :: .ref m_tape :: .int i_length :: .int i_size :: .int i_p :: .int i_at :: .int i_token :: .int i_number :: .int i_letterMany :: .int i_fault :: .int i_faultAt :: .ref m_letters :: .int i_isKnown :: .ref m_choice :: .ref m_row :: .ref m_up :: .ref m_low :: .ref m_m :: .ref m_bestUp :: .ref m_bestLow :: .ref m_replyUp :: .ref m_replyLow :: .ref m_worthUp :: .ref m_worthLow :: .ref m_bestWay :: .int i_seed :: .ref m_told :: .int i_toldMany :: []))), (m_up, .inl (g 1, 12, .inr (.inl f_8745))), (m_low, .inl (g 1, 12, .inr (.inl lof)))] := hD
  refine lv_aload_n hx hb dX12_lays_18 rfl (lv_at hl 1 rfl) ?_
  refine va_get (D := D) (ci := 12) (v := .ref m_low) (C := RX12) (T := TX12) (N := 35) hx hb hts inlX12 hown hK hP 0 rfl rfl 23 (by decide) (hts (Cond.fieldLink RX12 50 "ChanceRingsModel" "low" "[J") qw_135) (fun _ h9 => h9) rfl dX12_lays_19 ?_
  refine lv_iload_n hx hb dX12_lays_22 rfl (lv_at hl 2 rfl) ?_
  refine lv_lload hx hb dX12_lays_23 (lv_at hl 4 rfl) ?_
  refine lv_lload hx hb dX12_lays_25 (lv_at hl 0 rfl) ?_
  refine lv_ldiv hx hb dX12_lays_27 nzd_8743 ?_
  refine lv_topl (fun w_8746 w_8746_e => ?_)
  refine va_last hx hb hK hP hD hS 2 1 rfl rfl (tr_in h_p0 (by decide) (by decide)) dX12_lays_28 (fun H locs hP hD hS => ?_)
  obtain ⟨f_8747, f_8747_e, hP, hD⟩ : ∃ FX : Nat → Int64, FX = (fun j9 => if j9 = (p0 : Int32).toNatClampNeg then w_8746 else lof j9) ∧ va_P D vwCl [(mm, .inr (12, (.int i_thrown :: .ref m_s :: .ref m_spare :: .ref m_kept :: .ref m_undone :: .ref m_triedWay :: .ref m_isKept :: .int i_undoMany :: .ref m_tape :: .int i_length :: .int i_size :: .int i_p :: .int i_at :: .int i_token :: .int i_number :: .int i_letterMany :: .int i_fault :: .int i_faultAt :: .ref m_letters :: .int i_isKnown :: .ref m_choice :: .ref m_row :: .ref m_up :: .ref m_low :: .ref m_m :: .ref m_bestUp :: .ref m_bestLow :: .ref m_replyUp :: .ref m_replyLow :: .ref m_worthUp :: .ref m_worthLow :: .ref m_bestWay :: .int i_seed :: .ref m_told :: .int i_toldMany :: []))), (m_up, .inl (g 1, 12, .inr (.inl f_8745))), (m_low, .inl (g 1, 12, .inr (.inl FX)))] H ∧ va_D A [(mm, .inr (12, (.int i_thrown :: .ref m_s :: .ref m_spare :: .ref m_kept :: .ref m_undone :: .ref m_triedWay :: .ref m_isKept :: .int i_undoMany :: .ref m_tape :: .int i_length :: .int i_size :: .int i_p :: .int i_at :: .int i_token :: .int i_number :: .int i_letterMany :: .int i_fault :: .int i_faultAt :: .ref m_letters :: .int i_isKnown :: .ref m_choice :: .ref m_row :: .ref m_up :: .ref m_low :: .ref m_m :: .ref m_bestUp :: .ref m_bestLow :: .ref m_replyUp :: .ref m_replyLow :: .ref m_worthUp :: .ref m_worthLow :: .ref m_bestWay :: .int i_seed :: .ref m_told :: .int i_toldMany :: []))), (m_up, .inl (g 1, 12, .inr (.inl f_8745))), (m_low, .inl (g 1, 12, .inr (.inl FX)))] := ⟨_, rfl, hP, hD⟩
  have hP : va_P D vwCl [(mm, .inr (12, (.int i_thrown :: .ref m_s :: .ref m_spare :: .ref m_kept :: .ref m_undone :: .ref m_triedWay :: .ref m_isKept :: .int i_undoMany :: .ref m_tape :: .int i_length :: .int i_size :: .int i_p :: .int i_at :: .int i_token :: .int i_number :: .int i_letterMany :: .int i_fault :: .int i_faultAt :: .ref m_letters :: .int i_isKnown :: .ref m_choice :: .ref m_row :: .ref m_up :: .ref m_low :: .ref m_m :: .ref m_bestUp :: .ref m_bestLow :: .ref m_replyUp :: .ref m_replyLow :: .ref m_worthUp :: .ref m_worthLow :: .ref m_bestWay :: .int i_seed :: .ref m_told :: .int i_toldMany :: []))), (m_up, .inl (g 1, 12, .inr (.inl f_8745))), (m_low, .inl (g 1, 12, .inr (.inl f_8747)))] H := hP
  have hD : va_D A [(mm, .inr (12, (.int i_thrown :: .ref m_s :: .ref m_spare :: .ref m_kept :: .ref m_undone :: .ref m_triedWay :: .ref m_isKept :: .int i_undoMany :: .ref m_tape :: .int i_length :: .int i_size :: .int i_p :: .int i_at :: .int i_token :: .int i_number :: .int i_letterMany :: .int i_fault :: .int i_faultAt :: .ref m_letters :: .int i_isKnown :: .ref m_choice :: .ref m_row :: .ref m_up :: .ref m_low :: .ref m_m :: .ref m_bestUp :: .ref m_bestLow :: .ref m_replyUp :: .ref m_replyLow :: .ref m_worthUp :: .ref m_worthLow :: .ref m_bestWay :: .int i_seed :: .ref m_told :: .int i_toldMany :: []))), (m_up, .inl (g 1, 12, .inr (.inl f_8745))), (m_low, .inl (g 1, 12, .inr (.inl f_8747)))] := hD
  have hP9 := hP.sub (ws' := [(mm, .inr (12, (.int i_thrown :: .ref m_s :: .ref m_spare :: .ref m_kept :: .ref m_undone :: .ref m_triedWay :: .ref m_isKept :: .int i_undoMany :: .ref m_tape :: .int i_length :: .int i_size :: .int i_p :: .int i_at :: .int i_token :: .int i_number :: .int i_letterMany :: .int i_fault :: .int i_faultAt :: .ref m_letters :: .int i_isKnown :: .ref m_choice :: .ref m_row :: .ref m_up :: .ref m_low :: .ref m_m :: .ref m_bestUp :: .ref m_bestLow :: .ref m_replyUp :: .ref m_replyLow :: .ref m_worthUp :: .ref m_worthLow :: .ref m_bestWay :: .int i_seed :: .ref m_told :: .int i_toldMany :: []))), (m_up, .inl (g 1, 12, .inr (.inl f_8745))), (m_low, .inl (g 1, 12, .inr (.inl f_8747)))]) [0, 1, 2] rfl
  have hD9 := hD.sub (ws' := [(mm, .inr (12, (.int i_thrown :: .ref m_s :: .ref m_spare :: .ref m_kept :: .ref m_undone :: .ref m_triedWay :: .ref m_isKept :: .int i_undoMany :: .ref m_tape :: .int i_length :: .int i_size :: .int i_p :: .int i_at :: .int i_token :: .int i_number :: .int i_letterMany :: .int i_fault :: .int i_faultAt :: .ref m_letters :: .int i_isKnown :: .ref m_choice :: .ref m_row :: .ref m_up :: .ref m_low :: .ref m_m :: .ref m_bestUp :: .ref m_bestLow :: .ref m_replyUp :: .ref m_replyLow :: .ref m_worthUp :: .ref m_worthLow :: .ref m_bestWay :: .int i_seed :: .ref m_told :: .int i_toldMany :: []))), (m_up, .inl (g 1, 12, .inr (.inl f_8745))), (m_low, .inl (g 1, 12, .inr (.inl f_8747)))]) [0, 1, 2] (by decide) rfl
  exact W.vret hx hb hr (fun t ht hW => ⟨⟨(), rfl, trivial, f_8745, f_8747, (LYS_of hw_8742_p0 w_8744_e w_8746_e f_8745_e f_8747_e hb0), by rw [ht]; exact hP9, hD9⟩, hS.F ht⟩) hS.2.2 dX12_lays_29
