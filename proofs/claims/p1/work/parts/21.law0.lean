theorem qw_573 : Cond.methodLink RL 40 yX11_feed ∈ wsL_law := tseg_2 (by decide +kernel) (List.mem_of_getElem? (i := 195) (by decide +kernel))
theorem qw_574 : Cond.instanceMethod yX11_feed ∈ wsL_law := tseg_2 (by decide +kernel) (List.mem_of_getElem? (i := 196) (by decide +kernel))
theorem qw_575 : Cond.selects RX11 yX11_feed yX11_feed ∈ wsL_law := tseg_2 (by decide +kernel) (List.mem_of_getElem? (i := 197) (by decide +kernel))
theorem qw_576 : Cond.code yX11_feed cX11_feed 6 (some .int) ∈ wsL_law := tseg_2 (by decide +kernel) (List.mem_of_getElem? (i := 198) (by decide +kernel))
theorem qw_577 : Cond.methodLink RL 44 yX12_feed ∈ wsL_law := tseg_5 (by decide +kernel) (List.mem_of_getElem? (i := 237) (by decide +kernel))
theorem qw_578 : Cond.instanceMethod yX12_feed ∈ wsL_law := tseg_5 (by decide +kernel) (List.mem_of_getElem? (i := 238) (by decide +kernel))
theorem qw_579 : Cond.selects RX12 yX12_feed yX12_feed ∈ wsL_law := tseg_5 (by decide +kernel) (List.mem_of_getElem? (i := 239) (by decide +kernel))
theorem qw_580 : Cond.code yX12_feed cX12_feed 6 (some .int) ∈ wsL_law := tseg_6 (by decide +kernel) (List.mem_of_getElem? (i := 0) (by decide +kernel))
theorem qw_581 : Cond.methodLink RL 45 yX11_end ∈ wsL_law := tseg_2 (by decide +kernel) (List.mem_of_getElem? (i := 203) (by decide +kernel))
theorem qw_582 : Cond.instanceMethod yX11_end ∈ wsL_law := tseg_2 (by decide +kernel) (List.mem_of_getElem? (i := 204) (by decide +kernel))
theorem qw_583 : Cond.selects RX11 yX11_end yX11_end ∈ wsL_law := tseg_2 (by decide +kernel) (List.mem_of_getElem? (i := 205) (by decide +kernel))
theorem qw_584 : Cond.code yX11_end cX11_end 2 (some .boolean) ∈ wsL_law := tseg_2 (by decide +kernel) (List.mem_of_getElem? (i := 206) (by decide +kernel))
theorem qw_585 : Cond.methodLink RL 49 yX12_end ∈ wsL_law := tseg_6 (by decide +kernel) (List.mem_of_getElem? (i := 5) (by decide +kernel))
theorem qw_586 : Cond.instanceMethod yX12_end ∈ wsL_law := tseg_6 (by decide +kernel) (List.mem_of_getElem? (i := 6) (by decide +kernel))
theorem qw_587 : Cond.selects RX12 yX12_end yX12_end ∈ wsL_law := tseg_6 (by decide +kernel) (List.mem_of_getElem? (i := 7) (by decide +kernel))
theorem qw_588 : Cond.code yX12_end cX12_end 2 (some .boolean) ∈ wsL_law := tseg_6 (by decide +kernel) (List.mem_of_getElem? (i := 8) (by decide +kernel))
theorem qw_589 : Cond.methodLink RL 50 yX11_game ∈ wsL_law := tseg_2 (by decide +kernel) (List.mem_of_getElem? (i := 207) (by decide +kernel))
theorem qw_590 : Cond.instanceMethod yX11_game ∈ wsL_law := tseg_2 (by decide +kernel) (List.mem_of_getElem? (i := 208) (by decide +kernel))
theorem qw_591 : Cond.selects RX11 yX11_game yX11_game ∈ wsL_law := tseg_2 (by decide +kernel) (List.mem_of_getElem? (i := 209) (by decide +kernel))
theorem qw_592 : Cond.code yX11_game cX11_game 1 (some .int) ∈ wsL_law := tseg_2 (by decide +kernel) (List.mem_of_getElem? (i := 210) (by decide +kernel))
theorem qw_593 : Cond.methodLink RL 54 yX12_game ∈ wsL_law := tseg_6 (by decide +kernel) (List.mem_of_getElem? (i := 9) (by decide +kernel))
theorem qw_594 : Cond.instanceMethod yX12_game ∈ wsL_law := tseg_6 (by decide +kernel) (List.mem_of_getElem? (i := 10) (by decide +kernel))
theorem qw_595 : Cond.selects RX12 yX12_game yX12_game ∈ wsL_law := tseg_6 (by decide +kernel) (List.mem_of_getElem? (i := 11) (by decide +kernel))
theorem qw_596 : Cond.code yX12_game cX12_game 1 (some .int) ∈ wsL_law := tseg_6 (by decide +kernel) (List.mem_of_getElem? (i := 12) (by decide +kernel))
theorem qw_597 : Cond.methodLink RL 55 yX11_fault ∈ wsL_law := tseg_3 (by decide +kernel) (List.mem_of_getElem? (i := 72) (by decide +kernel))
theorem qw_598 : Cond.instanceMethod yX11_fault ∈ wsL_law := tseg_3 (by decide +kernel) (List.mem_of_getElem? (i := 73) (by decide +kernel))
theorem qw_599 : Cond.selects RX11 yX11_fault yX11_fault ∈ wsL_law := tseg_3 (by decide +kernel) (List.mem_of_getElem? (i := 74) (by decide +kernel))
theorem qw_600 : Cond.code yX11_fault cX11_fault 1 (some .int) ∈ wsL_law := tseg_3 (by decide +kernel) (List.mem_of_getElem? (i := 75) (by decide +kernel))
theorem qw_601 : Cond.methodLink RL 58 yX12_fault ∈ wsL_law := tseg_6 (by decide +kernel) (List.mem_of_getElem? (i := 82) (by decide +kernel))
theorem qw_602 : Cond.instanceMethod yX12_fault ∈ wsL_law := tseg_6 (by decide +kernel) (List.mem_of_getElem? (i := 83) (by decide +kernel))
theorem qw_603 : Cond.selects RX12 yX12_fault yX12_fault ∈ wsL_law := tseg_6 (by decide +kernel) (List.mem_of_getElem? (i := 84) (by decide +kernel))
theorem qw_604 : Cond.code yX12_fault cX12_fault 1 (some .int) ∈ wsL_law := tseg_6 (by decide +kernel) (List.mem_of_getElem? (i := 85) (by decide +kernel))
theorem qw_605 : Cond.methodLink RL 59 yL_node ∈ wsL_law := tseg_4 (by decide +kernel) (List.mem_of_getElem? (i := 228) (by decide +kernel))
theorem qw_606 : Cond.static yL_node ∈ wsL_law := tseg_4 (by decide +kernel) (List.mem_of_getElem? (i := 229) (by decide +kernel))
theorem qw_607 : Cond.initialized RL ∈ wsL_law := tseg_1 (by decide +kernel) (List.mem_of_getElem? (i := 0) (by decide +kernel))
theorem qw_608 : Cond.codeWith yL_node cL_node 5 (some .int) [(0, 10, 13, 13)] ∈ wsL_law := tseg_4 (by decide +kernel) (List.mem_of_getElem? (i := 230) (by decide +kernel))
theorem qw_609 : Cond.methodLink RL 64 yX12_node ∈ wsL_law := tseg_6 (by decide +kernel) (List.mem_of_getElem? (i := 86) (by decide +kernel))
theorem qw_610 : Cond.instanceMethod yX12_node ∈ wsL_law := tseg_6 (by decide +kernel) (List.mem_of_getElem? (i := 87) (by decide +kernel))
theorem qw_611 : Cond.selects RX12 yX12_node yX12_node ∈ wsL_law := tseg_6 (by decide +kernel) (List.mem_of_getElem? (i := 88) (by decide +kernel))
theorem qw_612 : Cond.code yX12_node cX12_node 3 (some .int) ∈ wsL_law := tseg_6 (by decide +kernel) (List.mem_of_getElem? (i := 89) (by decide +kernel))
theorem qw_613 : Cond.methodLink RL 65 yX12_thrown ∈ wsL_law := tseg_5 (by decide +kernel) (List.mem_of_getElem? (i := 120) (by decide +kernel))
theorem qw_614 : Cond.instanceMethod yX12_thrown ∈ wsL_law := tseg_5 (by decide +kernel) (List.mem_of_getElem? (i := 121) (by decide +kernel))
theorem qw_615 : Cond.selects RX12 yX12_thrown yX12_thrown ∈ wsL_law := tseg_5 (by decide +kernel) (List.mem_of_getElem? (i := 122) (by decide +kernel))
theorem qw_616 : Cond.code yX12_thrown cX12_thrown 1 (some .int) ∈ wsL_law := tseg_5 (by decide +kernel) (List.mem_of_getElem? (i := 123) (by decide +kernel))
theorem qw_617 : Cond.methodLink RL 68 yL_way ∈ wsL_law := tseg_5 (by decide +kernel) (List.mem_of_getElem? (i := 57) (by decide +kernel))
theorem qw_618 : Cond.static yL_way ∈ wsL_law := tseg_5 (by decide +kernel) (List.mem_of_getElem? (i := 58) (by decide +kernel))
theorem qw_619 : Cond.codeWith yL_way cL_way 6 (some .int) [(0, 12, 15, 13)] ∈ wsL_law := tseg_5 (by decide +kernel) (List.mem_of_getElem? (i := 59) (by decide +kernel))
theorem qw_620 : Cond.methodLink RL 71 yX12_way ∈ wsL_law := tseg_6 (by decide +kernel) (List.mem_of_getElem? (i := 102) (by decide +kernel))
theorem qw_621 : Cond.instanceMethod yX12_way ∈ wsL_law := tseg_6 (by decide +kernel) (List.mem_of_getElem? (i := 103) (by decide +kernel))
theorem qw_622 : Cond.selects RX12 yX12_way yX12_way ∈ wsL_law := tseg_6 (by decide +kernel) (List.mem_of_getElem? (i := 104) (by decide +kernel))
theorem qw_623 : Cond.code yX12_way cX12_way 4 (some .int) ∈ wsL_law := tseg_6 (by decide +kernel) (List.mem_of_getElem? (i := 105) (by decide +kernel))
theorem qw_624 : Cond.methodLink RL 72 yL_worth ∈ wsL_law := tseg_5 (by decide +kernel) (List.mem_of_getElem? (i := 64) (by decide +kernel))
theorem qw_625 : Cond.static yL_worth ∈ wsL_law := tseg_5 (by decide +kernel) (List.mem_of_getElem? (i := 65) (by decide +kernel))
theorem qw_626 : Cond.codeWith yL_worth cL_worth 5 (some .int) [(0, 9, 12, 13)] ∈ wsL_law := tseg_5 (by decide +kernel) (List.mem_of_getElem? (i := 66) (by decide +kernel))
theorem qw_627 : Cond.methodLink RL 74 yX12_worth ∈ wsL_law := tseg_6 (by decide +kernel) (List.mem_of_getElem? (i := 118) (by decide +kernel))
theorem qw_628 : Cond.instanceMethod yX12_worth ∈ wsL_law := tseg_6 (by decide +kernel) (List.mem_of_getElem? (i := 119) (by decide +kernel))
theorem qw_629 : Cond.selects RX12 yX12_worth yX12_worth ∈ wsL_law := tseg_6 (by decide +kernel) (List.mem_of_getElem? (i := 120) (by decide +kernel))
theorem qw_630 : Cond.code yX12_worth cX12_worth 3 (some .long) ∈ wsL_law := tseg_6 (by decide +kernel) (List.mem_of_getElem? (i := 121) (by decide +kernel))
theorem qw_631 : Cond.methodLink RL 75 yX11_best ∈ wsL_law := tseg_3 (by decide +kernel) (List.mem_of_getElem? (i := 76) (by decide +kernel))
theorem qw_632 : Cond.instanceMethod yX11_best ∈ wsL_law := tseg_3 (by decide +kernel) (List.mem_of_getElem? (i := 77) (by decide +kernel))
theorem qw_633 : Cond.selects RX11 yX11_best yX11_best ∈ wsL_law := tseg_3 (by decide +kernel) (List.mem_of_getElem? (i := 78) (by decide +kernel))
theorem qw_634 : Cond.code yX11_best cX11_best 2 (some .int) ∈ wsL_law := tseg_3 (by decide +kernel) (List.mem_of_getElem? (i := 79) (by decide +kernel))
theorem qw_635 : Cond.methodLink RL 79 yX12_best ∈ wsL_law := tseg_6 (by decide +kernel) (List.mem_of_getElem? (i := 186) (by decide +kernel))
theorem qw_636 : Cond.instanceMethod yX12_best ∈ wsL_law := tseg_6 (by decide +kernel) (List.mem_of_getElem? (i := 187) (by decide +kernel))
theorem qw_637 : Cond.selects RX12 yX12_best yX12_best ∈ wsL_law := tseg_6 (by decide +kernel) (List.mem_of_getElem? (i := 188) (by decide +kernel))
theorem qw_638 : Cond.code yX12_best cX12_best 2 (some .int) ∈ wsL_law := tseg_6 (by decide +kernel) (List.mem_of_getElem? (i := 189) (by decide +kernel))
theorem qw_639 : Cond.methodLink RL 80 yX11_good ∈ wsL_law := tseg_3 (by decide +kernel) (List.mem_of_getElem? (i := 221) (by decide +kernel))
theorem qw_640 : Cond.instanceMethod yX11_good ∈ wsL_law := tseg_3 (by decide +kernel) (List.mem_of_getElem? (i := 222) (by decide +kernel))
theorem qw_641 : Cond.selects RX11 yX11_good yX11_good ∈ wsL_law := tseg_3 (by decide +kernel) (List.mem_of_getElem? (i := 223) (by decide +kernel))
theorem qw_642 : Cond.code yX11_good cX11_good 2 (some .int) ∈ wsL_law := tseg_3 (by decide +kernel) (List.mem_of_getElem? (i := 224) (by decide +kernel))
theorem qw_643 : Cond.methodLink RL 83 yX12_good ∈ wsL_law := tseg_6 (by decide +kernel) (List.mem_of_getElem? (i := 194) (by decide +kernel))
theorem qw_644 : Cond.instanceMethod yX12_good ∈ wsL_law := tseg_6 (by decide +kernel) (List.mem_of_getElem? (i := 195) (by decide +kernel))
theorem qw_645 : Cond.selects RX12 yX12_good yX12_good ∈ wsL_law := tseg_6 (by decide +kernel) (List.mem_of_getElem? (i := 196) (by decide +kernel))
theorem qw_646 : Cond.code yX12_good cX12_good 7 (some .int) ∈ wsL_law := tseg_6 (by decide +kernel) (List.mem_of_getElem? (i := 197) (by decide +kernel))
theorem qw_647 : Cond.methodLink RL 84 yX11_tried ∈ wsL_law := tseg_3 (by decide +kernel) (List.mem_of_getElem? (i := 229) (by decide +kernel))
theorem qw_648 : Cond.instanceMethod yX11_tried ∈ wsL_law := tseg_3 (by decide +kernel) (List.mem_of_getElem? (i := 230) (by decide +kernel))
theorem qw_649 : Cond.selects RX11 yX11_tried yX11_tried ∈ wsL_law := tseg_3 (by decide +kernel) (List.mem_of_getElem? (i := 231) (by decide +kernel))
theorem qw_650 : Cond.code yX11_tried cX11_tried 2 (some .int) ∈ wsL_law := tseg_3 (by decide +kernel) (List.mem_of_getElem? (i := 232) (by decide +kernel))
theorem qw_651 : Cond.methodLink RL 87 yX12_tried ∈ wsL_law := tseg_6 (by decide +kernel) (List.mem_of_getElem? (i := 198) (by decide +kernel))
theorem qw_652 : Cond.instanceMethod yX12_tried ∈ wsL_law := tseg_6 (by decide +kernel) (List.mem_of_getElem? (i := 199) (by decide +kernel))
theorem qw_653 : Cond.selects RX12 yX12_tried yX12_tried ∈ wsL_law := tseg_6 (by decide +kernel) (List.mem_of_getElem? (i := 200) (by decide +kernel))
theorem qw_654 : Cond.code yX12_tried cX12_tried 2 (some .int) ∈ wsL_law := tseg_6 (by decide +kernel) (List.mem_of_getElem? (i := 201) (by decide +kernel))
theorem qw_655 : Cond.methodLink RL 88 yL_left ∈ wsL_law := tseg_5 (by decide +kernel) (List.mem_of_getElem? (i := 78) (by decide +kernel))
theorem qw_656 : Cond.static yL_left ∈ wsL_law := tseg_5 (by decide +kernel) (List.mem_of_getElem? (i := 79) (by decide +kernel))
theorem qw_657 : Cond.codeWith yL_left cL_left 5 (some .int) [(0, 9, 12, 13)] ∈ wsL_law := tseg_5 (by decide +kernel) (List.mem_of_getElem? (i := 80) (by decide +kernel))
theorem qw_658 : Cond.methodLink RL 90 yX12_left ∈ wsL_law := tseg_6 (by decide +kernel) (List.mem_of_getElem? (i := 202) (by decide +kernel))
theorem qw_659 : Cond.instanceMethod yX12_left ∈ wsL_law := tseg_6 (by decide +kernel) (List.mem_of_getElem? (i := 203) (by decide +kernel))
theorem qw_660 : Cond.selects RX12 yX12_left yX12_left ∈ wsL_law := tseg_6 (by decide +kernel) (List.mem_of_getElem? (i := 204) (by decide +kernel))
theorem qw_661 : Cond.code yX12_left cX12_left 3 (some .long) ∈ wsL_law := tseg_6 (by decide +kernel) (List.mem_of_getElem? (i := 205) (by decide +kernel))
theorem qw_662 : Cond.methodLink RL 91 yX11_improve ∈ wsL_law := tseg_3 (by decide +kernel) (List.mem_of_getElem? (i := 234) (by decide +kernel))
theorem qw_663 : Cond.methodLink RL 94 yX12_improve ∈ wsL_law := tseg_6 (by decide +kernel) (List.mem_of_getElem? (i := 210) (by decide +kernel))
theorem qw_664 : Cond.instanceMethod yX12_improve ∈ wsL_law := tseg_6 (by decide +kernel) (List.mem_of_getElem? (i := 211) (by decide +kernel))
theorem qw_665 : Cond.selects RX12 yX12_improve yX12_improve ∈ wsL_law := tseg_6 (by decide +kernel) (List.mem_of_getElem? (i := 212) (by decide +kernel))
theorem qw_666 : Cond.code yX12_improve cX12_improve 1 (some .int) ∈ wsL_law := tseg_6 (by decide +kernel) (List.mem_of_getElem? (i := 213) (by decide +kernel))
theorem dL_law_23 : decode cL_law 23 = .ok (.iload 4, 2) := by decide +kernel
theorem dL_law_25 : decode cL_law 25 = .ok (.aload_n 0, 1) := by decide +kernel
theorem dL_law_26 : decode cL_law 26 = .ok (.arraylength, 1) := by decide +kernel
theorem dL_law_27 : decode cL_law 27 = .ok (.bipush 6, 2) := by decide +kernel
theorem dL_law_29 : decode cL_law 29 = .ok (.isub, 1) := by decide +kernel
theorem dL_law_30 : decode cL_law 30 = .ok (.if_icmp .gt 1451, 3) := by decide +kernel
theorem dL_law_196 : decode cL_law 196 = .ok (.aload_n 1, 1) := by decide +kernel
theorem dL_law_197 : decode cL_law 197 = .ok (.aload_n 0, 1) := by decide +kernel
theorem dL_law_198 : decode cL_law 198 = .ok (.iload 4, 2) := by decide +kernel
theorem dL_law_200 : decode cL_law 200 = .ok (.iconst 1, 1) := by decide +kernel
theorem dL_law_201 : decode cL_law 201 = .ok (.iadd, 1) := by decide +kernel
theorem dL_law_202 : decode cL_law 202 = .ok (.iaload, 1) := by decide +kernel
theorem dL_law_203 : decode cL_law 203 = .ok (.aload_n 0, 1) := by decide +kernel
theorem dL_law_204 : decode cL_law 204 = .ok (.iload 4, 2) := by decide +kernel
theorem dL_law_206 : decode cL_law 206 = .ok (.iconst 2, 1) := by decide +kernel
theorem dL_law_207 : decode cL_law 207 = .ok (.iadd, 1) := by decide +kernel
theorem dL_law_208 : decode cL_law 208 = .ok (.iaload, 1) := by decide +kernel
theorem dL_law_209 : decode cL_law 209 = .ok (.aload_n 0, 1) := by decide +kernel
theorem dL_law_210 : decode cL_law 210 = .ok (.iload 4, 2) := by decide +kernel
theorem dL_law_212 : decode cL_law 212 = .ok (.iconst 3, 1) := by decide +kernel
theorem dL_law_213 : decode cL_law 213 = .ok (.iadd, 1) := by decide +kernel
theorem dL_law_214 : decode cL_law 214 = .ok (.iaload, 1) := by decide +kernel
theorem dL_law_215 : decode cL_law 215 = .ok (.aload_n 0, 1) := by decide +kernel
theorem dL_law_216 : decode cL_law 216 = .ok (.iload 4, 2) := by decide +kernel
theorem dL_law_218 : decode cL_law 218 = .ok (.iconst 4, 1) := by decide +kernel
theorem dL_law_219 : decode cL_law 219 = .ok (.iadd, 1) := by decide +kernel
theorem dL_law_220 : decode cL_law 220 = .ok (.iaload, 1) := by decide +kernel
theorem dL_law_221 : decode cL_law 221 = .ok (.aload_n 0, 1) := by decide +kernel
theorem dL_law_222 : decode cL_law 222 = .ok (.iload 4, 2) := by decide +kernel
theorem dL_law_224 : decode cL_law 224 = .ok (.iconst 5, 1) := by decide +kernel
theorem dL_law_225 : decode cL_law 225 = .ok (.iadd, 1) := by decide +kernel
theorem dL_law_226 : decode cL_law 226 = .ok (.iaload, 1) := by decide +kernel
theorem dL_law_227 : decode cL_law 227 = .ok (.invokevirtual 40, 3) := by decide +kernel
theorem dL_law_230 : decode cL_law 230 = .ok (.aload_n 2, 1) := by decide +kernel
theorem dL_law_231 : decode cL_law 231 = .ok (.aload_n 0, 1) := by decide +kernel
theorem dL_law_232 : decode cL_law 232 = .ok (.iload 4, 2) := by decide +kernel
theorem dL_law_234 : decode cL_law 234 = .ok (.iconst 1, 1) := by decide +kernel
theorem dL_law_235 : decode cL_law 235 = .ok (.iadd, 1) := by decide +kernel
theorem dL_law_236 : decode cL_law 236 = .ok (.iaload, 1) := by decide +kernel
theorem dL_law_237 : decode cL_law 237 = .ok (.aload_n 0, 1) := by decide +kernel
theorem dL_law_238 : decode cL_law 238 = .ok (.iload 4, 2) := by decide +kernel
theorem dL_law_240 : decode cL_law 240 = .ok (.iconst 2, 1) := by decide +kernel
theorem dL_law_241 : decode cL_law 241 = .ok (.iadd, 1) := by decide +kernel
theorem dL_law_242 : decode cL_law 242 = .ok (.iaload, 1) := by decide +kernel
theorem dL_law_243 : decode cL_law 243 = .ok (.aload_n 0, 1) := by decide +kernel
theorem dL_law_244 : decode cL_law 244 = .ok (.iload 4, 2) := by decide +kernel
theorem dL_law_246 : decode cL_law 246 = .ok (.iconst 3, 1) := by decide +kernel
theorem dL_law_247 : decode cL_law 247 = .ok (.iadd, 1) := by decide +kernel
theorem dL_law_248 : decode cL_law 248 = .ok (.iaload, 1) := by decide +kernel
theorem dL_law_249 : decode cL_law 249 = .ok (.aload_n 0, 1) := by decide +kernel
theorem dL_law_250 : decode cL_law 250 = .ok (.iload 4, 2) := by decide +kernel
theorem dL_law_252 : decode cL_law 252 = .ok (.iconst 4, 1) := by decide +kernel
theorem dL_law_253 : decode cL_law 253 = .ok (.iadd, 1) := by decide +kernel
theorem dL_law_254 : decode cL_law 254 = .ok (.iaload, 1) := by decide +kernel
theorem dL_law_255 : decode cL_law 255 = .ok (.aload_n 0, 1) := by decide +kernel
theorem dL_law_256 : decode cL_law 256 = .ok (.iload 4, 2) := by decide +kernel
theorem dL_law_258 : decode cL_law 258 = .ok (.iconst 5, 1) := by decide +kernel
theorem dL_law_259 : decode cL_law 259 = .ok (.iadd, 1) := by decide +kernel
theorem dL_law_260 : decode cL_law 260 = .ok (.iaload, 1) := by decide +kernel
theorem dL_law_261 : decode cL_law 261 = .ok (.invokevirtual 44, 3) := by decide +kernel
theorem dL_law_264 : decode cL_law 264 = .ok (.if_icmp .eq 1211, 3) := by decide +kernel
theorem dL_law_269 : decode cL_law 269 = .ok (.aload_n 1, 1) := by decide +kernel
theorem dL_law_270 : decode cL_law 270 = .ok (.aload_n 0, 1) := by decide +kernel
theorem dL_law_271 : decode cL_law 271 = .ok (.iload 4, 2) := by decide +kernel
theorem dL_law_273 : decode cL_law 273 = .ok (.iconst 1, 1) := by decide +kernel
theorem dL_law_274 : decode cL_law 274 = .ok (.iadd, 1) := by decide +kernel
theorem dL_law_275 : decode cL_law 275 = .ok (.iaload, 1) := by decide +kernel
theorem dL_law_276 : decode cL_law 276 = .ok (.invokevirtual 45, 3) := by decide +kernel
theorem dL_law_279 : decode cL_law 279 = .ok (.aload_n 2, 1) := by decide +kernel
theorem dL_law_280 : decode cL_law 280 = .ok (.aload_n 0, 1) := by decide +kernel
theorem dL_law_281 : decode cL_law 281 = .ok (.iload 4, 2) := by decide +kernel
theorem dL_law_283 : decode cL_law 283 = .ok (.iconst 1, 1) := by decide +kernel
theorem dL_law_284 : decode cL_law 284 = .ok (.iadd, 1) := by decide +kernel
theorem dL_law_285 : decode cL_law 285 = .ok (.iaload, 1) := by decide +kernel
theorem dL_law_286 : decode cL_law 286 = .ok (.invokevirtual 49, 3) := by decide +kernel
theorem dL_law_289 : decode cL_law 289 = .ok (.if_icmp .eq 1186, 3) := by decide +kernel
theorem dL_law_294 : decode cL_law 294 = .ok (.aload_n 1, 1) := by decide +kernel
theorem dL_law_295 : decode cL_law 295 = .ok (.invokevirtual 50, 3) := by decide +kernel
theorem dL_law_298 : decode cL_law 298 = .ok (.aload_n 2, 1) := by decide +kernel
theorem dL_law_299 : decode cL_law 299 = .ok (.invokevirtual 54, 3) := by decide +kernel
theorem dL_law_302 : decode cL_law 302 = .ok (.if_icmp .eq 1173, 3) := by decide +kernel
theorem dL_law_307 : decode cL_law 307 = .ok (.aload_n 1, 1) := by decide +kernel
theorem dL_law_308 : decode cL_law 308 = .ok (.invokevirtual 55, 3) := by decide +kernel
theorem dL_law_311 : decode cL_law 311 = .ok (.aload_n 2, 1) := by decide +kernel
theorem dL_law_312 : decode cL_law 312 = .ok (.invokevirtual 58, 3) := by decide +kernel
theorem dL_law_315 : decode cL_law 315 = .ok (.if_icmp .eq 1160, 3) := by decide +kernel
theorem dL_law_320 : decode cL_law 320 = .ok (.aload_n 1, 1) := by decide +kernel
theorem dL_law_321 : decode cL_law 321 = .ok (.aload_n 0, 1) := by decide +kernel
theorem dL_law_322 : decode cL_law 322 = .ok (.iload 4, 2) := by decide +kernel
theorem dL_law_324 : decode cL_law 324 = .ok (.iconst 1, 1) := by decide +kernel
theorem dL_law_325 : decode cL_law 325 = .ok (.iadd, 1) := by decide +kernel
theorem dL_law_326 : decode cL_law 326 = .ok (.iaload, 1) := by decide +kernel
theorem dL_law_327 : decode cL_law 327 = .ok (.aload_n 0, 1) := by decide +kernel
theorem dL_law_328 : decode cL_law 328 = .ok (.iload 4, 2) := by decide +kernel
theorem dL_law_330 : decode cL_law 330 = .ok (.iconst 2, 1) := by decide +kernel
theorem dL_law_331 : decode cL_law 331 = .ok (.iadd, 1) := by decide +kernel
theorem dL_law_332 : decode cL_law 332 = .ok (.iaload, 1) := by decide +kernel
theorem dL_law_333 : decode cL_law 333 = .ok (.aload_n 3, 1) := by decide +kernel
theorem dL_law_334 : decode cL_law 334 = .ok (.invokestatic 59, 3) := by decide +kernel
theorem dL_law_337 : decode cL_law 337 = .ok (.istore 5, 2) := by decide +kernel
theorem dL_law_339 : decode cL_law 339 = .ok (.aload_n 2, 1) := by decide +kernel
theorem dL_law_340 : decode cL_law 340 = .ok (.aload_n 0, 1) := by decide +kernel
theorem dL_law_341 : decode cL_law 341 = .ok (.iload 4, 2) := by decide +kernel
theorem dL_law_343 : decode cL_law 343 = .ok (.iconst 1, 1) := by decide +kernel
theorem dL_law_344 : decode cL_law 344 = .ok (.iadd, 1) := by decide +kernel
theorem dL_law_345 : decode cL_law 345 = .ok (.iaload, 1) := by decide +kernel
theorem dL_law_346 : decode cL_law 346 = .ok (.aload_n 0, 1) := by decide +kernel
theorem dL_law_347 : decode cL_law 347 = .ok (.iload 4, 2) := by decide +kernel
theorem dL_law_349 : decode cL_law 349 = .ok (.iconst 2, 1) := by decide +kernel
theorem dL_law_350 : decode cL_law 350 = .ok (.iadd, 1) := by decide +kernel
theorem dL_law_351 : decode cL_law 351 = .ok (.iaload, 1) := by decide +kernel
theorem dL_law_352 : decode cL_law 352 = .ok (.invokevirtual 64, 3) := by decide +kernel
theorem dL_law_355 : decode cL_law 355 = .ok (.istore 6, 2) := by decide +kernel
theorem dL_law_357 : decode cL_law 357 = .ok (.aload_n 2, 1) := by decide +kernel
theorem dL_law_358 : decode cL_law 358 = .ok (.invokevirtual 65, 3) := by decide +kernel
theorem dL_law_361 : decode cL_law 361 = .ok (.iload 5, 2) := by decide +kernel
theorem dL_law_363 : decode cL_law 363 = .ok (.if_icmp .eq 5, 3) := by decide +kernel
theorem dL_law_368 : decode cL_law 368 = .ok (.iload 5, 2) := by decide +kernel
theorem dL_law_370 : decode cL_law 370 = .ok (.ifCond .ne 15, 3) := by decide +kernel
theorem dL_law_385 : decode cL_law 385 = .ok (.goto 1090, 3) := by decide +kernel
theorem dL_law_388 : decode cL_law 388 = .ok (.aload_n 1, 1) := by decide +kernel
theorem dL_law_389 : decode cL_law 389 = .ok (.aload_n 0, 1) := by decide +kernel
theorem dL_law_390 : decode cL_law 390 = .ok (.iload 4, 2) := by decide +kernel
theorem dL_law_392 : decode cL_law 392 = .ok (.iconst 1, 1) := by decide +kernel
theorem dL_law_393 : decode cL_law 393 = .ok (.iadd, 1) := by decide +kernel
theorem dL_law_394 : decode cL_law 394 = .ok (.iaload, 1) := by decide +kernel
theorem dL_law_395 : decode cL_law 395 = .ok (.aload_n 0, 1) := by decide +kernel
theorem dL_law_396 : decode cL_law 396 = .ok (.iload 4, 2) := by decide +kernel
theorem dL_law_398 : decode cL_law 398 = .ok (.iconst 2, 1) := by decide +kernel
theorem dL_law_399 : decode cL_law 399 = .ok (.iadd, 1) := by decide +kernel
theorem dL_law_400 : decode cL_law 400 = .ok (.iaload, 1) := by decide +kernel
theorem dL_law_401 : decode cL_law 401 = .ok (.aload_n 0, 1) := by decide +kernel
theorem dL_law_402 : decode cL_law 402 = .ok (.iload 4, 2) := by decide +kernel
theorem dL_law_404 : decode cL_law 404 = .ok (.iconst 3, 1) := by decide +kernel
theorem dL_law_405 : decode cL_law 405 = .ok (.iadd, 1) := by decide +kernel
theorem dL_law_406 : decode cL_law 406 = .ok (.iaload, 1) := by decide +kernel
theorem dL_law_407 : decode cL_law 407 = .ok (.aload_n 3, 1) := by decide +kernel
theorem dL_law_408 : decode cL_law 408 = .ok (.invokestatic 68, 3) := by decide +kernel
theorem dL_law_411 : decode cL_law 411 = .ok (.istore 5, 2) := by decide +kernel
theorem dL_law_413 : decode cL_law 413 = .ok (.aload_n 2, 1) := by decide +kernel
theorem dL_law_414 : decode cL_law 414 = .ok (.aload_n 0, 1) := by decide +kernel
theorem dL_law_415 : decode cL_law 415 = .ok (.iload 4, 2) := by decide +kernel
theorem dL_law_417 : decode cL_law 417 = .ok (.iconst 1, 1) := by decide +kernel
theorem dL_law_418 : decode cL_law 418 = .ok (.iadd, 1) := by decide +kernel
theorem dL_law_419 : decode cL_law 419 = .ok (.iaload, 1) := by decide +kernel
theorem dL_law_420 : decode cL_law 420 = .ok (.aload_n 0, 1) := by decide +kernel
theorem dL_law_421 : decode cL_law 421 = .ok (.iload 4, 2) := by decide +kernel
theorem dL_law_423 : decode cL_law 423 = .ok (.iconst 2, 1) := by decide +kernel
theorem dL_law_424 : decode cL_law 424 = .ok (.iadd, 1) := by decide +kernel
theorem dL_law_425 : decode cL_law 425 = .ok (.iaload, 1) := by decide +kernel
theorem dL_law_426 : decode cL_law 426 = .ok (.aload_n 0, 1) := by decide +kernel
theorem dL_law_427 : decode cL_law 427 = .ok (.iload 4, 2) := by decide +kernel
theorem dL_law_429 : decode cL_law 429 = .ok (.iconst 3, 1) := by decide +kernel
theorem dL_law_430 : decode cL_law 430 = .ok (.iadd, 1) := by decide +kernel
theorem dL_law_431 : decode cL_law 431 = .ok (.iaload, 1) := by decide +kernel
theorem dL_law_432 : decode cL_law 432 = .ok (.invokevirtual 71, 3) := by decide +kernel
theorem dL_law_435 : decode cL_law 435 = .ok (.istore 6, 2) := by decide +kernel
theorem dL_law_437 : decode cL_law 437 = .ok (.aload_n 2, 1) := by decide +kernel
theorem dL_law_438 : decode cL_law 438 = .ok (.invokevirtual 65, 3) := by decide +kernel
theorem dL_law_441 : decode cL_law 441 = .ok (.iload 5, 2) := by decide +kernel
theorem dL_law_443 : decode cL_law 443 = .ok (.if_icmp .eq 5, 3) := by decide +kernel
theorem dL_law_448 : decode cL_law 448 = .ok (.iload 5, 2) := by decide +kernel
theorem dL_law_450 : decode cL_law 450 = .ok (.ifCond .ne 15, 3) := by decide +kernel
theorem dL_law_465 : decode cL_law 465 = .ok (.goto 1010, 3) := by decide +kernel
theorem dL_law_468 : decode cL_law 468 = .ok (.aload_n 1, 1) := by decide +kernel
theorem dL_law_469 : decode cL_law 469 = .ok (.aload_n 0, 1) := by decide +kernel
theorem dL_law_470 : decode cL_law 470 = .ok (.iload 4, 2) := by decide +kernel
theorem dL_law_472 : decode cL_law 472 = .ok (.iconst 1, 1) := by decide +kernel
theorem dL_law_473 : decode cL_law 473 = .ok (.iadd, 1) := by decide +kernel
theorem dL_law_474 : decode cL_law 474 = .ok (.iaload, 1) := by decide +kernel
theorem dL_law_475 : decode cL_law 475 = .ok (.aload_n 0, 1) := by decide +kernel
theorem dL_law_476 : decode cL_law 476 = .ok (.iload 4, 2) := by decide +kernel
theorem dL_law_478 : decode cL_law 478 = .ok (.iconst 2, 1) := by decide +kernel
theorem dL_law_479 : decode cL_law 479 = .ok (.iadd, 1) := by decide +kernel
theorem dL_law_480 : decode cL_law 480 = .ok (.iaload, 1) := by decide +kernel
theorem dL_law_481 : decode cL_law 481 = .ok (.aload_n 3, 1) := by decide +kernel
theorem dL_law_482 : decode cL_law 482 = .ok (.invokestatic 72, 3) := by decide +kernel
theorem dL_law_485 : decode cL_law 485 = .ok (.istore 5, 2) := by decide +kernel
theorem dL_law_487 : decode cL_law 487 = .ok (.aload_n 2, 1) := by decide +kernel
theorem dL_law_488 : decode cL_law 488 = .ok (.aload_n 0, 1) := by decide +kernel
theorem dL_law_489 : decode cL_law 489 = .ok (.iload 4, 2) := by decide +kernel
theorem dL_law_491 : decode cL_law 491 = .ok (.iconst 1, 1) := by decide +kernel
theorem dL_law_492 : decode cL_law 492 = .ok (.iadd, 1) := by decide +kernel
theorem dL_law_493 : decode cL_law 493 = .ok (.iaload, 1) := by decide +kernel
theorem dL_law_494 : decode cL_law 494 = .ok (.aload_n 0, 1) := by decide +kernel
theorem dL_law_495 : decode cL_law 495 = .ok (.iload 4, 2) := by decide +kernel
theorem dL_law_497 : decode cL_law 497 = .ok (.iconst 2, 1) := by decide +kernel
theorem dL_law_498 : decode cL_law 498 = .ok (.iadd, 1) := by decide +kernel
theorem dL_law_499 : decode cL_law 499 = .ok (.iaload, 1) := by decide +kernel
theorem dL_law_500 : decode cL_law 500 = .ok (.invokevirtual 74, 3) := by decide +kernel
theorem dL_law_503 : decode cL_law 503 = .ok (.lstore 6, 2) := by decide +kernel
theorem dL_law_505 : decode cL_law 505 = .ok (.aload_n 2, 1) := by decide +kernel
theorem dL_law_506 : decode cL_law 506 = .ok (.invokevirtual 65, 3) := by decide +kernel
theorem dL_law_509 : decode cL_law 509 = .ok (.iload 5, 2) := by decide +kernel
theorem dL_law_511 : decode cL_law 511 = .ok (.if_icmp .eq 5, 3) := by decide +kernel
theorem dL_law_516 : decode cL_law 516 = .ok (.iload 5, 2) := by decide +kernel
theorem dL_law_518 : decode cL_law 518 = .ok (.ifCond .ne 14, 3) := by decide +kernel
theorem dL_law_532 : decode cL_law 532 = .ok (.goto 943, 3) := by decide +kernel
theorem dL_law_535 : decode cL_law 535 = .ok (.aload_n 1, 1) := by decide +kernel
theorem dL_law_536 : decode cL_law 536 = .ok (.aload_n 0, 1) := by decide +kernel
theorem dL_law_537 : decode cL_law 537 = .ok (.iload 4, 2) := by decide +kernel
theorem dL_law_539 : decode cL_law 539 = .ok (.iconst 1, 1) := by decide +kernel
theorem dL_law_540 : decode cL_law 540 = .ok (.iadd, 1) := by decide +kernel
theorem dL_law_541 : decode cL_law 541 = .ok (.iaload, 1) := by decide +kernel
theorem dL_law_542 : decode cL_law 542 = .ok (.invokevirtual 75, 3) := by decide +kernel
theorem dL_law_545 : decode cL_law 545 = .ok (.aload_n 2, 1) := by decide +kernel
theorem dL_law_546 : decode cL_law 546 = .ok (.aload_n 0, 1) := by decide +kernel
theorem dL_law_547 : decode cL_law 547 = .ok (.iload 4, 2) := by decide +kernel
theorem dL_law_549 : decode cL_law 549 = .ok (.iconst 1, 1) := by decide +kernel
theorem dL_law_550 : decode cL_law 550 = .ok (.iadd, 1) := by decide +kernel
theorem dL_law_551 : decode cL_law 551 = .ok (.iaload, 1) := by decide +kernel
theorem dL_law_552 : decode cL_law 552 = .ok (.invokevirtual 79, 3) := by decide +kernel
theorem dL_law_555 : decode cL_law 555 = .ok (.if_icmp .eq 920, 3) := by decide +kernel
theorem dL_law_560 : decode cL_law 560 = .ok (.aload_n 1, 1) := by decide +kernel
theorem dL_law_561 : decode cL_law 561 = .ok (.aload_n 0, 1) := by decide +kernel
theorem dL_law_562 : decode cL_law 562 = .ok (.iload 4, 2) := by decide +kernel
theorem dL_law_564 : decode cL_law 564 = .ok (.iconst 1, 1) := by decide +kernel
theorem dL_law_565 : decode cL_law 565 = .ok (.iadd, 1) := by decide +kernel
theorem dL_law_566 : decode cL_law 566 = .ok (.iaload, 1) := by decide +kernel
theorem dL_law_567 : decode cL_law 567 = .ok (.invokevirtual 80, 3) := by decide +kernel
theorem dL_law_570 : decode cL_law 570 = .ok (.aload_n 2, 1) := by decide +kernel
theorem dL_law_571 : decode cL_law 571 = .ok (.aload_n 0, 1) := by decide +kernel
theorem dL_law_572 : decode cL_law 572 = .ok (.iload 4, 2) := by decide +kernel
theorem dL_law_574 : decode cL_law 574 = .ok (.iconst 1, 1) := by decide +kernel
theorem dL_law_575 : decode cL_law 575 = .ok (.iadd, 1) := by decide +kernel
theorem dL_law_576 : decode cL_law 576 = .ok (.iaload, 1) := by decide +kernel
theorem dL_law_577 : decode cL_law 577 = .ok (.invokevirtual 83, 3) := by decide +kernel
theorem dL_law_580 : decode cL_law 580 = .ok (.if_icmp .eq 895, 3) := by decide +kernel
theorem dL_law_585 : decode cL_law 585 = .ok (.aload_n 1, 1) := by decide +kernel
theorem dL_law_586 : decode cL_law 586 = .ok (.aload_n 0, 1) := by decide +kernel
theorem dL_law_587 : decode cL_law 587 = .ok (.iload 4, 2) := by decide +kernel
theorem dL_law_589 : decode cL_law 589 = .ok (.iconst 1, 1) := by decide +kernel
theorem dL_law_590 : decode cL_law 590 = .ok (.iadd, 1) := by decide +kernel
theorem dL_law_591 : decode cL_law 591 = .ok (.iaload, 1) := by decide +kernel
theorem dL_law_592 : decode cL_law 592 = .ok (.invokevirtual 84, 3) := by decide +kernel
theorem dL_law_595 : decode cL_law 595 = .ok (.aload_n 2, 1) := by decide +kernel
theorem dL_law_596 : decode cL_law 596 = .ok (.aload_n 0, 1) := by decide +kernel
theorem dL_law_597 : decode cL_law 597 = .ok (.iload 4, 2) := by decide +kernel
theorem dL_law_599 : decode cL_law 599 = .ok (.iconst 1, 1) := by decide +kernel
theorem dL_law_600 : decode cL_law 600 = .ok (.iadd, 1) := by decide +kernel
theorem dL_law_601 : decode cL_law 601 = .ok (.iaload, 1) := by decide +kernel
theorem dL_law_602 : decode cL_law 602 = .ok (.invokevirtual 87, 3) := by decide +kernel
theorem dL_law_605 : decode cL_law 605 = .ok (.if_icmp .eq 870, 3) := by decide +kernel
theorem dL_law_610 : decode cL_law 610 = .ok (.aload_n 1, 1) := by decide +kernel
theorem dL_law_611 : decode cL_law 611 = .ok (.aload_n 0, 1) := by decide +kernel
theorem dL_law_612 : decode cL_law 612 = .ok (.iload 4, 2) := by decide +kernel
theorem dL_law_614 : decode cL_law 614 = .ok (.iconst 1, 1) := by decide +kernel
theorem dL_law_615 : decode cL_law 615 = .ok (.iadd, 1) := by decide +kernel
theorem dL_law_616 : decode cL_law 616 = .ok (.iaload, 1) := by decide +kernel
theorem dL_law_617 : decode cL_law 617 = .ok (.aload_n 0, 1) := by decide +kernel
theorem dL_law_618 : decode cL_law 618 = .ok (.iload 4, 2) := by decide +kernel
theorem dL_law_620 : decode cL_law 620 = .ok (.iconst 2, 1) := by decide +kernel
theorem dL_law_621 : decode cL_law 621 = .ok (.iadd, 1) := by decide +kernel
theorem dL_law_622 : decode cL_law 622 = .ok (.iaload, 1) := by decide +kernel
theorem dL_law_623 : decode cL_law 623 = .ok (.aload_n 3, 1) := by decide +kernel
theorem dL_law_624 : decode cL_law 624 = .ok (.invokestatic 88, 3) := by decide +kernel
theorem dL_law_627 : decode cL_law 627 = .ok (.istore 5, 2) := by decide +kernel
theorem dL_law_629 : decode cL_law 629 = .ok (.aload_n 2, 1) := by decide +kernel
theorem dL_law_630 : decode cL_law 630 = .ok (.aload_n 0, 1) := by decide +kernel
theorem dL_law_631 : decode cL_law 631 = .ok (.iload 4, 2) := by decide +kernel
theorem dL_law_633 : decode cL_law 633 = .ok (.iconst 1, 1) := by decide +kernel
theorem dL_law_634 : decode cL_law 634 = .ok (.iadd, 1) := by decide +kernel
theorem dL_law_635 : decode cL_law 635 = .ok (.iaload, 1) := by decide +kernel
theorem dL_law_636 : decode cL_law 636 = .ok (.aload_n 0, 1) := by decide +kernel
theorem dL_law_637 : decode cL_law 637 = .ok (.iload 4, 2) := by decide +kernel
theorem dL_law_639 : decode cL_law 639 = .ok (.iconst 2, 1) := by decide +kernel
theorem dL_law_640 : decode cL_law 640 = .ok (.iadd, 1) := by decide +kernel
theorem dL_law_641 : decode cL_law 641 = .ok (.iaload, 1) := by decide +kernel
theorem dL_law_642 : decode cL_law 642 = .ok (.invokevirtual 90, 3) := by decide +kernel
theorem dL_law_645 : decode cL_law 645 = .ok (.lstore 6, 2) := by decide +kernel
theorem dL_law_647 : decode cL_law 647 = .ok (.aload_n 2, 1) := by decide +kernel
theorem dL_law_648 : decode cL_law 648 = .ok (.invokevirtual 65, 3) := by decide +kernel
theorem dL_law_651 : decode cL_law 651 = .ok (.iload 5, 2) := by decide +kernel
theorem dL_law_653 : decode cL_law 653 = .ok (.if_icmp .eq 5, 3) := by decide +kernel
theorem dL_law_658 : decode cL_law 658 = .ok (.iload 5, 2) := by decide +kernel
theorem dL_law_660 : decode cL_law 660 = .ok (.ifCond .ne 14, 3) := by decide +kernel
theorem dL_law_674 : decode cL_law 674 = .ok (.goto 801, 3) := by decide +kernel
theorem dL_law_677 : decode cL_law 677 = .ok (.aload_n 1, 1) := by decide +kernel
theorem dL_law_678 : decode cL_law 678 = .ok (.invokevirtual 91, 3) := by decide +kernel
theorem dL_law_681 : decode cL_law 681 = .ok (.aload_n 2, 1) := by decide +kernel
theorem dL_law_682 : decode cL_law 682 = .ok (.invokevirtual 94, 3) := by decide +kernel
theorem dL_law_685 : decode cL_law 685 = .ok (.if_icmp .eq 790, 3) := by decide +kernel
theorem dL_law_1475 : decode cL_law 1475 = .ok (.iinc 4 6, 3) := by decide +kernel
theorem dL_law_1478 : decode cL_law 1478 = .ok (.goto (-1455), 3) := by decide +kernel
theorem dL_law_1481 : decode cL_law 1481 = .ok (.iconst 1, 1) := by decide +kernel
theorem dL_law_1482 : decode cL_law 1482 = .ok (.ireturn, 1) := by decide +kernel
/-! THE CLAIM OUT OF ONE WALK OF THE LAW'S BODY. Your part is whole_start (and what it stands on); all else here is the same for every law, but numbers. -/
def R_law : String := "ChanceRingsLaw"
def lw_P (b : Addr) (xs : List Int32) (args : Array Value) (s : State) : Prop := args = #[.ref b] ∧ s.IntsAt b xs ∧ xs.length ≤ 6 ∧ (Jvm.Cond.and given_1 narrow_1).before args s = true
def lw_Q (_ : Array Value) (s : State) (o : Outcome) (t : State) : Prop := o = .returned (some (.int 1)) ∧ Framed s o t [] 600002 7302232
def lw_Z (below : List Frame) (a : Array Value) (s : State) : State → Prop := fun t => ∃ o, t.status = .running ∧ Ended t below o ∧ lw_Q a s o t
/-- the law's own end, with 1 on the stack, nothing written that was there before, its room as the claim has it -/
theorem lw_ret {p : Program} {l : Launch} {e : Env} {s : State} {m : MethodId} {below : List Frame} {meth : Method} {c : Code} {b : Nat} (hx : p.tables.exec = Jvm.exec) (hb : c.code = code) (hr : meth.sig.returnType = ret) (hlocks : meth.locks = false) {pc : Nat} {H : Heap} {ls : Array Slot} (hdg : decode code pc = .ok (.ireturn, 1)) : W p l e room_1 s m #[Value.ref b] below meth c H [] 600002 7302232 (lw_Z below #[Value.ref b] s) (F0 m pc ls [.int 1]) := by
  intro T hT X
  obtain ⟨fs, hret, hrun, hended, hW, hframe⟩ := X.leave (v := some (.int 1)) (hlocks := hlocks) (fun h => by rw [hr] at h; cases h)
  have hmeth' : T.vm.method? m = some meth := X.method'
  refine ⟨T.setFrames fs, ?_, .returned (some (.int 1)), hrun, hended, rfl, ⟨_, rfl⟩, hW, hframe⟩
  jvm_step X.here [X.here.top, hx, hb, hdg, hmeth', hr, ret, narrow_b1]
  (try refine ⟨rfl, ?_⟩); (try refine ⟨rfl, ?_⟩)
  first | (intro acts; rw [hret _ acts rfl rfl rfl]) | rw [hret _ _ rfl rfl rfl]
  exact Steps.refl _
/-- what holds at the law's entry: the machine, the code, the tables' words (any of lw_tbl by 'hts w (by decide +kernel)'), the script of L ints xs at the cell b, what the Statement gives of the start (any of its parts by flat_of_before) -/
def lw_At (p : Program) (s : State) (m : MethodId) (meth : Method) (c : Code) (b L : Nat) (xs : Nat → Int32) : Prop :=
  p.tables.exec = Jvm.exec ∧ c.code = code ∧ meth.sig.returnType = ret ∧ c.maxLocals = 8 ∧ s.vm.findClass R_law = some m.cls ∧ (∀ w ∈ lw_tbl, w.before #[Value.ref b] s = true) ∧ va_X b L xs s s.heap ∧ b < s.heap.size ∧ meth.locks = false ∧ (Jvm.Cond.and given_1 narrow_1).before #[Value.ref b] s = true
set_option maxHeartbeats 4000000 in
set_option maxRecDepth 100000 in
theorem law_end {p : Program} {l : Launch} {e : Env} {s : State} {m : MethodId} {below : List Frame} {meth : Method} {c : Code} {b : Nat} {xs : Nat → Int32} {A : Nat → Prop} (C0 : lw_At p s m meth c b 6 xs) (hAl : ∀ q : Nat, A q → s.heap.size ≤ q) (hbA : ¬ A b) : ∀ (H : Heap) (locs : List Loc) (ls : Array Slot) (cells slots : Nat), cells ≤ 600002 → slots ≤ 7302232 → va_S A s.heap H locs → lv_has ls 8 [(4, .int 0), (0, .ref b)] → W p l e room_1 s m #[Value.ref b] below meth c H locs cells slots (lw_Z below #[Value.ref b] s) (F0 m 1475 ls []) := by
  obtain ⟨hx, hb, hr, hml, hown, hts0, hX, hbl, hlocks, hgv⟩ := id C0
  have hts : ∀ w ∈ wsL_law, w.before _ s = true := fun w h => hts0 w (wsL_law_in w h)
  intro H locs ls cells slots h1 h2 hS hl
  refine lv_iinc (v := 6) (lv' := [(4, .int 6), (0, .ref b)]) hx hb dL_law_1475 hl (k := 0) rfl (by decide) (by decide) rfl (fun ls hl => ?_)
  refine lv_goto (tgt := 23) hx hb dL_law_1478 (by decide) ?_
  refine lv_iload hx hb dL_law_23 (lv_at hl 0 rfl) ?_
  refine lv_aload_n hx hb dL_law_25 rfl (lv_at hl 1 rfl) ?_
  refine va_slen hx hb hX hbl hbA hS dL_law_26 ?_
  refine tz_i (y := 6) (by decide) ?_
  refine lv_bipush (v := 6) hx hb dL_law_27 (by decide) ?_
  refine lv_isub hx hb dL_law_29 ?_
  refine tz_i (y := 0) (by decide +kernel) ?_
  refine lv_icmp_gt (tgt := 1481) hx hb dL_law_30 (by decide) (fun _ => ?_) (fun h9 => (h9 (by decide)).elim)
  refine lv_iconst (v := 1) hx hb dL_law_1481 (by decide) ?_
  refine va_forget (fun q hq => hAl _ (hS.2.2 q hq)) ?_
  refine W.widen (k := 600002) (n := 7302232) h1 h2 ?_
  exact lw_ret hx hb hr hlocks dL_law_1482
set_option maxHeartbeats 4000000 in
set_option maxRecDepth 100000 in
theorem law_case_0 {p : Program} {l : Launch} {e : Env} {s : State} {m : MethodId} {below : List Frame} {meth : Method} {c : Code} {b : Nat} {xs : Nat → Int32} {A : Nat → Prop} {D : va_G} {g : Nat → ClassId} (x : Nat) (mm : Nat) (oa : Nat) (tp : Nat) (n : Nat) (dr : Nat) (x_images : Nat) (x_kept : Nat) (rd : Nat) (st : Nat) (tl : Nat) (rg : Nat) (sv : Nat) (oc : Nat) (x_tried : Nat) (lf : Nat) (x_stoppedWays : Nat) (x_stoppedWorth : Nat) (x_withinWorth : Nat) (tp_bytes : Nat) (m_s : Nat) (m_spare : Nat) (m_kept : Nat) (m_undone : Nat) (m_triedWay : Nat) (m_isKept : Nat) (m_tape : Nat) (m_letters : Nat) (m_choice : Nat) (m_row : Nat) (m_up : Nat) (m_low : Nat) (m_m : Nat) (m_bestUp : Nat) (m_bestLow : Nat) (m_replyUp : Nat) (m_replyLow : Nat) (m_worthUp : Nat) (m_worthLow : Nat) (m_bestWay : Nat) (m_told : Nat) (hst : l.stackTraces = false) (C0 : lw_At p s m meth c b 6 xs) (hA : ∀ q : Nat, s.heap.size ≤ q → A q) (hAl : ∀ q : Nat, A q → s.heap.size ≤ q) (hbA : ¬ A b) (hK : va_K D vwCl (TY g) s) (hZ : ZT A s s.heap) : ∀ (H : Heap) (locs : List Loc) (ls : Array Slot), va_P D vwCl [(x, .inr (11, [.ref tp, .ref n, .ref dr, .ref x_images, .ref x_kept, .ref rd, .ref st, .ref tl, .ref rg, .ref sv, .ref oc, .ref x_tried, .ref lf, .int 0, .ref x_stoppedWays, .ref x_stoppedWorth, .int 0, .ref x_withinWorth])), (tp, .inr (8, [.ref tp_bytes, .int 0])), (tp_bytes, .inl (g 0, 440, .inl (fun _ => 0))), (mm, .inr (12, (.int 0 :: .ref m_s :: .ref m_spare :: .ref m_kept :: .ref m_undone :: .ref m_triedWay :: .ref m_isKept :: .int 0 :: .ref m_tape :: .int 0 :: .int 0 :: .int 0 :: .int 0 :: .int 0 :: .int 0 :: .int 0 :: .int 0 :: .int 0 :: .ref m_letters :: .int 0 :: .ref m_choice :: .ref m_row :: .ref m_up :: .ref m_low :: .ref m_m :: .ref m_bestUp :: .ref m_bestLow :: .ref m_replyUp :: .ref m_replyLow :: .ref m_worthUp :: .ref m_worthLow :: .ref m_bestWay :: .int 0 :: .ref m_told :: .int 0 :: []))), (m_tape, .inl (g 2, 440, .inl (fun _ => 0)))] H → va_D A [(x, .inr (11, [.ref tp, .ref n, .ref dr, .ref x_images, .ref x_kept, .ref rd, .ref st, .ref tl, .ref rg, .ref sv, .ref oc, .ref x_tried, .ref lf, .int 0, .ref x_stoppedWays, .ref x_stoppedWorth, .int 0, .ref x_withinWorth])), (tp, .inr (8, [.ref tp_bytes, .int 0])), (tp_bytes, .inl (g 0, 440, .inl (fun _ => 0))), (mm, .inr (12, (.int 0 :: .ref m_s :: .ref m_spare :: .ref m_kept :: .ref m_undone :: .ref m_triedWay :: .ref m_isKept :: .int 0 :: .ref m_tape :: .int 0 :: .int 0 :: .int 0 :: .int 0 :: .int 0 :: .int 0 :: .int 0 :: .int 0 :: .int 0 :: .ref m_letters :: .int 0 :: .ref m_choice :: .ref m_row :: .ref m_up :: .ref m_low :: .ref m_m :: .ref m_bestUp :: .ref m_bestLow :: .ref m_replyUp :: .ref m_replyLow :: .ref m_worthUp :: .ref m_worthLow :: .ref m_bestWay :: .int 0 :: .ref m_told :: .int 0 :: []))), (m_tape, .inl (g 2, 440, .inl (fun _ => 0)))] → va_S A s.heap H locs → lv_has ls 8 [(4, .int 0), (3, .ref oa), (2, .ref mm), (1, .ref x), (0, .ref b)] → W p l e room_1 s m #[Value.ref b] below meth c H locs 114 6056 (lw_Z below #[Value.ref b] s) (F0 m 196 ls []) := by
  obtain ⟨hx, hb, hr, hml, hown, hts0, hX, hbl, hlocks, hgv⟩ := id C0
  have hts : ∀ w ∈ wsL_law, w.before _ s = true := fun w h => hts0 w (wsL_law_in w h)
  intro H locs ls hP hD hS hl
  refine lv_aload_n hx hb dL_law_196 rfl (lv_at hl 3 rfl) ?_
  refine lv_aload_n hx hb dL_law_197 rfl (lv_at hl 4 rfl) ?_
  refine lv_iload hx hb dL_law_198 (lv_at hl 0 rfl) ?_
  refine lv_iconst (v := 1) hx hb dL_law_200 (by decide) ?_
  refine lv_iadd hx hb dL_law_201 ?_
  refine tz_i (y := 1) (by decide +kernel) ?_
  refine va_sld hx hb hX hbl hbA hS (tz_in (by decide +kernel)) dL_law_202 ?_
  refine tz_i (y := xs 1) (congrArg xs (by decide +kernel)) ?_
  refine lv_aload_n hx hb dL_law_203 rfl (lv_at hl 4 rfl) ?_
  refine lv_iload hx hb dL_law_204 (lv_at hl 0 rfl) ?_
  refine lv_iconst (v := 2) hx hb dL_law_206 (by decide) ?_
  refine lv_iadd hx hb dL_law_207 ?_
  refine tz_i (y := 2) (by decide +kernel) ?_
  refine va_sld hx hb hX hbl hbA hS (tz_in (by decide +kernel)) dL_law_208 ?_
  refine tz_i (y := xs 2) (congrArg xs (by decide +kernel)) ?_
  refine lv_aload_n hx hb dL_law_209 rfl (lv_at hl 4 rfl) ?_
  refine lv_iload hx hb dL_law_210 (lv_at hl 0 rfl) ?_
  refine lv_iconst (v := 3) hx hb dL_law_212 (by decide) ?_
  refine lv_iadd hx hb dL_law_213 ?_
  refine tz_i (y := 3) (by decide +kernel) ?_
  refine va_sld hx hb hX hbl hbA hS (tz_in (by decide +kernel)) dL_law_214 ?_
  refine tz_i (y := xs 3) (congrArg xs (by decide +kernel)) ?_
  refine lv_aload_n hx hb dL_law_215 rfl (lv_at hl 4 rfl) ?_
  refine lv_iload hx hb dL_law_216 (lv_at hl 0 rfl) ?_
  refine lv_iconst (v := 4) hx hb dL_law_218 (by decide) ?_
  refine lv_iadd hx hb dL_law_219 ?_
  refine tz_i (y := 4) (by decide +kernel) ?_
  refine va_sld hx hb hX hbl hbA hS (tz_in (by decide +kernel)) dL_law_220 ?_
  refine tz_i (y := xs 4) (congrArg xs (by decide +kernel)) ?_
  refine lv_aload_n hx hb dL_law_221 rfl (lv_at hl 4 rfl) ?_
  refine lv_iload hx hb dL_law_222 (lv_at hl 0 rfl) ?_
  refine lv_iconst (v := 5) hx hb dL_law_224 (by decide) ?_
  refine lv_iadd hx hb dL_law_225 ?_
  refine tz_i (y := 5) (by decide +kernel) ?_
  refine va_sld hx hb hX hbl hbA hS (tz_in (by decide +kernel)) dL_law_226 ?_
  refine tz_i (y := xs 5) (congrArg xs (by decide +kernel)) ?_
  have hPc := hP.sub (ws' := [(x, .inr (11, [.ref tp, .ref n, .ref dr, .ref x_images, .ref x_kept, .ref rd, .ref st, .ref tl, .ref rg, .ref sv, .ref oc, .ref x_tried, .ref lf, .int 0, .ref x_stoppedWays, .ref x_stoppedWorth, .int 0, .ref x_withinWorth])), (tp, .inr (8, [.ref tp_bytes, .int 0])), (tp_bytes, .inl (g 0, 440, .inl (fun _ => 0)))]) [0, 1, 2] rfl
  have hDc := hD.sub (ws' := [(x, .inr (11, [.ref tp, .ref n, .ref dr, .ref x_images, .ref x_kept, .ref rd, .ref st, .ref tl, .ref rg, .ref sv, .ref oc, .ref x_tried, .ref lf, .int 0, .ref x_stoppedWays, .ref x_stoppedWorth, .int 0, .ref x_withinWorth])), (tp, .inr (8, [.ref tp_bytes, .int 0])), (tp_bytes, .inl (g 0, 440, .inl (fun _ => 0)))]) [0, 1, 2] (by decide) rfl
  have hFc := va_free (wc := [(x, .inr (11, [.ref tp, .ref n, .ref dr, .ref x_images, .ref x_kept, .ref rd, .ref st, .ref tl, .ref rg, .ref sv, .ref oc, .ref x_tried, .ref lf, .int 0, .ref x_stoppedWays, .ref x_stoppedWorth, .int 0, .ref x_withinWorth])), (tp, .inr (8, [.ref tp_bytes, .int 0])), (tp_bytes, .inl (g 0, 440, .inl (fun _ => 0)))]) hD hS hA [0, 1, 2] rfl
  refine va_calli (va_runV (As := [.int (xs 1), .int (xs 2), .int (xs 3), .int (xs 4), .int (xs 5)]) (rest := []) ⟨hx, hb, hml, hown, hts⟩ (c_X11_feed l D g H.size x (xs 1) (xs 2) (xs 3) (xs 4) (xs 5) tp n dr x_images x_kept rd st tl rg sv oc x_tried lf x_stoppedWays x_stoppedWorth x_withinWorth tp_bytes (fun _ => 0)) (cwV 5 hts (tz_gV qw_573 qw_574 qw_575 qw_165 qw_576) rfl rfl rfl (by decide +kernel) ⟨Nat.le_of_ble_eq_true rfl, Nat.le_of_ble_eq_true rfl⟩) ⟨tz_blQ, va_recv hK hPc (ci := 11) (q0 := 0) rfl rfl, tz_preQ hPc hK hDc⟩ rfl rfl hl.1 rfl (lv_room (Nat.le_of_ble_eq_true rfl)) dL_law_227 ⟨Nat.le_of_ble_eq_true rfl, Nat.le_of_ble_eq_true rfl⟩) hS (fun q _ h => hFc q h) hFc (fun r_601 u t H1 locs ht hvm hw hB hz1 hk1 hS => ?_)
  obtain ⟨hP, hD⟩ := va_join (wr := [(mm, .inr (12, (.int 0 :: .ref m_s :: .ref m_spare :: .ref m_kept :: .ref m_undone :: .ref m_triedWay :: .ref m_isKept :: .int 0 :: .ref m_tape :: .int 0 :: .int 0 :: .int 0 :: .int 0 :: .int 0 :: .int 0 :: .int 0 :: .int 0 :: .int 0 :: .ref m_letters :: .int 0 :: .ref m_choice :: .ref m_row :: .ref m_up :: .ref m_low :: .ref m_m :: .ref m_bestUp :: .ref m_bestLow :: .ref m_replyUp :: .ref m_replyLow :: .ref m_worthUp :: .ref m_worthLow :: .ref m_bestWay :: .int 0 :: .ref m_told :: .int 0 :: []))), (m_tape, .inl (g 2, 440, .inl (fun _ => 0)))]) (w1 := []) hP hD [0, 1, 2] [3, 4] rfl rfl (by decide) (by decide) hk1 hFc tz_nilP tz_nilD
  generalize H1 = H at hP hS ⊢
  have hP : va_P D vwCl [(mm, .inr (12, (.int 0 :: .ref m_s :: .ref m_spare :: .ref m_kept :: .ref m_undone :: .ref m_triedWay :: .ref m_isKept :: .int 0 :: .ref m_tape :: .int 0 :: .int 0 :: .int 0 :: .int 0 :: .int 0 :: .int 0 :: .int 0 :: .int 0 :: .int 0 :: .ref m_letters :: .int 0 :: .ref m_choice :: .ref m_row :: .ref m_up :: .ref m_low :: .ref m_m :: .ref m_bestUp :: .ref m_bestLow :: .ref m_replyUp :: .ref m_replyLow :: .ref m_worthUp :: .ref m_worthLow :: .ref m_bestWay :: .int 0 :: .ref m_told :: .int 0 :: []))), (m_tape, .inl (g 2, 440, .inl (fun _ => 0)))] H := hP
  have hD : va_D A [(mm, .inr (12, (.int 0 :: .ref m_s :: .ref m_spare :: .ref m_kept :: .ref m_undone :: .ref m_triedWay :: .ref m_isKept :: .int 0 :: .ref m_tape :: .int 0 :: .int 0 :: .int 0 :: .int 0 :: .int 0 :: .int 0 :: .int 0 :: .int 0 :: .int 0 :: .ref m_letters :: .int 0 :: .ref m_choice :: .ref m_row :: .ref m_up :: .ref m_low :: .ref m_m :: .ref m_bestUp :: .ref m_bestLow :: .ref m_replyUp :: .ref m_replyLow :: .ref m_worthUp :: .ref m_worthLow :: .ref m_bestWay :: .int 0 :: .ref m_told :: .int 0 :: []))), (m_tape, .inl (g 2, 440, .inl (fun _ => 0)))] := hD
  subst hw
  refine lv_aload_n hx hb dL_law_230 rfl (lv_at hl 2 rfl) ?_
  refine lv_aload_n hx hb dL_law_231 rfl (lv_at hl 4 rfl) ?_
  refine lv_iload hx hb dL_law_232 (lv_at hl 0 rfl) ?_
  refine lv_iconst (v := 1) hx hb dL_law_234 (by decide) ?_
  refine lv_iadd hx hb dL_law_235 ?_
  refine tz_i (y := 1) (by decide +kernel) ?_
  refine va_sld hx hb hX hbl hbA hS (tz_in (by decide +kernel)) dL_law_236 ?_
  refine tz_i (y := xs 1) (congrArg xs (by decide +kernel)) ?_
  refine lv_aload_n hx hb dL_law_237 rfl (lv_at hl 4 rfl) ?_
  refine lv_iload hx hb dL_law_238 (lv_at hl 0 rfl) ?_
  refine lv_iconst (v := 2) hx hb dL_law_240 (by decide) ?_
  refine lv_iadd hx hb dL_law_241 ?_
  refine tz_i (y := 2) (by decide +kernel) ?_
  refine va_sld hx hb hX hbl hbA hS (tz_in (by decide +kernel)) dL_law_242 ?_
  refine tz_i (y := xs 2) (congrArg xs (by decide +kernel)) ?_
  refine lv_aload_n hx hb dL_law_243 rfl (lv_at hl 4 rfl) ?_
  refine lv_iload hx hb dL_law_244 (lv_at hl 0 rfl) ?_
  refine lv_iconst (v := 3) hx hb dL_law_246 (by decide) ?_
  refine lv_iadd hx hb dL_law_247 ?_
  refine tz_i (y := 3) (by decide +kernel) ?_
  refine va_sld hx hb hX hbl hbA hS (tz_in (by decide +kernel)) dL_law_248 ?_
  refine tz_i (y := xs 3) (congrArg xs (by decide +kernel)) ?_
  refine lv_aload_n hx hb dL_law_249 rfl (lv_at hl 4 rfl) ?_
  refine lv_iload hx hb dL_law_250 (lv_at hl 0 rfl) ?_
  refine lv_iconst (v := 4) hx hb dL_law_252 (by decide) ?_
  refine lv_iadd hx hb dL_law_253 ?_
  refine tz_i (y := 4) (by decide +kernel) ?_
  refine va_sld hx hb hX hbl hbA hS (tz_in (by decide +kernel)) dL_law_254 ?_
  refine tz_i (y := xs 4) (congrArg xs (by decide +kernel)) ?_
  refine lv_aload_n hx hb dL_law_255 rfl (lv_at hl 4 rfl) ?_
  refine lv_iload hx hb dL_law_256 (lv_at hl 0 rfl) ?_
  refine lv_iconst (v := 5) hx hb dL_law_258 (by decide) ?_
  refine lv_iadd hx hb dL_law_259 ?_
  refine tz_i (y := 5) (by decide +kernel) ?_
  refine va_sld hx hb hX hbl hbA hS (tz_in (by decide +kernel)) dL_law_260 ?_
  refine tz_i (y := xs 5) (congrArg xs (by decide +kernel)) ?_
  have hPc := hP.sub (ws' := [(mm, .inr (12, (.int 0 :: .ref m_s :: .ref m_spare :: .ref m_kept :: .ref m_undone :: .ref m_triedWay :: .ref m_isKept :: .int 0 :: .ref m_tape :: .int 0 :: .int 0 :: .int 0 :: .int 0 :: .int 0 :: .int 0 :: .int 0 :: .int 0 :: .int 0 :: .ref m_letters :: .int 0 :: .ref m_choice :: .ref m_row :: .ref m_up :: .ref m_low :: .ref m_m :: .ref m_bestUp :: .ref m_bestLow :: .ref m_replyUp :: .ref m_replyLow :: .ref m_worthUp :: .ref m_worthLow :: .ref m_bestWay :: .int 0 :: .ref m_told :: .int 0 :: []))), (m_tape, .inl (g 2, 440, .inl (fun _ => 0)))]) [0, 1] rfl
  have hDc := hD.sub (ws' := [(mm, .inr (12, (.int 0 :: .ref m_s :: .ref m_spare :: .ref m_kept :: .ref m_undone :: .ref m_triedWay :: .ref m_isKept :: .int 0 :: .ref m_tape :: .int 0 :: .int 0 :: .int 0 :: .int 0 :: .int 0 :: .int 0 :: .int 0 :: .int 0 :: .int 0 :: .ref m_letters :: .int 0 :: .ref m_choice :: .ref m_row :: .ref m_up :: .ref m_low :: .ref m_m :: .ref m_bestUp :: .ref m_bestLow :: .ref m_replyUp :: .ref m_replyLow :: .ref m_worthUp :: .ref m_worthLow :: .ref m_bestWay :: .int 0 :: .ref m_told :: .int 0 :: []))), (m_tape, .inl (g 2, 440, .inl (fun _ => 0)))]) [0, 1] (by decide) rfl
  have hFc := va_free (wc := [(mm, .inr (12, (.int 0 :: .ref m_s :: .ref m_spare :: .ref m_kept :: .ref m_undone :: .ref m_triedWay :: .ref m_isKept :: .int 0 :: .ref m_tape :: .int 0 :: .int 0 :: .int 0 :: .int 0 :: .int 0 :: .int 0 :: .int 0 :: .int 0 :: .int 0 :: .ref m_letters :: .int 0 :: .ref m_choice :: .ref m_row :: .ref m_up :: .ref m_low :: .ref m_m :: .ref m_bestUp :: .ref m_bestLow :: .ref m_replyUp :: .ref m_replyLow :: .ref m_worthUp :: .ref m_worthLow :: .ref m_bestWay :: .int 0 :: .ref m_told :: .int 0 :: []))), (m_tape, .inl (g 2, 440, .inl (fun _ => 0)))]) hD hS hA [0, 1] rfl
  refine va_calli (va_runV (As := [.int (xs 1), .int (xs 2), .int (xs 3), .int (xs 4), .int (xs 5)]) (rest := [.int 20]) ⟨hx, hb, hml, hown, hts⟩ (c_X12_feed l D g H.size mm (xs 1) (xs 2) (xs 3) (xs 4) (xs 5) 0 m_s m_spare m_kept m_undone m_triedWay m_isKept 0 m_tape 0 0 0 0 0 0 0 0 m_letters 0 m_choice m_row m_up m_low m_m m_bestUp m_bestLow m_replyUp m_replyLow m_worthUp m_worthLow m_bestWay 0 m_told 0 (fun _ => 0)) (cwV 5 hts (tz_gV qw_577 qw_578 qw_579 qw_253 qw_580) rfl rfl rfl (by decide +kernel) ⟨Nat.le_of_ble_eq_true rfl, Nat.le_of_ble_eq_true rfl⟩) ⟨tz_blQ, va_recv hK hPc (ci := 12) (q0 := 0) rfl rfl, tz_preQ hPc hK hDc⟩ rfl rfl hl.1 rfl (lv_room (Nat.le_of_ble_eq_true rfl)) dL_law_261 ⟨Nat.le_of_ble_eq_true rfl, Nat.le_of_ble_eq_true rfl⟩) hS (fun q _ h => hFc q h) hFc (fun r_602 u t H1 locs ht hvm hw hB hz1 hk1 hS => ?_)
  obtain ⟨hP, hD⟩ := va_join (wr := []) (w1 := []) hP hD [0, 1] [] rfl rfl (by decide) (by decide) hk1 hFc tz_nilP tz_nilD
  generalize H1 = H at hP hS ⊢
  have hP : va_P D vwCl [] H := hP
  have hD : va_D A [] := hD
  subst hw
  refine lv_icmp_eq (tgt := 1475) hx hb dL_law_264 (by decide) (fun _ => ?_) (fun h9 => (h9 (by decide)).elim)
  exact law_end C0 hAl hbA H locs ls _ _ (by decide) (by decide) hS (lv_sub hl [0, 4] rfl)
set_option maxHeartbeats 4000000 in
set_option maxRecDepth 100000 in
theorem law_case_1 {p : Program} {l : Launch} {e : Env} {s : State} {m : MethodId} {below : List Frame} {meth : Method} {c : Code} {b : Nat} {xs : Nat → Int32} {A : Nat → Prop} {D : va_G} {g : Nat → ClassId} (x : Nat) (mm : Nat) (oa : Nat) (tp : Nat) (n : Nat) (dr : Nat) (x_images : Nat) (x_kept : Nat) (rd : Nat) (st : Nat) (tl : Nat) (rg : Nat) (sv : Nat) (oc : Nat) (x_tried : Nat) (lf : Nat) (x_stoppedWays : Nat) (x_stoppedWorth : Nat) (x_withinWorth : Nat) (tp_bytes : Nat) (m_s : Nat) (m_spare : Nat) (m_kept : Nat) (m_undone : Nat) (m_triedWay : Nat) (m_isKept : Nat) (m_tape : Nat) (m_letters : Nat) (m_choice : Nat) (m_row : Nat) (m_up : Nat) (m_low : Nat) (m_m : Nat) (m_bestUp : Nat) (m_bestLow : Nat) (m_replyUp : Nat) (m_replyLow : Nat) (m_worthUp : Nat) (m_worthLow : Nat) (m_bestWay : Nat) (m_told : Nat) (hst : l.stackTraces = false) (C0 : lw_At p s m meth c b 6 xs) (hA : ∀ q : Nat, s.heap.size ≤ q → A q) (hAl : ∀ q : Nat, A q → s.heap.size ≤ q) (hbA : ¬ A b) (hK : va_K D vwCl (TY g) s) (hZ : ZT A s s.heap) : ∀ (H : Heap) (locs : List Loc) (ls : Array Slot), va_P D vwCl [(x, .inr (11, [.ref tp, .ref n, .ref dr, .ref x_images, .ref x_kept, .ref rd, .ref st, .ref tl, .ref rg, .ref sv, .ref oc, .ref x_tried, .ref lf, .int 0, .ref x_stoppedWays, .ref x_stoppedWorth, .int 0, .ref x_withinWorth])), (tp, .inr (8, [.ref tp_bytes, .int 0])), (mm, .inr (12, (.int 0 :: .ref m_s :: .ref m_spare :: .ref m_kept :: .ref m_undone :: .ref m_triedWay :: .ref m_isKept :: .int 0 :: .ref m_tape :: .int 0 :: .int 0 :: .int 0 :: .int 0 :: .int 0 :: .int 0 :: .int 0 :: .int 0 :: .int 0 :: .ref m_letters :: .int 0 :: .ref m_choice :: .ref m_row :: .ref m_up :: .ref m_low :: .ref m_m :: .ref m_bestUp :: .ref m_bestLow :: .ref m_replyUp :: .ref m_replyLow :: .ref m_worthUp :: .ref m_worthLow :: .ref m_bestWay :: .int 0 :: .ref m_told :: .int 0 :: [])))] H → va_D A [(x, .inr (11, [.ref tp, .ref n, .ref dr, .ref x_images, .ref x_kept, .ref rd, .ref st, .ref tl, .ref rg, .ref sv, .ref oc, .ref x_tried, .ref lf, .int 0, .ref x_stoppedWays, .ref x_stoppedWorth, .int 0, .ref x_withinWorth])), (tp, .inr (8, [.ref tp_bytes, .int 0])), (mm, .inr (12, (.int 0 :: .ref m_s :: .ref m_spare :: .ref m_kept :: .ref m_undone :: .ref m_triedWay :: .ref m_isKept :: .int 0 :: .ref m_tape :: .int 0 :: .int 0 :: .int 0 :: .int 0 :: .int 0 :: .int 0 :: .int 0 :: .int 0 :: .int 0 :: .ref m_letters :: .int 0 :: .ref m_choice :: .ref m_row :: .ref m_up :: .ref m_low :: .ref m_m :: .ref m_bestUp :: .ref m_bestLow :: .ref m_replyUp :: .ref m_replyLow :: .ref m_worthUp :: .ref m_worthLow :: .ref m_bestWay :: .int 0 :: .ref m_told :: .int 0 :: [])))] → va_S A s.heap H locs → lv_has ls 8 [(4, .int 0), (3, .ref oa), (2, .ref mm), (1, .ref x), (0, .ref b)] → W p l e room_1 s m #[Value.ref b] below meth c H locs 114 6056 (lw_Z below #[Value.ref b] s) (F0 m 269 ls []) := by
  obtain ⟨hx, hb, hr, hml, hown, hts0, hX, hbl, hlocks, hgv⟩ := id C0
  have hts : ∀ w ∈ wsL_law, w.before _ s = true := fun w h => hts0 w (wsL_law_in w h)
  intro H locs ls hP hD hS hl
  refine lv_aload_n hx hb dL_law_269 rfl (lv_at hl 3 rfl) ?_
  refine lv_aload_n hx hb dL_law_270 rfl (lv_at hl 4 rfl) ?_
  refine lv_iload hx hb dL_law_271 (lv_at hl 0 rfl) ?_
  refine lv_iconst (v := 1) hx hb dL_law_273 (by decide) ?_
  refine lv_iadd hx hb dL_law_274 ?_
  refine tz_i (y := 1) (by decide +kernel) ?_
  refine va_sld hx hb hX hbl hbA hS (tz_in (by decide +kernel)) dL_law_275 ?_
  refine tz_i (y := xs 1) (congrArg xs (by decide +kernel)) ?_
  have hPc := hP.sub (ws' := [(x, .inr (11, [.ref tp, .ref n, .ref dr, .ref x_images, .ref x_kept, .ref rd, .ref st, .ref tl, .ref rg, .ref sv, .ref oc, .ref x_tried, .ref lf, .int 0, .ref x_stoppedWays, .ref x_stoppedWorth, .int 0, .ref x_withinWorth])), (tp, .inr (8, [.ref tp_bytes, .int 0]))]) [0, 1] rfl
  have hDc := hD.sub (ws' := [(x, .inr (11, [.ref tp, .ref n, .ref dr, .ref x_images, .ref x_kept, .ref rd, .ref st, .ref tl, .ref rg, .ref sv, .ref oc, .ref x_tried, .ref lf, .int 0, .ref x_stoppedWays, .ref x_stoppedWorth, .int 0, .ref x_withinWorth])), (tp, .inr (8, [.ref tp_bytes, .int 0]))]) [0, 1] (by decide) rfl
  have hFc := va_free (wc := [(x, .inr (11, [.ref tp, .ref n, .ref dr, .ref x_images, .ref x_kept, .ref rd, .ref st, .ref tl, .ref rg, .ref sv, .ref oc, .ref x_tried, .ref lf, .int 0, .ref x_stoppedWays, .ref x_stoppedWorth, .int 0, .ref x_withinWorth])), (tp, .inr (8, [.ref tp_bytes, .int 0]))]) hD hS hA [0, 1] rfl
  refine va_calli (va_runV (As := [.int (xs 1)]) (rest := []) ⟨hx, hb, hml, hown, hts⟩ (c_X11_end l D g H.size x (xs 1) tp n dr x_images x_kept rd st tl rg sv oc x_tried lf x_stoppedWays x_stoppedWorth x_withinWorth tp_bytes) (cwV 1 hts (tz_gV qw_581 qw_582 qw_583 qw_165 qw_584) rfl rfl rfl (by decide +kernel) ⟨Nat.le_of_ble_eq_true rfl, Nat.le_of_ble_eq_true rfl⟩) ⟨tz_blQ, va_recv hK hPc (ci := 11) (q0 := 0) rfl rfl, tz_preQ hPc hK hDc⟩ rfl rfl hl.1 rfl (lv_room (Nat.le_of_ble_eq_true rfl)) dL_law_276 ⟨Nat.le_of_ble_eq_true rfl, Nat.le_of_ble_eq_true rfl⟩) hS (fun q _ h => hFc q h) hFc (fun r_607 u t H1 locs ht hvm hw hB hz1 hk1 hS => ?_)
  obtain ⟨hP, hD⟩ := va_join (wr := [(mm, .inr (12, (.int 0 :: .ref m_s :: .ref m_spare :: .ref m_kept :: .ref m_undone :: .ref m_triedWay :: .ref m_isKept :: .int 0 :: .ref m_tape :: .int 0 :: .int 0 :: .int 0 :: .int 0 :: .int 0 :: .int 0 :: .int 0 :: .int 0 :: .int 0 :: .ref m_letters :: .int 0 :: .ref m_choice :: .ref m_row :: .ref m_up :: .ref m_low :: .ref m_m :: .ref m_bestUp :: .ref m_bestLow :: .ref m_replyUp :: .ref m_replyLow :: .ref m_worthUp :: .ref m_worthLow :: .ref m_bestWay :: .int 0 :: .ref m_told :: .int 0 :: [])))]) (w1 := []) hP hD [0, 1] [2] rfl rfl (by decide) (by decide) hk1 hFc tz_nilP tz_nilD
  generalize H1 = H at hP hS ⊢
  have hP : va_P D vwCl [(mm, .inr (12, (.int 0 :: .ref m_s :: .ref m_spare :: .ref m_kept :: .ref m_undone :: .ref m_triedWay :: .ref m_isKept :: .int 0 :: .ref m_tape :: .int 0 :: .int 0 :: .int 0 :: .int 0 :: .int 0 :: .int 0 :: .int 0 :: .int 0 :: .int 0 :: .ref m_letters :: .int 0 :: .ref m_choice :: .ref m_row :: .ref m_up :: .ref m_low :: .ref m_m :: .ref m_bestUp :: .ref m_bestLow :: .ref m_replyUp :: .ref m_replyLow :: .ref m_worthUp :: .ref m_worthLow :: .ref m_bestWay :: .int 0 :: .ref m_told :: .int 0 :: [])))] H := hP
  have hD : va_D A [(mm, .inr (12, (.int 0 :: .ref m_s :: .ref m_spare :: .ref m_kept :: .ref m_undone :: .ref m_triedWay :: .ref m_isKept :: .int 0 :: .ref m_tape :: .int 0 :: .int 0 :: .int 0 :: .int 0 :: .int 0 :: .int 0 :: .int 0 :: .int 0 :: .int 0 :: .ref m_letters :: .int 0 :: .ref m_choice :: .ref m_row :: .ref m_up :: .ref m_low :: .ref m_m :: .ref m_bestUp :: .ref m_bestLow :: .ref m_replyUp :: .ref m_replyLow :: .ref m_worthUp :: .ref m_worthLow :: .ref m_bestWay :: .int 0 :: .ref m_told :: .int 0 :: [])))] := hD
  have hw_608 := hw
  refine lv_aload_n hx hb dL_law_279 rfl (lv_at hl 2 rfl) ?_
  refine lv_aload_n hx hb dL_law_280 rfl (lv_at hl 4 rfl) ?_
  refine lv_iload hx hb dL_law_281 (lv_at hl 0 rfl) ?_
  refine lv_iconst (v := 1) hx hb dL_law_283 (by decide) ?_
  refine lv_iadd hx hb dL_law_284 ?_
  refine tz_i (y := 1) (by decide +kernel) ?_
  refine va_sld hx hb hX hbl hbA hS (tz_in (by decide +kernel)) dL_law_285 ?_
  refine tz_i (y := xs 1) (congrArg xs (by decide +kernel)) ?_
  have hPc := hP.sub (ws' := [(mm, .inr (12, (.int 0 :: .ref m_s :: .ref m_spare :: .ref m_kept :: .ref m_undone :: .ref m_triedWay :: .ref m_isKept :: .int 0 :: .ref m_tape :: .int 0 :: .int 0 :: .int 0 :: .int 0 :: .int 0 :: .int 0 :: .int 0 :: .int 0 :: .int 0 :: .ref m_letters :: .int 0 :: .ref m_choice :: .ref m_row :: .ref m_up :: .ref m_low :: .ref m_m :: .ref m_bestUp :: .ref m_bestLow :: .ref m_replyUp :: .ref m_replyLow :: .ref m_worthUp :: .ref m_worthLow :: .ref m_bestWay :: .int 0 :: .ref m_told :: .int 0 :: [])))]) [0] rfl
  have hDc := hD.sub (ws' := [(mm, .inr (12, (.int 0 :: .ref m_s :: .ref m_spare :: .ref m_kept :: .ref m_undone :: .ref m_triedWay :: .ref m_isKept :: .int 0 :: .ref m_tape :: .int 0 :: .int 0 :: .int 0 :: .int 0 :: .int 0 :: .int 0 :: .int 0 :: .int 0 :: .int 0 :: .ref m_letters :: .int 0 :: .ref m_choice :: .ref m_row :: .ref m_up :: .ref m_low :: .ref m_m :: .ref m_bestUp :: .ref m_bestLow :: .ref m_replyUp :: .ref m_replyLow :: .ref m_worthUp :: .ref m_worthLow :: .ref m_bestWay :: .int 0 :: .ref m_told :: .int 0 :: [])))]) [0] (by decide) rfl
  have hFc := va_free (wc := [(mm, .inr (12, (.int 0 :: .ref m_s :: .ref m_spare :: .ref m_kept :: .ref m_undone :: .ref m_triedWay :: .ref m_isKept :: .int 0 :: .ref m_tape :: .int 0 :: .int 0 :: .int 0 :: .int 0 :: .int 0 :: .int 0 :: .int 0 :: .int 0 :: .int 0 :: .ref m_letters :: .int 0 :: .ref m_choice :: .ref m_row :: .ref m_up :: .ref m_low :: .ref m_m :: .ref m_bestUp :: .ref m_bestLow :: .ref m_replyUp :: .ref m_replyLow :: .ref m_worthUp :: .ref m_worthLow :: .ref m_bestWay :: .int 0 :: .ref m_told :: .int 0 :: [])))]) hD hS hA [0] rfl
  refine va_calli (va_runV (As := [.int (xs 1)]) (rest := [.int r_607]) ⟨hx, hb, hml, hown, hts⟩ (c_X12_end l D g H.size mm (xs 1) 0 m_s m_spare m_kept m_undone m_triedWay m_isKept 0 m_tape 0 0 0 0 0 0 0 0 m_letters 0 m_choice m_row m_up m_low m_m m_bestUp m_bestLow m_replyUp m_replyLow m_worthUp m_worthLow m_bestWay 0 m_told 0) (cwV 1 hts (tz_gV qw_585 qw_586 qw_587 qw_253 qw_588) rfl rfl rfl (by decide +kernel) ⟨Nat.le_of_ble_eq_true rfl, Nat.le_of_ble_eq_true rfl⟩) ⟨tz_blQ, va_recv hK hPc (ci := 12) (q0 := 0) rfl rfl, tz_preQ hPc hK hDc⟩ rfl rfl hl.1 rfl (lv_room (Nat.le_of_ble_eq_true rfl)) dL_law_286 ⟨Nat.le_of_ble_eq_true rfl, Nat.le_of_ble_eq_true rfl⟩) hS (fun q _ h => hFc q h) hFc (fun r_609 u t H1 locs ht hvm hw hB hz1 hk1 hS => ?_)
  obtain ⟨hP, hD⟩ := va_join (wr := []) (w1 := []) hP hD [0] [] rfl rfl (by decide) (by decide) hk1 hFc tz_nilP tz_nilD
  generalize H1 = H at hP hS ⊢
  have hP : va_P D vwCl [] H := hP
  have hD : va_D A [] := hD
  have hw_610 := hw
  refine lv_icmp_eq (tgt := 1475) hx hb dL_law_289 (by decide) (fun _ => ?_) (fun h9 => (h9 (tz_eq hw_608 hw_610)).elim)
  exact law_end C0 hAl hbA H locs ls _ _ (by decide) (by decide) hS (lv_sub hl [0, 4] rfl)
set_option maxHeartbeats 4000000 in
set_option maxRecDepth 100000 in
theorem law_case_2 {p : Program} {l : Launch} {e : Env} {s : State} {m : MethodId} {below : List Frame} {meth : Method} {c : Code} {b : Nat} {xs : Nat → Int32} {A : Nat → Prop} {D : va_G} {g : Nat → ClassId} (x : Nat) (mm : Nat) (oa : Nat) (tp : Nat) (n : Nat) (dr : Nat) (x_images : Nat) (x_kept : Nat) (rd : Nat) (st : Nat) (tl : Nat) (rg : Nat) (sv : Nat) (oc : Nat) (x_tried : Nat) (lf : Nat) (x_stoppedWays : Nat) (x_stoppedWorth : Nat) (x_withinWorth : Nat) (tp_bytes : Nat) (n_kind : Nat) (n_pay : Nat) (n_name : Nat) (n_ways : Nat) (n_held : Nat) (n_targets : Nat) (n_weights : Nat) (dr_kind : Nat) (dr_pay : Nat) (dr_name : Nat) (dr_ways : Nat) (dr_held : Nat) (dr_targets : Nat) (dr_weights : Nat) (rd_kindWords : Nat) (ww : Int32) (st_what : Nat) (st_node : Nat) (st_index : Nat) (st_before : Nat) (co : Nat) (sv_keep : Nat) (sv_scaled : Nat) (oc_plan : Nat) (wo : Nat) (le : Nat) (oc_reach : Nat) (oc_ringBits : Nat) (m_s : Nat) (m_spare : Nat) (m_kept : Nat) (m_undone : Nat) (m_triedWay : Nat) (m_isKept : Nat) (m_tape : Nat) (m_letters : Nat) (m_choice : Nat) (m_row : Nat) (m_up : Nat) (m_low : Nat) (m_m : Nat) (m_bestUp : Nat) (m_bestLow : Nat) (m_replyUp : Nat) (m_replyLow : Nat) (m_worthUp : Nat) (m_worthLow : Nat) (m_bestWay : Nat) (m_told : Nat) (hst : l.stackTraces = false) (C0 : lw_At p s m meth c b 6 xs) (hA : ∀ q : Nat, s.heap.size ≤ q → A q) (hAl : ∀ q : Nat, A q → s.heap.size ≤ q) (hbA : ¬ A b) (hK : va_K D vwCl (TY g) s) (hZ : ZT A s s.heap) : ∀ (H : Heap) (locs : List Loc) (ls : Array Slot), va_P D vwCl [(x, .inr (11, [.ref tp, .ref n, .ref dr, .ref x_images, .ref x_kept, .ref rd, .ref st, .ref tl, .ref rg, .ref sv, .ref oc, .ref x_tried, .ref lf, .int 0, .ref x_stoppedWays, .ref x_stoppedWorth, .int 0, .ref x_withinWorth])), (tp, .inr (8, [.ref tp_bytes, .int 0])), (n, .inr (2, [.int 0, .ref n_kind, .ref n_pay, .ref n_name, .ref n_ways, .ref n_held, .ref n_targets, .ref n_weights])), (n_kind, .inl (g 0, 12, .inl (fun _ => 0))), (n_pay, .inl (g 0, 12, .inl (fun _ => 0))), (n_name, .inl (g 0, 12, .inl (fun _ => 0))), (n_ways, .inl (g 0, 12, .inl (fun _ => 0))), (n_held, .inl (g 0, 12, .inl (fun _ => 0))), (n_targets, .inl (g 0, 36, .inl (fun _ => 0))), (n_weights, .inl (g 0, 36, .inl (fun _ => 0))), (dr, .inr (2, [.int 0, .ref dr_kind, .ref dr_pay, .ref dr_name, .ref dr_ways, .ref dr_held, .ref dr_targets, .ref dr_weights])), (dr_kind, .inl (g 0, 12, .inl (fun _ => 0))), (dr_pay, .inl (g 0, 12, .inl (fun _ => 0))), (dr_name, .inl (g 0, 12, .inl (fun _ => 0))), (dr_ways, .inl (g 0, 12, .inl (fun _ => 0))), (dr_held, .inl (g 0, 12, .inl (fun _ => 0))), (dr_targets, .inl (g 0, 36, .inl (fun _ => 0))), (dr_weights, .inl (g 0, 36, .inl (fun _ => 0))), (rd, .inr (4, [.ref tp, .ref dr, .ref rd_kindWords, .int ww, .int 0, .int 0, .int 0, .int 0, .int 0, .int 0])), (st, .inr (7, [.ref st_what, .ref st_node, .ref st_index, .ref st_before, .int 0])), (sv, .inr (6, [.ref n, .ref co, .ref sv_keep, .ref sv_scaled])), (oc, .inr (3, [.ref n, .ref sv, .ref oc_plan, .ref wo, .ref le, .ref oc_reach, .ref oc_ringBits, .int 0, .int 0, .int 0])), (mm, .inr (12, (.int 0 :: .ref m_s :: .ref m_spare :: .ref m_kept :: .ref m_undone :: .ref m_triedWay :: .ref m_isKept :: .int 0 :: .ref m_tape :: .int 0 :: .int 0 :: .int 0 :: .int 0 :: .int 0 :: .int 0 :: .int 0 :: .int 0 :: .int 0 :: .ref m_letters :: .int 0 :: .ref m_choice :: .ref m_row :: .ref m_up :: .ref m_low :: .ref m_m :: .ref m_bestUp :: .ref m_bestLow :: .ref m_replyUp :: .ref m_replyLow :: .ref m_worthUp :: .ref m_worthLow :: .ref m_bestWay :: .int 0 :: .ref m_told :: .int 0 :: []))), (m_s, .inl (g 0, 193, .inl (fun _ => 0))), (m_spare, .inl (g 0, 193, .inl (fun _ => 0))), (m_triedWay, .inl (g 0, 12, .inl (fun _ => 0)))] H → va_D A [(x, .inr (11, [.ref tp, .ref n, .ref dr, .ref x_images, .ref x_kept, .ref rd, .ref st, .ref tl, .ref rg, .ref sv, .ref oc, .ref x_tried, .ref lf, .int 0, .ref x_stoppedWays, .ref x_stoppedWorth, .int 0, .ref x_withinWorth])), (tp, .inr (8, [.ref tp_bytes, .int 0])), (n, .inr (2, [.int 0, .ref n_kind, .ref n_pay, .ref n_name, .ref n_ways, .ref n_held, .ref n_targets, .ref n_weights])), (n_kind, .inl (g 0, 12, .inl (fun _ => 0))), (n_pay, .inl (g 0, 12, .inl (fun _ => 0))), (n_name, .inl (g 0, 12, .inl (fun _ => 0))), (n_ways, .inl (g 0, 12, .inl (fun _ => 0))), (n_held, .inl (g 0, 12, .inl (fun _ => 0))), (n_targets, .inl (g 0, 36, .inl (fun _ => 0))), (n_weights, .inl (g 0, 36, .inl (fun _ => 0))), (dr, .inr (2, [.int 0, .ref dr_kind, .ref dr_pay, .ref dr_name, .ref dr_ways, .ref dr_held, .ref dr_targets, .ref dr_weights])), (dr_kind, .inl (g 0, 12, .inl (fun _ => 0))), (dr_pay, .inl (g 0, 12, .inl (fun _ => 0))), (dr_name, .inl (g 0, 12, .inl (fun _ => 0))), (dr_ways, .inl (g 0, 12, .inl (fun _ => 0))), (dr_held, .inl (g 0, 12, .inl (fun _ => 0))), (dr_targets, .inl (g 0, 36, .inl (fun _ => 0))), (dr_weights, .inl (g 0, 36, .inl (fun _ => 0))), (rd, .inr (4, [.ref tp, .ref dr, .ref rd_kindWords, .int ww, .int 0, .int 0, .int 0, .int 0, .int 0, .int 0])), (st, .inr (7, [.ref st_what, .ref st_node, .ref st_index, .ref st_before, .int 0])), (sv, .inr (6, [.ref n, .ref co, .ref sv_keep, .ref sv_scaled])), (oc, .inr (3, [.ref n, .ref sv, .ref oc_plan, .ref wo, .ref le, .ref oc_reach, .ref oc_ringBits, .int 0, .int 0, .int 0])), (mm, .inr (12, (.int 0 :: .ref m_s :: .ref m_spare :: .ref m_kept :: .ref m_undone :: .ref m_triedWay :: .ref m_isKept :: .int 0 :: .ref m_tape :: .int 0 :: .int 0 :: .int 0 :: .int 0 :: .int 0 :: .int 0 :: .int 0 :: .int 0 :: .int 0 :: .ref m_letters :: .int 0 :: .ref m_choice :: .ref m_row :: .ref m_up :: .ref m_low :: .ref m_m :: .ref m_bestUp :: .ref m_bestLow :: .ref m_replyUp :: .ref m_replyLow :: .ref m_worthUp :: .ref m_worthLow :: .ref m_bestWay :: .int 0 :: .ref m_told :: .int 0 :: []))), (m_s, .inl (g 0, 193, .inl (fun _ => 0))), (m_spare, .inl (g 0, 193, .inl (fun _ => 0))), (m_triedWay, .inl (g 0, 12, .inl (fun _ => 0)))] → va_S A s.heap H locs → lv_has ls 8 [(4, .int 0), (3, .ref oa), (2, .ref mm), (1, .ref x), (0, .ref b)] → W p l e room_1 s m #[Value.ref b] below meth c H locs 114 6056 (lw_Z below #[Value.ref b] s) (F0 m 294 ls []) := by
  obtain ⟨hx, hb, hr, hml, hown, hts0, hX, hbl, hlocks, hgv⟩ := id C0
  have hts : ∀ w ∈ wsL_law, w.before _ s = true := fun w h => hts0 w (wsL_law_in w h)
  intro H locs ls hP hD hS hl
  refine lv_aload_n hx hb dL_law_294 rfl (lv_at hl 3 rfl) ?_
  have hPc := hP.sub (ws' := [(x, .inr (11, [.ref tp, .ref n, .ref dr, .ref x_images, .ref x_kept, .ref rd, .ref st, .ref tl, .ref rg, .ref sv, .ref oc, .ref x_tried, .ref lf, .int 0, .ref x_stoppedWays, .ref x_stoppedWorth, .int 0, .ref x_withinWorth])), (rd, .inr (4, [.ref tp, .ref dr, .ref rd_kindWords, .int ww, .int 0, .int 0, .int 0, .int 0, .int 0, .int 0])), (tp, .inr (8, [.ref tp_bytes, .int 0])), (dr, .inr (2, [.int 0, .ref dr_kind, .ref dr_pay, .ref dr_name, .ref dr_ways, .ref dr_held, .ref dr_targets, .ref dr_weights])), (n, .inr (2, [.int 0, .ref n_kind, .ref n_pay, .ref n_name, .ref n_ways, .ref n_held, .ref n_targets, .ref n_weights])), (st, .inr (7, [.ref st_what, .ref st_node, .ref st_index, .ref st_before, .int 0])), (oc, .inr (3, [.ref n, .ref sv, .ref oc_plan, .ref wo, .ref le, .ref oc_reach, .ref oc_ringBits, .int 0, .int 0, .int 0])), (sv, .inr (6, [.ref n, .ref co, .ref sv_keep, .ref sv_scaled])), (n_kind, .inl (g 0, 12, .inl (fun _ => 0))), (n_pay, .inl (g 0, 12, .inl (fun _ => 0))), (n_name, .inl (g 0, 12, .inl (fun _ => 0))), (n_ways, .inl (g 0, 12, .inl (fun _ => 0))), (n_held, .inl (g 0, 12, .inl (fun _ => 0))), (n_targets, .inl (g 0, 36, .inl (fun _ => 0))), (n_weights, .inl (g 0, 36, .inl (fun _ => 0))), (dr_kind, .inl (g 0, 12, .inl (fun _ => 0))), (dr_pay, .inl (g 0, 12, .inl (fun _ => 0))), (dr_name, .inl (g 0, 12, .inl (fun _ => 0))), (dr_ways, .inl (g 0, 12, .inl (fun _ => 0))), (dr_held, .inl (g 0, 12, .inl (fun _ => 0))), (dr_targets, .inl (g 0, 36, .inl (fun _ => 0))), (dr_weights, .inl (g 0, 36, .inl (fun _ => 0)))]) [0, 18, 1, 10, 2, 19, 21, 20, 3, 4, 5, 6, 7, 8, 9, 11, 12, 13, 14, 15, 16, 17] rfl
  have hDc := hD.sub (ws' := [(x, .inr (11, [.ref tp, .ref n, .ref dr, .ref x_images, .ref x_kept, .ref rd, .ref st, .ref tl, .ref rg, .ref sv, .ref oc, .ref x_tried, .ref lf, .int 0, .ref x_stoppedWays, .ref x_stoppedWorth, .int 0, .ref x_withinWorth])), (rd, .inr (4, [.ref tp, .ref dr, .ref rd_kindWords, .int ww, .int 0, .int 0, .int 0, .int 0, .int 0, .int 0])), (tp, .inr (8, [.ref tp_bytes, .int 0])), (dr, .inr (2, [.int 0, .ref dr_kind, .ref dr_pay, .ref dr_name, .ref dr_ways, .ref dr_held, .ref dr_targets, .ref dr_weights])), (n, .inr (2, [.int 0, .ref n_kind, .ref n_pay, .ref n_name, .ref n_ways, .ref n_held, .ref n_targets, .ref n_weights])), (st, .inr (7, [.ref st_what, .ref st_node, .ref st_index, .ref st_before, .int 0])), (oc, .inr (3, [.ref n, .ref sv, .ref oc_plan, .ref wo, .ref le, .ref oc_reach, .ref oc_ringBits, .int 0, .int 0, .int 0])), (sv, .inr (6, [.ref n, .ref co, .ref sv_keep, .ref sv_scaled])), (n_kind, .inl (g 0, 12, .inl (fun _ => 0))), (n_pay, .inl (g 0, 12, .inl (fun _ => 0))), (n_name, .inl (g 0, 12, .inl (fun _ => 0))), (n_ways, .inl (g 0, 12, .inl (fun _ => 0))), (n_held, .inl (g 0, 12, .inl (fun _ => 0))), (n_targets, .inl (g 0, 36, .inl (fun _ => 0))), (n_weights, .inl (g 0, 36, .inl (fun _ => 0))), (dr_kind, .inl (g 0, 12, .inl (fun _ => 0))), (dr_pay, .inl (g 0, 12, .inl (fun _ => 0))), (dr_name, .inl (g 0, 12, .inl (fun _ => 0))), (dr_ways, .inl (g 0, 12, .inl (fun _ => 0))), (dr_held, .inl (g 0, 12, .inl (fun _ => 0))), (dr_targets, .inl (g 0, 36, .inl (fun _ => 0))), (dr_weights, .inl (g 0, 36, .inl (fun _ => 0)))]) [0, 18, 1, 10, 2, 19, 21, 20, 3, 4, 5, 6, 7, 8, 9, 11, 12, 13, 14, 15, 16, 17] (by decide) rfl
  have hFc := va_free (wc := [(x, .inr (11, [.ref tp, .ref n, .ref dr, .ref x_images, .ref x_kept, .ref rd, .ref st, .ref tl, .ref rg, .ref sv, .ref oc, .ref x_tried, .ref lf, .int 0, .ref x_stoppedWays, .ref x_stoppedWorth, .int 0, .ref x_withinWorth])), (rd, .inr (4, [.ref tp, .ref dr, .ref rd_kindWords, .int ww, .int 0, .int 0, .int 0, .int 0, .int 0, .int 0])), (tp, .inr (8, [.ref tp_bytes, .int 0])), (dr, .inr (2, [.int 0, .ref dr_kind, .ref dr_pay, .ref dr_name, .ref dr_ways, .ref dr_held, .ref dr_targets, .ref dr_weights])), (n, .inr (2, [.int 0, .ref n_kind, .ref n_pay, .ref n_name, .ref n_ways, .ref n_held, .ref n_targets, .ref n_weights])), (st, .inr (7, [.ref st_what, .ref st_node, .ref st_index, .ref st_before, .int 0])), (oc, .inr (3, [.ref n, .ref sv, .ref oc_plan, .ref wo, .ref le, .ref oc_reach, .ref oc_ringBits, .int 0, .int 0, .int 0])), (sv, .inr (6, [.ref n, .ref co, .ref sv_keep, .ref sv_scaled])), (n_kind, .inl (g 0, 12, .inl (fun _ => 0))), (n_pay, .inl (g 0, 12, .inl (fun _ => 0))), (n_name, .inl (g 0, 12, .inl (fun _ => 0))), (n_ways, .inl (g 0, 12, .inl (fun _ => 0))), (n_held, .inl (g 0, 12, .inl (fun _ => 0))), (n_targets, .inl (g 0, 36, .inl (fun _ => 0))), (n_weights, .inl (g 0, 36, .inl (fun _ => 0))), (dr_kind, .inl (g 0, 12, .inl (fun _ => 0))), (dr_pay, .inl (g 0, 12, .inl (fun _ => 0))), (dr_name, .inl (g 0, 12, .inl (fun _ => 0))), (dr_ways, .inl (g 0, 12, .inl (fun _ => 0))), (dr_held, .inl (g 0, 12, .inl (fun _ => 0))), (dr_targets, .inl (g 0, 36, .inl (fun _ => 0))), (dr_weights, .inl (g 0, 36, .inl (fun _ => 0)))]) hD hS hA [0, 18, 1, 10, 2, 19, 21, 20, 3, 4, 5, 6, 7, 8, 9, 11, 12, 13, 14, 15, 16, 17] rfl
  refine va_calli (va_runV (As := []) (rest := []) ⟨hx, hb, hml, hown, hts⟩ (c_X11_game l D g H.size x tp n dr x_images x_kept rd st tl rg sv oc x_tried lf x_stoppedWays x_stoppedWorth x_withinWorth rd_kindWords ww 0 0 0 0 0 0 tp_bytes dr_kind dr_pay dr_name dr_ways dr_held dr_targets dr_weights n_kind n_pay n_name n_ways n_held n_targets n_weights st_what st_node st_index st_before n sv oc_plan wo le oc_reach oc_ringBits 0 0 co sv_keep sv_scaled (fun _ => 0) (fun _ => 0) (fun _ => 0) (fun _ => 0) (fun _ => 0) (fun _ => 0) (fun _ => 0) (fun _ => 0) (fun _ => 0) (fun _ => 0) (fun _ => 0) (fun _ => 0) (fun _ => 0) (fun _ => 0)) (cwV 0 hts (tz_gV qw_589 qw_590 qw_591 qw_165 qw_592) rfl rfl rfl (by decide +kernel) ⟨Nat.le_of_ble_eq_true rfl, Nat.le_of_ble_eq_true rfl⟩) ⟨tz_blQ, va_recv hK hPc (ci := 11) (q0 := 0) rfl rfl, tz_preQ hPc hK hDc⟩ rfl rfl hl.1 rfl (lv_room (Nat.le_of_ble_eq_true rfl)) dL_law_295 ⟨Nat.le_of_ble_eq_true rfl, Nat.le_of_ble_eq_true rfl⟩) hS (fun q _ h => hFc q h) hFc (fun r_613 u t H1 locs ht hvm hw hB hz1 hk1 hS => ?_)
  obtain ⟨hP, hD⟩ := va_join (wr := [(mm, .inr (12, (.int 0 :: .ref m_s :: .ref m_spare :: .ref m_kept :: .ref m_undone :: .ref m_triedWay :: .ref m_isKept :: .int 0 :: .ref m_tape :: .int 0 :: .int 0 :: .int 0 :: .int 0 :: .int 0 :: .int 0 :: .int 0 :: .int 0 :: .int 0 :: .ref m_letters :: .int 0 :: .ref m_choice :: .ref m_row :: .ref m_up :: .ref m_low :: .ref m_m :: .ref m_bestUp :: .ref m_bestLow :: .ref m_replyUp :: .ref m_replyLow :: .ref m_worthUp :: .ref m_worthLow :: .ref m_bestWay :: .int 0 :: .ref m_told :: .int 0 :: []))), (m_s, .inl (g 0, 193, .inl (fun _ => 0))), (m_spare, .inl (g 0, 193, .inl (fun _ => 0))), (m_triedWay, .inl (g 0, 12, .inl (fun _ => 0)))]) (w1 := []) hP hD [0, 18, 1, 10, 2, 19, 21, 20, 3, 4, 5, 6, 7, 8, 9, 11, 12, 13, 14, 15, 16, 17] [22, 23, 24, 25] rfl rfl (by decide) (by decide) hk1 hFc tz_nilP tz_nilD
  generalize H1 = H at hP hS ⊢
  have hP : va_P D vwCl [(mm, .inr (12, (.int 0 :: .ref m_s :: .ref m_spare :: .ref m_kept :: .ref m_undone :: .ref m_triedWay :: .ref m_isKept :: .int 0 :: .ref m_tape :: .int 0 :: .int 0 :: .int 0 :: .int 0 :: .int 0 :: .int 0 :: .int 0 :: .int 0 :: .int 0 :: .ref m_letters :: .int 0 :: .ref m_choice :: .ref m_row :: .ref m_up :: .ref m_low :: .ref m_m :: .ref m_bestUp :: .ref m_bestLow :: .ref m_replyUp :: .ref m_replyLow :: .ref m_worthUp :: .ref m_worthLow :: .ref m_bestWay :: .int 0 :: .ref m_told :: .int 0 :: []))), (m_s, .inl (g 0, 193, .inl (fun _ => 0))), (m_spare, .inl (g 0, 193, .inl (fun _ => 0))), (m_triedWay, .inl (g 0, 12, .inl (fun _ => 0)))] H := hP
  have hD : va_D A [(mm, .inr (12, (.int 0 :: .ref m_s :: .ref m_spare :: .ref m_kept :: .ref m_undone :: .ref m_triedWay :: .ref m_isKept :: .int 0 :: .ref m_tape :: .int 0 :: .int 0 :: .int 0 :: .int 0 :: .int 0 :: .int 0 :: .int 0 :: .int 0 :: .int 0 :: .ref m_letters :: .int 0 :: .ref m_choice :: .ref m_row :: .ref m_up :: .ref m_low :: .ref m_m :: .ref m_bestUp :: .ref m_bestLow :: .ref m_replyUp :: .ref m_replyLow :: .ref m_worthUp :: .ref m_worthLow :: .ref m_bestWay :: .int 0 :: .ref m_told :: .int 0 :: []))), (m_s, .inl (g 0, 193, .inl (fun _ => 0))), (m_spare, .inl (g 0, 193, .inl (fun _ => 0))), (m_triedWay, .inl (g 0, 12, .inl (fun _ => 0)))] := hD
  subst hw
  refine lv_aload_n hx hb dL_law_298 rfl (lv_at hl 2 rfl) ?_
  have hPc := hP.sub (ws' := [(mm, .inr (12, (.int 0 :: .ref m_s :: .ref m_spare :: .ref m_kept :: .ref m_undone :: .ref m_triedWay :: .ref m_isKept :: .int 0 :: .ref m_tape :: .int 0 :: .int 0 :: .int 0 :: .int 0 :: .int 0 :: .int 0 :: .int 0 :: .int 0 :: .int 0 :: .ref m_letters :: .int 0 :: .ref m_choice :: .ref m_row :: .ref m_up :: .ref m_low :: .ref m_m :: .ref m_bestUp :: .ref m_bestLow :: .ref m_replyUp :: .ref m_replyLow :: .ref m_worthUp :: .ref m_worthLow :: .ref m_bestWay :: .int 0 :: .ref m_told :: .int 0 :: []))), (m_s, .inl (g 0, 193, .inl (fun _ => 0))), (m_spare, .inl (g 0, 193, .inl (fun _ => 0))), (m_triedWay, .inl (g 0, 12, .inl (fun _ => 0)))]) [0, 1, 2, 3] rfl
  have hDc := hD.sub (ws' := [(mm, .inr (12, (.int 0 :: .ref m_s :: .ref m_spare :: .ref m_kept :: .ref m_undone :: .ref m_triedWay :: .ref m_isKept :: .int 0 :: .ref m_tape :: .int 0 :: .int 0 :: .int 0 :: .int 0 :: .int 0 :: .int 0 :: .int 0 :: .int 0 :: .int 0 :: .ref m_letters :: .int 0 :: .ref m_choice :: .ref m_row :: .ref m_up :: .ref m_low :: .ref m_m :: .ref m_bestUp :: .ref m_bestLow :: .ref m_replyUp :: .ref m_replyLow :: .ref m_worthUp :: .ref m_worthLow :: .ref m_bestWay :: .int 0 :: .ref m_told :: .int 0 :: []))), (m_s, .inl (g 0, 193, .inl (fun _ => 0))), (m_spare, .inl (g 0, 193, .inl (fun _ => 0))), (m_triedWay, .inl (g 0, 12, .inl (fun _ => 0)))]) [0, 1, 2, 3] (by decide) rfl
  have hFc := va_free (wc := [(mm, .inr (12, (.int 0 :: .ref m_s :: .ref m_spare :: .ref m_kept :: .ref m_undone :: .ref m_triedWay :: .ref m_isKept :: .int 0 :: .ref m_tape :: .int 0 :: .int 0 :: .int 0 :: .int 0 :: .int 0 :: .int 0 :: .int 0 :: .int 0 :: .int 0 :: .ref m_letters :: .int 0 :: .ref m_choice :: .ref m_row :: .ref m_up :: .ref m_low :: .ref m_m :: .ref m_bestUp :: .ref m_bestLow :: .ref m_replyUp :: .ref m_replyLow :: .ref m_worthUp :: .ref m_worthLow :: .ref m_bestWay :: .int 0 :: .ref m_told :: .int 0 :: []))), (m_s, .inl (g 0, 193, .inl (fun _ => 0))), (m_spare, .inl (g 0, 193, .inl (fun _ => 0))), (m_triedWay, .inl (g 0, 12, .inl (fun _ => 0)))]) hD hS hA [0, 1, 2, 3] rfl
  refine va_calli (va_runV (As := []) (rest := [.int 0]) ⟨hx, hb, hml, hown, hts⟩ (c_X12_game l D g H.size mm 0 m_s m_spare m_kept m_undone m_triedWay m_isKept 0 m_tape 0 0 0 0 0 0 0 0 m_letters 0 m_choice m_row m_up m_low m_m m_bestUp m_bestLow m_replyUp m_replyLow m_worthUp m_worthLow m_bestWay 0 m_told 0 (fun _ => 0)) (cwV 0 hts (tz_gV qw_593 qw_594 qw_595 qw_253 qw_596) rfl rfl rfl (by decide +kernel) ⟨Nat.le_of_ble_eq_true rfl, Nat.le_of_ble_eq_true rfl⟩) ⟨tz_blQ, va_recv hK hPc (ci := 12) (q0 := 0) rfl rfl, tz_preQ hPc hK hDc⟩ rfl rfl hl.1 rfl (lv_room (Nat.le_of_ble_eq_true rfl)) dL_law_299 ⟨Nat.le_of_ble_eq_true rfl, Nat.le_of_ble_eq_true rfl⟩) hS (fun q _ h => hFc q h) hFc (fun r_614 u t H1 locs ht hvm hw hB hz1 hk1 hS => ?_)
  obtain ⟨hP, hD⟩ := va_join (wr := []) (w1 := []) hP hD [0, 1, 2, 3] [] rfl rfl (by decide) (by decide) hk1 hFc tz_nilP tz_nilD
  generalize H1 = H at hP hS ⊢
  have hP : va_P D vwCl [] H := hP
  have hD : va_D A [] := hD
  subst hw
  refine lv_icmp_eq (tgt := 1475) hx hb dL_law_302 (by decide) (fun _ => ?_) (fun h9 => (h9 (by decide)).elim)
  exact law_end C0 hAl hbA H locs ls _ _ (by decide) (by decide) hS (lv_sub hl [0, 4] rfl)
set_option maxHeartbeats 4000000 in
set_option maxRecDepth 100000 in
theorem law_case_3 {p : Program} {l : Launch} {e : Env} {s : State} {m : MethodId} {below : List Frame} {meth : Method} {c : Code} {b : Nat} {xs : Nat → Int32} {A : Nat → Prop} {D : va_G} {g : Nat → ClassId} (x : Nat) (mm : Nat) (oa : Nat) (tp : Nat) (n : Nat) (dr : Nat) (x_images : Nat) (x_kept : Nat) (rd : Nat) (st : Nat) (tl : Nat) (rg : Nat) (sv : Nat) (oc : Nat) (x_tried : Nat) (lf : Nat) (x_stoppedWays : Nat) (x_stoppedWorth : Nat) (x_withinWorth : Nat) (rd_kindWords : Nat) (ww : Int32) (m_s : Nat) (m_spare : Nat) (m_kept : Nat) (m_undone : Nat) (m_triedWay : Nat) (m_isKept : Nat) (m_tape : Nat) (m_letters : Nat) (m_choice : Nat) (m_row : Nat) (m_up : Nat) (m_low : Nat) (m_m : Nat) (m_bestUp : Nat) (m_bestLow : Nat) (m_replyUp : Nat) (m_replyLow : Nat) (m_worthUp : Nat) (m_worthLow : Nat) (m_bestWay : Nat) (m_told : Nat) (hst : l.stackTraces = false) (C0 : lw_At p s m meth c b 6 xs) (hA : ∀ q : Nat, s.heap.size ≤ q → A q) (hAl : ∀ q : Nat, A q → s.heap.size ≤ q) (hbA : ¬ A b) (hK : va_K D vwCl (TY g) s) (hZ : ZT A s s.heap) : ∀ (H : Heap) (locs : List Loc) (ls : Array Slot), va_P D vwCl [(x, .inr (11, [.ref tp, .ref n, .ref dr, .ref x_images, .ref x_kept, .ref rd, .ref st, .ref tl, .ref rg, .ref sv, .ref oc, .ref x_tried, .ref lf, .int 0, .ref x_stoppedWays, .ref x_stoppedWorth, .int 0, .ref x_withinWorth])), (rd, .inr (4, [.ref tp, .ref dr, .ref rd_kindWords, .int ww, .int 0, .int 0, .int 0, .int 0, .int 0, .int 0])), (mm, .inr (12, (.int 0 :: .ref m_s :: .ref m_spare :: .ref m_kept :: .ref m_undone :: .ref m_triedWay :: .ref m_isKept :: .int 0 :: .ref m_tape :: .int 0 :: .int 0 :: .int 0 :: .int 0 :: .int 0 :: .int 0 :: .int 0 :: .int 0 :: .int 0 :: .ref m_letters :: .int 0 :: .ref m_choice :: .ref m_row :: .ref m_up :: .ref m_low :: .ref m_m :: .ref m_bestUp :: .ref m_bestLow :: .ref m_replyUp :: .ref m_replyLow :: .ref m_worthUp :: .ref m_worthLow :: .ref m_bestWay :: .int 0 :: .ref m_told :: .int 0 :: [])))] H → va_D A [(x, .inr (11, [.ref tp, .ref n, .ref dr, .ref x_images, .ref x_kept, .ref rd, .ref st, .ref tl, .ref rg, .ref sv, .ref oc, .ref x_tried, .ref lf, .int 0, .ref x_stoppedWays, .ref x_stoppedWorth, .int 0, .ref x_withinWorth])), (rd, .inr (4, [.ref tp, .ref dr, .ref rd_kindWords, .int ww, .int 0, .int 0, .int 0, .int 0, .int 0, .int 0])), (mm, .inr (12, (.int 0 :: .ref m_s :: .ref m_spare :: .ref m_kept :: .ref m_undone :: .ref m_triedWay :: .ref m_isKept :: .int 0 :: .ref m_tape :: .int 0 :: .int 0 :: .int 0 :: .int 0 :: .int 0 :: .int 0 :: .int 0 :: .int 0 :: .int 0 :: .ref m_letters :: .int 0 :: .ref m_choice :: .ref m_row :: .ref m_up :: .ref m_low :: .ref m_m :: .ref m_bestUp :: .ref m_bestLow :: .ref m_replyUp :: .ref m_replyLow :: .ref m_worthUp :: .ref m_worthLow :: .ref m_bestWay :: .int 0 :: .ref m_told :: .int 0 :: [])))] → va_S A s.heap H locs → lv_has ls 8 [(4, .int 0), (3, .ref oa), (2, .ref mm), (1, .ref x), (0, .ref b)] → W p l e room_1 s m #[Value.ref b] below meth c H locs 114 6056 (lw_Z below #[Value.ref b] s) (F0 m 307 ls []) := by
  obtain ⟨hx, hb, hr, hml, hown, hts0, hX, hbl, hlocks, hgv⟩ := id C0
  have hts : ∀ w ∈ wsL_law, w.before _ s = true := fun w h => hts0 w (wsL_law_in w h)
  intro H locs ls hP hD hS hl
  refine lv_aload_n hx hb dL_law_307 rfl (lv_at hl 3 rfl) ?_
  have hPc := hP.sub (ws' := [(x, .inr (11, [.ref tp, .ref n, .ref dr, .ref x_images, .ref x_kept, .ref rd, .ref st, .ref tl, .ref rg, .ref sv, .ref oc, .ref x_tried, .ref lf, .int 0, .ref x_stoppedWays, .ref x_stoppedWorth, .int 0, .ref x_withinWorth])), (rd, .inr (4, [.ref tp, .ref dr, .ref rd_kindWords, .int ww, .int 0, .int 0, .int 0, .int 0, .int 0, .int 0]))]) [0, 1] rfl
  refine vp_callSi (va_Run.run (va_runV (As := []) (rest := []) ⟨hx, hb, hml, hown, hts⟩ (c_X11_fault l D g x tp n dr x_images x_kept rd st tl rg sv oc x_tried lf x_stoppedWays x_stoppedWorth x_withinWorth tp dr rd_kindWords ww 0 0 0 0 0) (cwV 0 hts (tz_gV qw_597 qw_598 qw_599 qw_165 qw_600) rfl rfl rfl (by decide +kernel) ⟨Nat.le_of_ble_eq_true rfl, Nat.le_of_ble_eq_true rfl⟩) ⟨tz_blS, va_recv hK hPc (ci := 11) (q0 := 0) rfl rfl, tz_preS hPc hK⟩ rfl rfl hl.1 rfl (lv_room (Nat.le_of_ble_eq_true rfl)) dL_law_308 ⟨Nat.le_of_ble_eq_true rfl, Nat.le_of_ble_eq_true rfl⟩)) (fun r_617 hw => ?_)
  subst hw
  refine lv_aload_n hx hb dL_law_311 rfl (lv_at hl 2 rfl) ?_
  have hPc := hP.sub (ws' := [(mm, .inr (12, (.int 0 :: .ref m_s :: .ref m_spare :: .ref m_kept :: .ref m_undone :: .ref m_triedWay :: .ref m_isKept :: .int 0 :: .ref m_tape :: .int 0 :: .int 0 :: .int 0 :: .int 0 :: .int 0 :: .int 0 :: .int 0 :: .int 0 :: .int 0 :: .ref m_letters :: .int 0 :: .ref m_choice :: .ref m_row :: .ref m_up :: .ref m_low :: .ref m_m :: .ref m_bestUp :: .ref m_bestLow :: .ref m_replyUp :: .ref m_replyLow :: .ref m_worthUp :: .ref m_worthLow :: .ref m_bestWay :: .int 0 :: .ref m_told :: .int 0 :: [])))]) [2] rfl
  have hDc := hD.sub (ws' := [(mm, .inr (12, (.int 0 :: .ref m_s :: .ref m_spare :: .ref m_kept :: .ref m_undone :: .ref m_triedWay :: .ref m_isKept :: .int 0 :: .ref m_tape :: .int 0 :: .int 0 :: .int 0 :: .int 0 :: .int 0 :: .int 0 :: .int 0 :: .int 0 :: .int 0 :: .ref m_letters :: .int 0 :: .ref m_choice :: .ref m_row :: .ref m_up :: .ref m_low :: .ref m_m :: .ref m_bestUp :: .ref m_bestLow :: .ref m_replyUp :: .ref m_replyLow :: .ref m_worthUp :: .ref m_worthLow :: .ref m_bestWay :: .int 0 :: .ref m_told :: .int 0 :: [])))]) [2] (by decide) rfl
  have hFc := va_free (wc := [(mm, .inr (12, (.int 0 :: .ref m_s :: .ref m_spare :: .ref m_kept :: .ref m_undone :: .ref m_triedWay :: .ref m_isKept :: .int 0 :: .ref m_tape :: .int 0 :: .int 0 :: .int 0 :: .int 0 :: .int 0 :: .int 0 :: .int 0 :: .int 0 :: .int 0 :: .ref m_letters :: .int 0 :: .ref m_choice :: .ref m_row :: .ref m_up :: .ref m_low :: .ref m_m :: .ref m_bestUp :: .ref m_bestLow :: .ref m_replyUp :: .ref m_replyLow :: .ref m_worthUp :: .ref m_worthLow :: .ref m_bestWay :: .int 0 :: .ref m_told :: .int 0 :: [])))]) hD hS hA [2] rfl
  refine va_calli (va_runV (As := []) (rest := [.int 0]) ⟨hx, hb, hml, hown, hts⟩ (c_X12_fault l D g H.size mm 0 m_s m_spare m_kept m_undone m_triedWay m_isKept 0 m_tape 0 0 0 0 0 0 0 0 m_letters 0 m_choice m_row m_up m_low m_m m_bestUp m_bestLow m_replyUp m_replyLow m_worthUp m_worthLow m_bestWay 0 m_told 0) (cwV 0 hts (tz_gV qw_601 qw_602 qw_603 qw_253 qw_604) rfl rfl rfl (by decide +kernel) ⟨Nat.le_of_ble_eq_true rfl, Nat.le_of_ble_eq_true rfl⟩) ⟨tz_blQ, va_recv hK hPc (ci := 12) (q0 := 0) rfl rfl, tz_preQ hPc hK hDc⟩ rfl rfl hl.1 rfl (lv_room (Nat.le_of_ble_eq_true rfl)) dL_law_312 ⟨Nat.le_of_ble_eq_true rfl, Nat.le_of_ble_eq_true rfl⟩) hS (fun q _ h => hFc q h) hFc (fun r_618 u t H1 locs ht hvm hw hB hz1 hk1 hS => ?_)
  obtain ⟨hP, hD⟩ := va_join (wr := [(x, .inr (11, [.ref tp, .ref n, .ref dr, .ref x_images, .ref x_kept, .ref rd, .ref st, .ref tl, .ref rg, .ref sv, .ref oc, .ref x_tried, .ref lf, .int 0, .ref x_stoppedWays, .ref x_stoppedWorth, .int 0, .ref x_withinWorth])), (rd, .inr (4, [.ref tp, .ref dr, .ref rd_kindWords, .int ww, .int 0, .int 0, .int 0, .int 0, .int 0, .int 0]))]) (w1 := []) hP hD [2] [0, 1] rfl rfl (by decide) (by decide) hk1 hFc tz_nilP tz_nilD
  generalize H1 = H at hP hS ⊢
  have hP : va_P D vwCl [(x, .inr (11, [.ref tp, .ref n, .ref dr, .ref x_images, .ref x_kept, .ref rd, .ref st, .ref tl, .ref rg, .ref sv, .ref oc, .ref x_tried, .ref lf, .int 0, .ref x_stoppedWays, .ref x_stoppedWorth, .int 0, .ref x_withinWorth])), (rd, .inr (4, [.ref tp, .ref dr, .ref rd_kindWords, .int ww, .int 0, .int 0, .int 0, .int 0, .int 0, .int 0]))] H := hP
  have hD : va_D A [(x, .inr (11, [.ref tp, .ref n, .ref dr, .ref x_images, .ref x_kept, .ref rd, .ref st, .ref tl, .ref rg, .ref sv, .ref oc, .ref x_tried, .ref lf, .int 0, .ref x_stoppedWays, .ref x_stoppedWorth, .int 0, .ref x_withinWorth])), (rd, .inr (4, [.ref tp, .ref dr, .ref rd_kindWords, .int ww, .int 0, .int 0, .int 0, .int 0, .int 0, .int 0]))] := hD
  subst hw
  refine lv_icmp_eq (tgt := 1475) hx hb dL_law_315 (by decide) (fun _ => ?_) (fun h9 => (h9 (by decide)).elim)
  exact law_end C0 hAl hbA H locs ls _ _ (by decide) (by decide) hS (lv_sub hl [0, 4] rfl)
set_option maxHeartbeats 4000000 in
set_option maxRecDepth 100000 in
theorem law_case_4 {p : Program} {l : Launch} {e : Env} {s : State} {m : MethodId} {below : List Frame} {meth : Method} {c : Code} {b : Nat} {xs : Nat → Int32} {A : Nat → Prop} {D : va_G} {g : Nat → ClassId} (x : Nat) (mm : Nat) (oa : Nat) (tp : Nat) (n : Nat) (dr : Nat) (x_images : Nat) (x_kept : Nat) (rd : Nat) (st : Nat) (tl : Nat) (rg : Nat) (sv : Nat) (oc : Nat) (x_tried : Nat) (lf : Nat) (x_stoppedWays : Nat) (x_stoppedWorth : Nat) (x_withinWorth : Nat) (n_kind : Nat) (n_pay : Nat) (n_name : Nat) (n_ways : Nat) (n_held : Nat) (n_targets : Nat) (n_weights : Nat) (m_s : Nat) (m_spare : Nat) (m_kept : Nat) (m_undone : Nat) (m_triedWay : Nat) (m_isKept : Nat) (m_tape : Nat) (m_letters : Nat) (m_choice : Nat) (m_row : Nat) (m_up : Nat) (m_low : Nat) (m_m : Nat) (m_bestUp : Nat) (m_bestLow : Nat) (m_replyUp : Nat) (m_replyLow : Nat) (m_worthUp : Nat) (m_worthLow : Nat) (m_bestWay : Nat) (m_told : Nat) (hst : l.stackTraces = false) (C0 : lw_At p s m meth c b 6 xs) (hA : ∀ q : Nat, s.heap.size ≤ q → A q) (hAl : ∀ q : Nat, A q → s.heap.size ≤ q) (hbA : ¬ A b) (hK : va_K D vwCl (TY g) s) (hZ : ZT A s s.heap) : ∀ (H : Heap) (locs : List Loc) (ls : Array Slot), va_P D vwCl [(x, .inr (11, [.ref tp, .ref n, .ref dr, .ref x_images, .ref x_kept, .ref rd, .ref st, .ref tl, .ref rg, .ref sv, .ref oc, .ref x_tried, .ref lf, .int 0, .ref x_stoppedWays, .ref x_stoppedWorth, .int 0, .ref x_withinWorth])), (n, .inr (2, [.int 0, .ref n_kind, .ref n_pay, .ref n_name, .ref n_ways, .ref n_held, .ref n_targets, .ref n_weights])), (mm, .inr (12, (.int 0 :: .ref m_s :: .ref m_spare :: .ref m_kept :: .ref m_undone :: .ref m_triedWay :: .ref m_isKept :: .int 0 :: .ref m_tape :: .int 0 :: .int 0 :: .int 0 :: .int 0 :: .int 0 :: .int 0 :: .int 0 :: .int 0 :: .int 0 :: .ref m_letters :: .int 0 :: .ref m_choice :: .ref m_row :: .ref m_up :: .ref m_low :: .ref m_m :: .ref m_bestUp :: .ref m_bestLow :: .ref m_replyUp :: .ref m_replyLow :: .ref m_worthUp :: .ref m_worthLow :: .ref m_bestWay :: .int 0 :: .ref m_told :: .int 0 :: []))), (m_s, .inl (g 0, 193, .inl (fun _ => 0)))] H → va_D A [(x, .inr (11, [.ref tp, .ref n, .ref dr, .ref x_images, .ref x_kept, .ref rd, .ref st, .ref tl, .ref rg, .ref sv, .ref oc, .ref x_tried, .ref lf, .int 0, .ref x_stoppedWays, .ref x_stoppedWorth, .int 0, .ref x_withinWorth])), (n, .inr (2, [.int 0, .ref n_kind, .ref n_pay, .ref n_name, .ref n_ways, .ref n_held, .ref n_targets, .ref n_weights])), (mm, .inr (12, (.int 0 :: .ref m_s :: .ref m_spare :: .ref m_kept :: .ref m_undone :: .ref m_triedWay :: .ref m_isKept :: .int 0 :: .ref m_tape :: .int 0 :: .int 0 :: .int 0 :: .int 0 :: .int 0 :: .int 0 :: .int 0 :: .int 0 :: .int 0 :: .ref m_letters :: .int 0 :: .ref m_choice :: .ref m_row :: .ref m_up :: .ref m_low :: .ref m_m :: .ref m_bestUp :: .ref m_bestLow :: .ref m_replyUp :: .ref m_replyLow :: .ref m_worthUp :: .ref m_worthLow :: .ref m_bestWay :: .int 0 :: .ref m_told :: .int 0 :: []))), (m_s, .inl (g 0, 193, .inl (fun _ => 0)))] → va_S A s.heap H locs → lv_has ls 8 [(4, .int 0), (3, .ref oa), (2, .ref mm), (1, .ref x), (0, .ref b)] → W p l e room_1 s m #[Value.ref b] below meth c H locs 114 6056 (lw_Z below #[Value.ref b] s) (F0 m 320 ls []) := by
  obtain ⟨hx, hb, hr, hml, hown, hts0, hX, hbl, hlocks, hgv⟩ := id C0
  have hts : ∀ w ∈ wsL_law, w.before _ s = true := fun w h => hts0 w (wsL_law_in w h)
  intro H locs ls hP hD hS hl
  refine lv_aload_n hx hb dL_law_320 rfl (lv_at hl 3 rfl) ?_
  refine lv_aload_n hx hb dL_law_321 rfl (lv_at hl 4 rfl) ?_
  refine lv_iload hx hb dL_law_322 (lv_at hl 0 rfl) ?_
  refine lv_iconst (v := 1) hx hb dL_law_324 (by decide) ?_
  refine lv_iadd hx hb dL_law_325 ?_
  refine tz_i (y := 1) (by decide +kernel) ?_
  refine va_sld hx hb hX hbl hbA hS (tz_in (by decide +kernel)) dL_law_326 ?_
  refine tz_i (y := xs 1) (congrArg xs (by decide +kernel)) ?_
  refine lv_aload_n hx hb dL_law_327 rfl (lv_at hl 4 rfl) ?_
  refine lv_iload hx hb dL_law_328 (lv_at hl 0 rfl) ?_
  refine lv_iconst (v := 2) hx hb dL_law_330 (by decide) ?_
  refine lv_iadd hx hb dL_law_331 ?_
  refine tz_i (y := 2) (by decide +kernel) ?_
  refine va_sld hx hb hX hbl hbA hS (tz_in (by decide +kernel)) dL_law_332 ?_
  refine tz_i (y := xs 2) (congrArg xs (by decide +kernel)) ?_
  refine lv_aload_n hx hb dL_law_333 rfl (lv_at hl 1 rfl) ?_
  have hPc := hP.sub (ws' := [(x, .inr (11, [.ref tp, .ref n, .ref dr, .ref x_images, .ref x_kept, .ref rd, .ref st, .ref tl, .ref rg, .ref sv, .ref oc, .ref x_tried, .ref lf, .int 0, .ref x_stoppedWays, .ref x_stoppedWorth, .int 0, .ref x_withinWorth])), (n, .inr (2, [.int 0, .ref n_kind, .ref n_pay, .ref n_name, .ref n_ways, .ref n_held, .ref n_targets, .ref n_weights]))]) [0, 1] rfl
  have hDc := hD.sub (ws' := [(x, .inr (11, [.ref tp, .ref n, .ref dr, .ref x_images, .ref x_kept, .ref rd, .ref st, .ref tl, .ref rg, .ref sv, .ref oc, .ref x_tried, .ref lf, .int 0, .ref x_stoppedWays, .ref x_stoppedWorth, .int 0, .ref x_withinWorth])), (n, .inr (2, [.int 0, .ref n_kind, .ref n_pay, .ref n_name, .ref n_ways, .ref n_held, .ref n_targets, .ref n_weights]))]) [0, 1] (by decide) rfl
  have hFc := va_free (wc := [(x, .inr (11, [.ref tp, .ref n, .ref dr, .ref x_images, .ref x_kept, .ref rd, .ref st, .ref tl, .ref rg, .ref sv, .ref oc, .ref x_tried, .ref lf, .int 0, .ref x_stoppedWays, .ref x_stoppedWorth, .int 0, .ref x_withinWorth])), (n, .inr (2, [.int 0, .ref n_kind, .ref n_pay, .ref n_name, .ref n_ways, .ref n_held, .ref n_targets, .ref n_weights]))]) hD hS hA [0, 1] rfl
  refine vx_calli (vx_runSX (As := [.ref x, .int (xs 1), .int (xs 2), .ref oa]) (rest := []) ⟨hx, hb, hml, hown, hts⟩ (c_L_node l hst D g H.size x (xs 1) (xs 2) oa tp n dr x_images x_kept rd st tl rg sv oc x_tried lf x_stoppedWays x_stoppedWorth x_withinWorth n_kind n_pay n_name n_ways n_held n_targets n_weights) (vx_cwSW 4 hts (tz_gS qw_605 qw_606 qw_607 qw_608) rfl rfl rfl (by decide +kernel) ⟨Nat.le_of_ble_eq_true rfl, Nat.le_of_ble_eq_true rfl⟩) ⟨tz_blX, tz_preX hPc hK hDc (hZ.kept hS hFc)⟩ rfl rfl hl.1 rfl (lv_room (Nat.le_of_ble_eq_true rfl)) dL_law_334 ⟨Nat.le_of_ble_eq_true rfl, Nat.le_of_ble_eq_true rfl⟩) hS (fun q _ h => hFc q h) hFc (fun q _ h => hFc q h) (fun E ce q9 u t H1 locs1 ht hvm hpx hBX hz1 hk1 hS hce hcv hcl => hpx.elim) (fun r_622 u t H1 locs ht hvm hw hB hz1 hk1 hS => ?_)
  obtain ⟨hP, hD⟩ := va_join (wr := [(mm, .inr (12, (.int 0 :: .ref m_s :: .ref m_spare :: .ref m_kept :: .ref m_undone :: .ref m_triedWay :: .ref m_isKept :: .int 0 :: .ref m_tape :: .int 0 :: .int 0 :: .int 0 :: .int 0 :: .int 0 :: .int 0 :: .int 0 :: .int 0 :: .int 0 :: .ref m_letters :: .int 0 :: .ref m_choice :: .ref m_row :: .ref m_up :: .ref m_low :: .ref m_m :: .ref m_bestUp :: .ref m_bestLow :: .ref m_replyUp :: .ref m_replyLow :: .ref m_worthUp :: .ref m_worthLow :: .ref m_bestWay :: .int 0 :: .ref m_told :: .int 0 :: []))), (m_s, .inl (g 0, 193, .inl (fun _ => 0)))]) (w1 := []) hP hD [0, 1] [2, 3] rfl rfl (by decide) (by decide) hk1 hFc tz_nilP tz_nilD
  generalize H1 = H at hP hS ⊢
  have hP : va_P D vwCl [(mm, .inr (12, (.int 0 :: .ref m_s :: .ref m_spare :: .ref m_kept :: .ref m_undone :: .ref m_triedWay :: .ref m_isKept :: .int 0 :: .ref m_tape :: .int 0 :: .int 0 :: .int 0 :: .int 0 :: .int 0 :: .int 0 :: .int 0 :: .int 0 :: .int 0 :: .ref m_letters :: .int 0 :: .ref m_choice :: .ref m_row :: .ref m_up :: .ref m_low :: .ref m_m :: .ref m_bestUp :: .ref m_bestLow :: .ref m_replyUp :: .ref m_replyLow :: .ref m_worthUp :: .ref m_worthLow :: .ref m_bestWay :: .int 0 :: .ref m_told :: .int 0 :: []))), (m_s, .inl (g 0, 193, .inl (fun _ => 0)))] H := hP
  have hD : va_D A [(mm, .inr (12, (.int 0 :: .ref m_s :: .ref m_spare :: .ref m_kept :: .ref m_undone :: .ref m_triedWay :: .ref m_isKept :: .int 0 :: .ref m_tape :: .int 0 :: .int 0 :: .int 0 :: .int 0 :: .int 0 :: .int 0 :: .int 0 :: .int 0 :: .int 0 :: .ref m_letters :: .int 0 :: .ref m_choice :: .ref m_row :: .ref m_up :: .ref m_low :: .ref m_m :: .ref m_bestUp :: .ref m_bestLow :: .ref m_replyUp :: .ref m_replyLow :: .ref m_worthUp :: .ref m_worthLow :: .ref m_bestWay :: .int 0 :: .ref m_told :: .int 0 :: []))), (m_s, .inl (g 0, 193, .inl (fun _ => 0)))] := hD
  subst hw
  refine W.widen (k := 115) (n := 6062) (by decide) (by decide) ?_
  refine lv_istore (lv' := [(5, .int 1), (4, .int 0), (3, .ref oa), (2, .ref mm), (1, .ref x), (0, .ref b)]) hx hb dL_law_337 hl (by decide) rfl (fun ls hl => ?_)
  refine lv_aload_n hx hb dL_law_339 rfl (lv_at hl 3 rfl) ?_
  refine lv_aload_n hx hb dL_law_340 rfl (lv_at hl 5 rfl) ?_
  refine lv_iload hx hb dL_law_341 (lv_at hl 1 rfl) ?_
  refine lv_iconst (v := 1) hx hb dL_law_343 (by decide) ?_
  refine lv_iadd hx hb dL_law_344 ?_
  refine tz_i (y := 1) (by decide +kernel) ?_
  refine va_sld hx hb hX hbl hbA hS (tz_in (by decide +kernel)) dL_law_345 ?_
  refine tz_i (y := xs 1) (congrArg xs (by decide +kernel)) ?_
  refine lv_aload_n hx hb dL_law_346 rfl (lv_at hl 5 rfl) ?_
  refine lv_iload hx hb dL_law_347 (lv_at hl 1 rfl) ?_
  refine lv_iconst (v := 2) hx hb dL_law_349 (by decide) ?_
  refine lv_iadd hx hb dL_law_350 ?_
  refine tz_i (y := 2) (by decide +kernel) ?_
  refine va_sld hx hb hX hbl hbA hS (tz_in (by decide +kernel)) dL_law_351 ?_
  refine tz_i (y := xs 2) (congrArg xs (by decide +kernel)) ?_
  have hPc := hP.sub (ws' := [(mm, .inr (12, (.int 0 :: .ref m_s :: .ref m_spare :: .ref m_kept :: .ref m_undone :: .ref m_triedWay :: .ref m_isKept :: .int 0 :: .ref m_tape :: .int 0 :: .int 0 :: .int 0 :: .int 0 :: .int 0 :: .int 0 :: .int 0 :: .int 0 :: .int 0 :: .ref m_letters :: .int 0 :: .ref m_choice :: .ref m_row :: .ref m_up :: .ref m_low :: .ref m_m :: .ref m_bestUp :: .ref m_bestLow :: .ref m_replyUp :: .ref m_replyLow :: .ref m_worthUp :: .ref m_worthLow :: .ref m_bestWay :: .int 0 :: .ref m_told :: .int 0 :: []))), (m_s, .inl (g 0, 193, .inl (fun _ => 0)))]) [0, 1] rfl
  have hDc := hD.sub (ws' := [(mm, .inr (12, (.int 0 :: .ref m_s :: .ref m_spare :: .ref m_kept :: .ref m_undone :: .ref m_triedWay :: .ref m_isKept :: .int 0 :: .ref m_tape :: .int 0 :: .int 0 :: .int 0 :: .int 0 :: .int 0 :: .int 0 :: .int 0 :: .int 0 :: .int 0 :: .ref m_letters :: .int 0 :: .ref m_choice :: .ref m_row :: .ref m_up :: .ref m_low :: .ref m_m :: .ref m_bestUp :: .ref m_bestLow :: .ref m_replyUp :: .ref m_replyLow :: .ref m_worthUp :: .ref m_worthLow :: .ref m_bestWay :: .int 0 :: .ref m_told :: .int 0 :: []))), (m_s, .inl (g 0, 193, .inl (fun _ => 0)))]) [0, 1] (by decide) rfl
  have hFc := va_free (wc := [(mm, .inr (12, (.int 0 :: .ref m_s :: .ref m_spare :: .ref m_kept :: .ref m_undone :: .ref m_triedWay :: .ref m_isKept :: .int 0 :: .ref m_tape :: .int 0 :: .int 0 :: .int 0 :: .int 0 :: .int 0 :: .int 0 :: .int 0 :: .int 0 :: .int 0 :: .ref m_letters :: .int 0 :: .ref m_choice :: .ref m_row :: .ref m_up :: .ref m_low :: .ref m_m :: .ref m_bestUp :: .ref m_bestLow :: .ref m_replyUp :: .ref m_replyLow :: .ref m_worthUp :: .ref m_worthLow :: .ref m_bestWay :: .int 0 :: .ref m_told :: .int 0 :: []))), (m_s, .inl (g 0, 193, .inl (fun _ => 0)))]) hD hS hA [0, 1] rfl
  refine va_calli (va_runV (As := [.int (xs 1), .int (xs 2)]) (rest := []) ⟨hx, hb, hml, hown, hts⟩ (c_X12_node l D g H.size mm (xs 1) (xs 2) 0 m_s m_spare m_kept m_undone m_triedWay m_isKept 0 m_tape 0 0 0 0 0 0 0 0 0 m_letters m_choice m_row m_up m_low m_m m_bestUp m_bestLow m_replyUp m_replyLow m_worthUp m_worthLow m_bestWay 0 m_told 0) (cwV 2 hts (tz_gV qw_609 qw_610 qw_611 qw_253 qw_612) rfl rfl rfl (by decide +kernel) ⟨Nat.le_of_ble_eq_true rfl, Nat.le_of_ble_eq_true rfl⟩) ⟨tz_blQ, va_recv hK hPc (ci := 12) (q0 := 0) rfl rfl, tz_preQ hPc hK hDc⟩ rfl rfl hl.1 rfl (lv_room (Nat.le_of_ble_eq_true rfl)) dL_law_352 ⟨Nat.le_of_ble_eq_true rfl, Nat.le_of_ble_eq_true rfl⟩) hS (fun q _ h => hFc q h) hFc (fun r_623 u t H1 locs ht hvm hw hB hz1 hk1 hS => ?_)
  obtain ⟨hP1, hD1⟩ := hB
  rw [ht] at hP1
  obtain ⟨hP, hD⟩ := va_join (wr := []) (w1 := [(mm, .inr (12, (.int 1 :: .ref m_s :: .ref m_spare :: .ref m_kept :: .ref m_undone :: .ref m_triedWay :: .ref m_isKept :: .int 0 :: .ref m_tape :: .int 0 :: .int 0 :: .int 0 :: .int 0 :: .int 0 :: .int 0 :: .int 0 :: .int 0 :: .int 0 :: .ref m_letters :: .int 0 :: .ref m_choice :: .ref m_row :: .ref m_up :: .ref m_low :: .ref m_m :: .ref m_bestUp :: .ref m_bestLow :: .ref m_replyUp :: .ref m_replyLow :: .ref m_worthUp :: .ref m_worthLow :: .ref m_bestWay :: .int 0 :: .ref m_told :: .int 0 :: []))), (m_s, .inl (g 0, 193, .inl (fun _ => 0)))]) hP hD [0, 1] [] rfl rfl (by decide) (by decide) hk1 hFc hP1 hD1
  generalize H1 = H at hP hS ⊢
  have hP : va_P D vwCl [(mm, .inr (12, (.int 1 :: .ref m_s :: .ref m_spare :: .ref m_kept :: .ref m_undone :: .ref m_triedWay :: .ref m_isKept :: .int 0 :: .ref m_tape :: .int 0 :: .int 0 :: .int 0 :: .int 0 :: .int 0 :: .int 0 :: .int 0 :: .int 0 :: .int 0 :: .ref m_letters :: .int 0 :: .ref m_choice :: .ref m_row :: .ref m_up :: .ref m_low :: .ref m_m :: .ref m_bestUp :: .ref m_bestLow :: .ref m_replyUp :: .ref m_replyLow :: .ref m_worthUp :: .ref m_worthLow :: .ref m_bestWay :: .int 0 :: .ref m_told :: .int 0 :: []))), (m_s, .inl (g 0, 193, .inl (fun _ => 0)))] H := hP
  have hD : va_D A [(mm, .inr (12, (.int 1 :: .ref m_s :: .ref m_spare :: .ref m_kept :: .ref m_undone :: .ref m_triedWay :: .ref m_isKept :: .int 0 :: .ref m_tape :: .int 0 :: .int 0 :: .int 0 :: .int 0 :: .int 0 :: .int 0 :: .int 0 :: .int 0 :: .int 0 :: .ref m_letters :: .int 0 :: .ref m_choice :: .ref m_row :: .ref m_up :: .ref m_low :: .ref m_m :: .ref m_bestUp :: .ref m_bestLow :: .ref m_replyUp :: .ref m_replyLow :: .ref m_worthUp :: .ref m_worthLow :: .ref m_bestWay :: .int 0 :: .ref m_told :: .int 0 :: []))), (m_s, .inl (g 0, 193, .inl (fun _ => 0)))] := hD
  subst hw
  refine lv_istore (lv' := [(6, .int 0), (5, .int 1), (4, .int 0), (3, .ref oa), (2, .ref mm), (1, .ref x), (0, .ref b)]) hx hb dL_law_355 hl (by decide) rfl (fun ls hl => ?_)
  refine lv_aload_n hx hb dL_law_357 rfl (lv_at hl 4 rfl) ?_
  have hPc := hP.sub (ws' := [(mm, .inr (12, (.int 1 :: .ref m_s :: .ref m_spare :: .ref m_kept :: .ref m_undone :: .ref m_triedWay :: .ref m_isKept :: .int 0 :: .ref m_tape :: .int 0 :: .int 0 :: .int 0 :: .int 0 :: .int 0 :: .int 0 :: .int 0 :: .int 0 :: .int 0 :: .ref m_letters :: .int 0 :: .ref m_choice :: .ref m_row :: .ref m_up :: .ref m_low :: .ref m_m :: .ref m_bestUp :: .ref m_bestLow :: .ref m_replyUp :: .ref m_replyLow :: .ref m_worthUp :: .ref m_worthLow :: .ref m_bestWay :: .int 0 :: .ref m_told :: .int 0 :: [])))]) [0] rfl
  refine vp_callSi (va_Run.run (va_runV (As := []) (rest := []) ⟨hx, hb, hml, hown, hts⟩ (c_X12_thrown l D g mm m_s m_spare m_kept m_undone m_triedWay m_isKept 0 m_tape 0 0 0 0 0 0 0 0 0 m_letters 0 m_choice m_row m_up m_low m_m m_bestUp m_bestLow m_replyUp m_replyLow m_worthUp m_worthLow m_bestWay 0 m_told 0) (cwV 0 hts (tz_gV qw_613 qw_614 qw_615 qw_253 qw_616) rfl rfl rfl (by decide +kernel) ⟨Nat.le_of_ble_eq_true rfl, Nat.le_of_ble_eq_true rfl⟩) ⟨tz_blS, va_recv hK hPc (ci := 12) (q0 := 0) rfl rfl, tz_preS hPc hK⟩ rfl rfl hl.1 rfl (lv_room (Nat.le_of_ble_eq_true rfl)) dL_law_358 ⟨Nat.le_of_ble_eq_true rfl, Nat.le_of_ble_eq_true rfl⟩)) (fun r_624 hw => ?_)
  subst hw
  refine lv_iload hx hb dL_law_361 (lv_at hl 1 rfl) ?_
  refine lv_icmp_eq (tgt := 368) hx hb dL_law_363 (by decide) (fun _ => ?_) (fun h9 => (h9 (by decide)).elim)
  refine lv_iload hx hb dL_law_368 (lv_at hl 1 rfl) ?_
  refine lv_if_ne (tgt := 385) hx hb dL_law_370 (by decide) (fun _ => ?_) (fun h9 => absurd h9 (by decide))
  refine lv_goto (tgt := 1475) hx hb dL_law_385 (by decide) ?_
  exact law_end C0 hAl hbA H locs ls _ _ (by decide) (by decide) hS (lv_sub hl [2, 6] rfl)
set_option maxHeartbeats 4000000 in
set_option maxRecDepth 100000 in
theorem law_case_5 {p : Program} {l : Launch} {e : Env} {s : State} {m : MethodId} {below : List Frame} {meth : Method} {c : Code} {b : Nat} {xs : Nat → Int32} {A : Nat → Prop} {D : va_G} {g : Nat → ClassId} (x : Nat) (mm : Nat) (oa : Nat) (tp : Nat) (n : Nat) (dr : Nat) (x_images : Nat) (x_kept : Nat) (rd : Nat) (st : Nat) (tl : Nat) (rg : Nat) (sv : Nat) (oc : Nat) (x_tried : Nat) (lf : Nat) (x_stoppedWays : Nat) (x_stoppedWorth : Nat) (x_withinWorth : Nat) (n_kind : Nat) (n_pay : Nat) (n_name : Nat) (n_ways : Nat) (n_held : Nat) (n_targets : Nat) (n_weights : Nat) (m_s : Nat) (m_spare : Nat) (m_kept : Nat) (m_undone : Nat) (m_triedWay : Nat) (m_isKept : Nat) (m_tape : Nat) (m_letters : Nat) (m_choice : Nat) (m_row : Nat) (m_up : Nat) (m_low : Nat) (m_m : Nat) (m_bestUp : Nat) (m_bestLow : Nat) (m_replyUp : Nat) (m_replyLow : Nat) (m_worthUp : Nat) (m_worthLow : Nat) (m_bestWay : Nat) (m_told : Nat) (hst : l.stackTraces = false) (C0 : lw_At p s m meth c b 6 xs) (hA : ∀ q : Nat, s.heap.size ≤ q → A q) (hAl : ∀ q : Nat, A q → s.heap.size ≤ q) (hbA : ¬ A b) (hK : va_K D vwCl (TY g) s) (hZ : ZT A s s.heap) : ∀ (H : Heap) (locs : List Loc) (ls : Array Slot), va_P D vwCl [(x, .inr (11, [.ref tp, .ref n, .ref dr, .ref x_images, .ref x_kept, .ref rd, .ref st, .ref tl, .ref rg, .ref sv, .ref oc, .ref x_tried, .ref lf, .int 0, .ref x_stoppedWays, .ref x_stoppedWorth, .int 0, .ref x_withinWorth])), (n, .inr (2, [.int 0, .ref n_kind, .ref n_pay, .ref n_name, .ref n_ways, .ref n_held, .ref n_targets, .ref n_weights])), (mm, .inr (12, (.int 0 :: .ref m_s :: .ref m_spare :: .ref m_kept :: .ref m_undone :: .ref m_triedWay :: .ref m_isKept :: .int 0 :: .ref m_tape :: .int 0 :: .int 0 :: .int 0 :: .int 0 :: .int 0 :: .int 0 :: .int 0 :: .int 0 :: .int 0 :: .ref m_letters :: .int 0 :: .ref m_choice :: .ref m_row :: .ref m_up :: .ref m_low :: .ref m_m :: .ref m_bestUp :: .ref m_bestLow :: .ref m_replyUp :: .ref m_replyLow :: .ref m_worthUp :: .ref m_worthLow :: .ref m_bestWay :: .int 0 :: .ref m_told :: .int 0 :: []))), (m_s, .inl (g 0, 193, .inl (fun _ => 0)))] H → va_D A [(x, .inr (11, [.ref tp, .ref n, .ref dr, .ref x_images, .ref x_kept, .ref rd, .ref st, .ref tl, .ref rg, .ref sv, .ref oc, .ref x_tried, .ref lf, .int 0, .ref x_stoppedWays, .ref x_stoppedWorth, .int 0, .ref x_withinWorth])), (n, .inr (2, [.int 0, .ref n_kind, .ref n_pay, .ref n_name, .ref n_ways, .ref n_held, .ref n_targets, .ref n_weights])), (mm, .inr (12, (.int 0 :: .ref m_s :: .ref m_spare :: .ref m_kept :: .ref m_undone :: .ref m_triedWay :: .ref m_isKept :: .int 0 :: .ref m_tape :: .int 0 :: .int 0 :: .int 0 :: .int 0 :: .int 0 :: .int 0 :: .int 0 :: .int 0 :: .int 0 :: .ref m_letters :: .int 0 :: .ref m_choice :: .ref m_row :: .ref m_up :: .ref m_low :: .ref m_m :: .ref m_bestUp :: .ref m_bestLow :: .ref m_replyUp :: .ref m_replyLow :: .ref m_worthUp :: .ref m_worthLow :: .ref m_bestWay :: .int 0 :: .ref m_told :: .int 0 :: []))), (m_s, .inl (g 0, 193, .inl (fun _ => 0)))] → va_S A s.heap H locs → lv_has ls 8 [(4, .int 0), (3, .ref oa), (2, .ref mm), (1, .ref x), (0, .ref b)] → W p l e room_1 s m #[Value.ref b] below meth c H locs 114 6056 (lw_Z below #[Value.ref b] s) (F0 m 388 ls []) := by
  obtain ⟨hx, hb, hr, hml, hown, hts0, hX, hbl, hlocks, hgv⟩ := id C0
  have hts : ∀ w ∈ wsL_law, w.before _ s = true := fun w h => hts0 w (wsL_law_in w h)
  intro H locs ls hP hD hS hl
  refine lv_aload_n hx hb dL_law_388 rfl (lv_at hl 3 rfl) ?_
  refine lv_aload_n hx hb dL_law_389 rfl (lv_at hl 4 rfl) ?_
  refine lv_iload hx hb dL_law_390 (lv_at hl 0 rfl) ?_
  refine lv_iconst (v := 1) hx hb dL_law_392 (by decide) ?_
  refine lv_iadd hx hb dL_law_393 ?_
  refine tz_i (y := 1) (by decide +kernel) ?_
  refine va_sld hx hb hX hbl hbA hS (tz_in (by decide +kernel)) dL_law_394 ?_
  refine tz_i (y := xs 1) (congrArg xs (by decide +kernel)) ?_
  refine lv_aload_n hx hb dL_law_395 rfl (lv_at hl 4 rfl) ?_
  refine lv_iload hx hb dL_law_396 (lv_at hl 0 rfl) ?_
  refine lv_iconst (v := 2) hx hb dL_law_398 (by decide) ?_
  refine lv_iadd hx hb dL_law_399 ?_
  refine tz_i (y := 2) (by decide +kernel) ?_
  refine va_sld hx hb hX hbl hbA hS (tz_in (by decide +kernel)) dL_law_400 ?_
  refine tz_i (y := xs 2) (congrArg xs (by decide +kernel)) ?_
  refine lv_aload_n hx hb dL_law_401 rfl (lv_at hl 4 rfl) ?_
  refine lv_iload hx hb dL_law_402 (lv_at hl 0 rfl) ?_
  refine lv_iconst (v := 3) hx hb dL_law_404 (by decide) ?_
  refine lv_iadd hx hb dL_law_405 ?_
  refine tz_i (y := 3) (by decide +kernel) ?_
  refine va_sld hx hb hX hbl hbA hS (tz_in (by decide +kernel)) dL_law_406 ?_
  refine tz_i (y := xs 3) (congrArg xs (by decide +kernel)) ?_
  refine lv_aload_n hx hb dL_law_407 rfl (lv_at hl 1 rfl) ?_
  have hPc := hP.sub (ws' := [(x, .inr (11, [.ref tp, .ref n, .ref dr, .ref x_images, .ref x_kept, .ref rd, .ref st, .ref tl, .ref rg, .ref sv, .ref oc, .ref x_tried, .ref lf, .int 0, .ref x_stoppedWays, .ref x_stoppedWorth, .int 0, .ref x_withinWorth])), (n, .inr (2, [.int 0, .ref n_kind, .ref n_pay, .ref n_name, .ref n_ways, .ref n_held, .ref n_targets, .ref n_weights]))]) [0, 1] rfl
  have hDc := hD.sub (ws' := [(x, .inr (11, [.ref tp, .ref n, .ref dr, .ref x_images, .ref x_kept, .ref rd, .ref st, .ref tl, .ref rg, .ref sv, .ref oc, .ref x_tried, .ref lf, .int 0, .ref x_stoppedWays, .ref x_stoppedWorth, .int 0, .ref x_withinWorth])), (n, .inr (2, [.int 0, .ref n_kind, .ref n_pay, .ref n_name, .ref n_ways, .ref n_held, .ref n_targets, .ref n_weights]))]) [0, 1] (by decide) rfl
  have hFc := va_free (wc := [(x, .inr (11, [.ref tp, .ref n, .ref dr, .ref x_images, .ref x_kept, .ref rd, .ref st, .ref tl, .ref rg, .ref sv, .ref oc, .ref x_tried, .ref lf, .int 0, .ref x_stoppedWays, .ref x_stoppedWorth, .int 0, .ref x_withinWorth])), (n, .inr (2, [.int 0, .ref n_kind, .ref n_pay, .ref n_name, .ref n_ways, .ref n_held, .ref n_targets, .ref n_weights]))]) hD hS hA [0, 1] rfl
  refine vx_calli (vx_runSX (As := [.ref x, .int (xs 1), .int (xs 2), .int (xs 3), .ref oa]) (rest := []) ⟨hx, hb, hml, hown, hts⟩ (c_L_way l hst D g H.size x (xs 1) (xs 2) (xs 3) oa tp n dr x_images x_kept rd st tl rg sv oc x_tried lf x_stoppedWays x_stoppedWorth x_withinWorth n_kind n_pay n_name n_ways n_held n_targets n_weights) (vx_cwSW 5 hts (tz_gS qw_617 qw_618 qw_607 qw_619) rfl rfl rfl (by decide +kernel) ⟨Nat.le_of_ble_eq_true rfl, Nat.le_of_ble_eq_true rfl⟩) ⟨tz_blX, tz_preX hPc hK hDc (hZ.kept hS hFc)⟩ rfl rfl hl.1 rfl (lv_room (Nat.le_of_ble_eq_true rfl)) dL_law_408 ⟨Nat.le_of_ble_eq_true rfl, Nat.le_of_ble_eq_true rfl⟩) hS (fun q _ h => hFc q h) hFc (fun q _ h => hFc q h) (fun E ce q9 u t H1 locs1 ht hvm hpx hBX hz1 hk1 hS hce hcv hcl => hpx.elim) (fun r_628 u t H1 locs ht hvm hw hB hz1 hk1 hS => ?_)
  obtain ⟨hP, hD⟩ := va_join (wr := [(mm, .inr (12, (.int 0 :: .ref m_s :: .ref m_spare :: .ref m_kept :: .ref m_undone :: .ref m_triedWay :: .ref m_isKept :: .int 0 :: .ref m_tape :: .int 0 :: .int 0 :: .int 0 :: .int 0 :: .int 0 :: .int 0 :: .int 0 :: .int 0 :: .int 0 :: .ref m_letters :: .int 0 :: .ref m_choice :: .ref m_row :: .ref m_up :: .ref m_low :: .ref m_m :: .ref m_bestUp :: .ref m_bestLow :: .ref m_replyUp :: .ref m_replyLow :: .ref m_worthUp :: .ref m_worthLow :: .ref m_bestWay :: .int 0 :: .ref m_told :: .int 0 :: []))), (m_s, .inl (g 0, 193, .inl (fun _ => 0)))]) (w1 := []) hP hD [0, 1] [2, 3] rfl rfl (by decide) (by decide) hk1 hFc tz_nilP tz_nilD
  generalize H1 = H at hP hS ⊢
  have hP : va_P D vwCl [(mm, .inr (12, (.int 0 :: .ref m_s :: .ref m_spare :: .ref m_kept :: .ref m_undone :: .ref m_triedWay :: .ref m_isKept :: .int 0 :: .ref m_tape :: .int 0 :: .int 0 :: .int 0 :: .int 0 :: .int 0 :: .int 0 :: .int 0 :: .int 0 :: .int 0 :: .ref m_letters :: .int 0 :: .ref m_choice :: .ref m_row :: .ref m_up :: .ref m_low :: .ref m_m :: .ref m_bestUp :: .ref m_bestLow :: .ref m_replyUp :: .ref m_replyLow :: .ref m_worthUp :: .ref m_worthLow :: .ref m_bestWay :: .int 0 :: .ref m_told :: .int 0 :: []))), (m_s, .inl (g 0, 193, .inl (fun _ => 0)))] H := hP
  have hD : va_D A [(mm, .inr (12, (.int 0 :: .ref m_s :: .ref m_spare :: .ref m_kept :: .ref m_undone :: .ref m_triedWay :: .ref m_isKept :: .int 0 :: .ref m_tape :: .int 0 :: .int 0 :: .int 0 :: .int 0 :: .int 0 :: .int 0 :: .int 0 :: .int 0 :: .int 0 :: .ref m_letters :: .int 0 :: .ref m_choice :: .ref m_row :: .ref m_up :: .ref m_low :: .ref m_m :: .ref m_bestUp :: .ref m_bestLow :: .ref m_replyUp :: .ref m_replyLow :: .ref m_worthUp :: .ref m_worthLow :: .ref m_bestWay :: .int 0 :: .ref m_told :: .int 0 :: []))), (m_s, .inl (g 0, 193, .inl (fun _ => 0)))] := hD
  subst hw
  refine W.widen (k := 115) (n := 6062) (by decide) (by decide) ?_
  refine lv_istore (lv' := [(5, .int 1), (4, .int 0), (3, .ref oa), (2, .ref mm), (1, .ref x), (0, .ref b)]) hx hb dL_law_411 hl (by decide) rfl (fun ls hl => ?_)
  refine lv_aload_n hx hb dL_law_413 rfl (lv_at hl 3 rfl) ?_
  refine lv_aload_n hx hb dL_law_414 rfl (lv_at hl 5 rfl) ?_
  refine lv_iload hx hb dL_law_415 (lv_at hl 1 rfl) ?_
  refine lv_iconst (v := 1) hx hb dL_law_417 (by decide) ?_
  refine lv_iadd hx hb dL_law_418 ?_
  refine tz_i (y := 1) (by decide +kernel) ?_
  refine va_sld hx hb hX hbl hbA hS (tz_in (by decide +kernel)) dL_law_419 ?_
  refine tz_i (y := xs 1) (congrArg xs (by decide +kernel)) ?_
  refine lv_aload_n hx hb dL_law_420 rfl (lv_at hl 5 rfl) ?_
  refine lv_iload hx hb dL_law_421 (lv_at hl 1 rfl) ?_
  refine lv_iconst (v := 2) hx hb dL_law_423 (by decide) ?_
  refine lv_iadd hx hb dL_law_424 ?_
  refine tz_i (y := 2) (by decide +kernel) ?_
  refine va_sld hx hb hX hbl hbA hS (tz_in (by decide +kernel)) dL_law_425 ?_
  refine tz_i (y := xs 2) (congrArg xs (by decide +kernel)) ?_
  refine lv_aload_n hx hb dL_law_426 rfl (lv_at hl 5 rfl) ?_
  refine lv_iload hx hb dL_law_427 (lv_at hl 1 rfl) ?_
  refine lv_iconst (v := 3) hx hb dL_law_429 (by decide) ?_
  refine lv_iadd hx hb dL_law_430 ?_
  refine tz_i (y := 3) (by decide +kernel) ?_
  refine va_sld hx hb hX hbl hbA hS (tz_in (by decide +kernel)) dL_law_431 ?_
  refine tz_i (y := xs 3) (congrArg xs (by decide +kernel)) ?_
  have hPc := hP.sub (ws' := [(mm, .inr (12, (.int 0 :: .ref m_s :: .ref m_spare :: .ref m_kept :: .ref m_undone :: .ref m_triedWay :: .ref m_isKept :: .int 0 :: .ref m_tape :: .int 0 :: .int 0 :: .int 0 :: .int 0 :: .int 0 :: .int 0 :: .int 0 :: .int 0 :: .int 0 :: .ref m_letters :: .int 0 :: .ref m_choice :: .ref m_row :: .ref m_up :: .ref m_low :: .ref m_m :: .ref m_bestUp :: .ref m_bestLow :: .ref m_replyUp :: .ref m_replyLow :: .ref m_worthUp :: .ref m_worthLow :: .ref m_bestWay :: .int 0 :: .ref m_told :: .int 0 :: []))), (m_s, .inl (g 0, 193, .inl (fun _ => 0)))]) [0, 1] rfl
  have hDc := hD.sub (ws' := [(mm, .inr (12, (.int 0 :: .ref m_s :: .ref m_spare :: .ref m_kept :: .ref m_undone :: .ref m_triedWay :: .ref m_isKept :: .int 0 :: .ref m_tape :: .int 0 :: .int 0 :: .int 0 :: .int 0 :: .int 0 :: .int 0 :: .int 0 :: .int 0 :: .int 0 :: .ref m_letters :: .int 0 :: .ref m_choice :: .ref m_row :: .ref m_up :: .ref m_low :: .ref m_m :: .ref m_bestUp :: .ref m_bestLow :: .ref m_replyUp :: .ref m_replyLow :: .ref m_worthUp :: .ref m_worthLow :: .ref m_bestWay :: .int 0 :: .ref m_told :: .int 0 :: []))), (m_s, .inl (g 0, 193, .inl (fun _ => 0)))]) [0, 1] (by decide) rfl
  have hFc := va_free (wc := [(mm, .inr (12, (.int 0 :: .ref m_s :: .ref m_spare :: .ref m_kept :: .ref m_undone :: .ref m_triedWay :: .ref m_isKept :: .int 0 :: .ref m_tape :: .int 0 :: .int 0 :: .int 0 :: .int 0 :: .int 0 :: .int 0 :: .int 0 :: .int 0 :: .int 0 :: .ref m_letters :: .int 0 :: .ref m_choice :: .ref m_row :: .ref m_up :: .ref m_low :: .ref m_m :: .ref m_bestUp :: .ref m_bestLow :: .ref m_replyUp :: .ref m_replyLow :: .ref m_worthUp :: .ref m_worthLow :: .ref m_bestWay :: .int 0 :: .ref m_told :: .int 0 :: []))), (m_s, .inl (g 0, 193, .inl (fun _ => 0)))]) hD hS hA [0, 1] rfl
  refine va_calli (va_runV (As := [.int (xs 1), .int (xs 2), .int (xs 3)]) (rest := []) ⟨hx, hb, hml, hown, hts⟩ (c_X12_way l D g H.size mm (xs 1) (xs 2) (xs 3) 0 m_s m_spare m_kept m_undone m_triedWay m_isKept 0 m_tape 0 0 0 0 0 0 0 0 0 m_letters m_choice m_row m_up m_low m_m m_bestUp m_bestLow m_replyUp m_replyLow m_worthUp m_worthLow m_bestWay 0 m_told 0) (cwV 3 hts (tz_gV qw_620 qw_621 qw_622 qw_253 qw_623) rfl rfl rfl (by decide +kernel) ⟨Nat.le_of_ble_eq_true rfl, Nat.le_of_ble_eq_true rfl⟩) ⟨tz_blQ, va_recv hK hPc (ci := 12) (q0 := 0) rfl rfl, tz_preQ hPc hK hDc⟩ rfl rfl hl.1 rfl (lv_room (Nat.le_of_ble_eq_true rfl)) dL_law_432 ⟨Nat.le_of_ble_eq_true rfl, Nat.le_of_ble_eq_true rfl⟩) hS (fun q _ h => hFc q h) hFc (fun r_629 u t H1 locs ht hvm hw hB hz1 hk1 hS => ?_)
  obtain ⟨hP1, hD1⟩ := hB
  rw [ht] at hP1
  obtain ⟨hP, hD⟩ := va_join (wr := []) (w1 := [(mm, .inr (12, (.int 1 :: .ref m_s :: .ref m_spare :: .ref m_kept :: .ref m_undone :: .ref m_triedWay :: .ref m_isKept :: .int 0 :: .ref m_tape :: .int 0 :: .int 0 :: .int 0 :: .int 0 :: .int 0 :: .int 0 :: .int 0 :: .int 0 :: .int 0 :: .ref m_letters :: .int 0 :: .ref m_choice :: .ref m_row :: .ref m_up :: .ref m_low :: .ref m_m :: .ref m_bestUp :: .ref m_bestLow :: .ref m_replyUp :: .ref m_replyLow :: .ref m_worthUp :: .ref m_worthLow :: .ref m_bestWay :: .int 0 :: .ref m_told :: .int 0 :: []))), (m_s, .inl (g 0, 193, .inl (fun _ => 0)))]) hP hD [0, 1] [] rfl rfl (by decide) (by decide) hk1 hFc hP1 hD1
  generalize H1 = H at hP hS ⊢
  have hP : va_P D vwCl [(mm, .inr (12, (.int 1 :: .ref m_s :: .ref m_spare :: .ref m_kept :: .ref m_undone :: .ref m_triedWay :: .ref m_isKept :: .int 0 :: .ref m_tape :: .int 0 :: .int 0 :: .int 0 :: .int 0 :: .int 0 :: .int 0 :: .int 0 :: .int 0 :: .int 0 :: .ref m_letters :: .int 0 :: .ref m_choice :: .ref m_row :: .ref m_up :: .ref m_low :: .ref m_m :: .ref m_bestUp :: .ref m_bestLow :: .ref m_replyUp :: .ref m_replyLow :: .ref m_worthUp :: .ref m_worthLow :: .ref m_bestWay :: .int 0 :: .ref m_told :: .int 0 :: []))), (m_s, .inl (g 0, 193, .inl (fun _ => 0)))] H := hP
  have hD : va_D A [(mm, .inr (12, (.int 1 :: .ref m_s :: .ref m_spare :: .ref m_kept :: .ref m_undone :: .ref m_triedWay :: .ref m_isKept :: .int 0 :: .ref m_tape :: .int 0 :: .int 0 :: .int 0 :: .int 0 :: .int 0 :: .int 0 :: .int 0 :: .int 0 :: .int 0 :: .ref m_letters :: .int 0 :: .ref m_choice :: .ref m_row :: .ref m_up :: .ref m_low :: .ref m_m :: .ref m_bestUp :: .ref m_bestLow :: .ref m_replyUp :: .ref m_replyLow :: .ref m_worthUp :: .ref m_worthLow :: .ref m_bestWay :: .int 0 :: .ref m_told :: .int 0 :: []))), (m_s, .inl (g 0, 193, .inl (fun _ => 0)))] := hD
  subst hw
  refine lv_istore (lv' := [(6, .int 0), (5, .int 1), (4, .int 0), (3, .ref oa), (2, .ref mm), (1, .ref x), (0, .ref b)]) hx hb dL_law_435 hl (by decide) rfl (fun ls hl => ?_)
  refine lv_aload_n hx hb dL_law_437 rfl (lv_at hl 4 rfl) ?_
  have hPc := hP.sub (ws' := [(mm, .inr (12, (.int 1 :: .ref m_s :: .ref m_spare :: .ref m_kept :: .ref m_undone :: .ref m_triedWay :: .ref m_isKept :: .int 0 :: .ref m_tape :: .int 0 :: .int 0 :: .int 0 :: .int 0 :: .int 0 :: .int 0 :: .int 0 :: .int 0 :: .int 0 :: .ref m_letters :: .int 0 :: .ref m_choice :: .ref m_row :: .ref m_up :: .ref m_low :: .ref m_m :: .ref m_bestUp :: .ref m_bestLow :: .ref m_replyUp :: .ref m_replyLow :: .ref m_worthUp :: .ref m_worthLow :: .ref m_bestWay :: .int 0 :: .ref m_told :: .int 0 :: [])))]) [0] rfl
  refine vp_callSi (va_Run.run (va_runV (As := []) (rest := []) ⟨hx, hb, hml, hown, hts⟩ (c_X12_thrown l D g mm m_s m_spare m_kept m_undone m_triedWay m_isKept 0 m_tape 0 0 0 0 0 0 0 0 0 m_letters 0 m_choice m_row m_up m_low m_m m_bestUp m_bestLow m_replyUp m_replyLow m_worthUp m_worthLow m_bestWay 0 m_told 0) (cwV 0 hts (tz_gV qw_613 qw_614 qw_615 qw_253 qw_616) rfl rfl rfl (by decide +kernel) ⟨Nat.le_of_ble_eq_true rfl, Nat.le_of_ble_eq_true rfl⟩) ⟨tz_blS, va_recv hK hPc (ci := 12) (q0 := 0) rfl rfl, tz_preS hPc hK⟩ rfl rfl hl.1 rfl (lv_room (Nat.le_of_ble_eq_true rfl)) dL_law_438 ⟨Nat.le_of_ble_eq_true rfl, Nat.le_of_ble_eq_true rfl⟩)) (fun r_630 hw => ?_)
  subst hw
  refine lv_iload hx hb dL_law_441 (lv_at hl 1 rfl) ?_
  refine lv_icmp_eq (tgt := 448) hx hb dL_law_443 (by decide) (fun _ => ?_) (fun h9 => (h9 (by decide)).elim)
  refine lv_iload hx hb dL_law_448 (lv_at hl 1 rfl) ?_
  refine lv_if_ne (tgt := 465) hx hb dL_law_450 (by decide) (fun _ => ?_) (fun h9 => absurd h9 (by decide))
  refine lv_goto (tgt := 1475) hx hb dL_law_465 (by decide) ?_
  exact law_end C0 hAl hbA H locs ls _ _ (by decide) (by decide) hS (lv_sub hl [2, 6] rfl)
set_option maxHeartbeats 4000000 in
set_option maxRecDepth 100000 in
theorem law_case_6 {p : Program} {l : Launch} {e : Env} {s : State} {m : MethodId} {below : List Frame} {meth : Method} {c : Code} {b : Nat} {xs : Nat → Int32} {A : Nat → Prop} {D : va_G} {g : Nat → ClassId} (x : Nat) (mm : Nat) (oa : Nat) (tp : Nat) (n : Nat) (dr : Nat) (x_images : Nat) (x_kept : Nat) (rd : Nat) (st : Nat) (tl : Nat) (rg : Nat) (sv : Nat) (oc : Nat) (x_tried : Nat) (lf : Nat) (x_stoppedWays : Nat) (x_stoppedWorth : Nat) (x_withinWorth : Nat) (n_kind : Nat) (n_pay : Nat) (n_name : Nat) (n_ways : Nat) (n_held : Nat) (n_targets : Nat) (n_weights : Nat) (m_s : Nat) (m_spare : Nat) (m_kept : Nat) (m_undone : Nat) (m_triedWay : Nat) (m_isKept : Nat) (m_tape : Nat) (m_letters : Nat) (m_choice : Nat) (m_row : Nat) (m_up : Nat) (m_low : Nat) (m_m : Nat) (m_bestUp : Nat) (m_bestLow : Nat) (m_replyUp : Nat) (m_replyLow : Nat) (m_worthUp : Nat) (m_worthLow : Nat) (m_bestWay : Nat) (m_told : Nat) (hst : l.stackTraces = false) (C0 : lw_At p s m meth c b 6 xs) (hA : ∀ q : Nat, s.heap.size ≤ q → A q) (hAl : ∀ q : Nat, A q → s.heap.size ≤ q) (hbA : ¬ A b) (hK : va_K D vwCl (TY g) s) (hZ : ZT A s s.heap) : ∀ (H : Heap) (locs : List Loc) (ls : Array Slot), va_P D vwCl [(x, .inr (11, [.ref tp, .ref n, .ref dr, .ref x_images, .ref x_kept, .ref rd, .ref st, .ref tl, .ref rg, .ref sv, .ref oc, .ref x_tried, .ref lf, .int 0, .ref x_stoppedWays, .ref x_stoppedWorth, .int 0, .ref x_withinWorth])), (n, .inr (2, [.int 0, .ref n_kind, .ref n_pay, .ref n_name, .ref n_ways, .ref n_held, .ref n_targets, .ref n_weights])), (mm, .inr (12, (.int 0 :: .ref m_s :: .ref m_spare :: .ref m_kept :: .ref m_undone :: .ref m_triedWay :: .ref m_isKept :: .int 0 :: .ref m_tape :: .int 0 :: .int 0 :: .int 0 :: .int 0 :: .int 0 :: .int 0 :: .int 0 :: .int 0 :: .int 0 :: .ref m_letters :: .int 0 :: .ref m_choice :: .ref m_row :: .ref m_up :: .ref m_low :: .ref m_m :: .ref m_bestUp :: .ref m_bestLow :: .ref m_replyUp :: .ref m_replyLow :: .ref m_worthUp :: .ref m_worthLow :: .ref m_bestWay :: .int 0 :: .ref m_told :: .int 0 :: []))), (m_s, .inl (g 0, 193, .inl (fun _ => 0)))] H → va_D A [(x, .inr (11, [.ref tp, .ref n, .ref dr, .ref x_images, .ref x_kept, .ref rd, .ref st, .ref tl, .ref rg, .ref sv, .ref oc, .ref x_tried, .ref lf, .int 0, .ref x_stoppedWays, .ref x_stoppedWorth, .int 0, .ref x_withinWorth])), (n, .inr (2, [.int 0, .ref n_kind, .ref n_pay, .ref n_name, .ref n_ways, .ref n_held, .ref n_targets, .ref n_weights])), (mm, .inr (12, (.int 0 :: .ref m_s :: .ref m_spare :: .ref m_kept :: .ref m_undone :: .ref m_triedWay :: .ref m_isKept :: .int 0 :: .ref m_tape :: .int 0 :: .int 0 :: .int 0 :: .int 0 :: .int 0 :: .int 0 :: .int 0 :: .int 0 :: .int 0 :: .ref m_letters :: .int 0 :: .ref m_choice :: .ref m_row :: .ref m_up :: .ref m_low :: .ref m_m :: .ref m_bestUp :: .ref m_bestLow :: .ref m_replyUp :: .ref m_replyLow :: .ref m_worthUp :: .ref m_worthLow :: .ref m_bestWay :: .int 0 :: .ref m_told :: .int 0 :: []))), (m_s, .inl (g 0, 193, .inl (fun _ => 0)))] → va_S A s.heap H locs → lv_has ls 8 [(4, .int 0), (3, .ref oa), (2, .ref mm), (1, .ref x), (0, .ref b)] → W p l e room_1 s m #[Value.ref b] below meth c H locs 114 6056 (lw_Z below #[Value.ref b] s) (F0 m 468 ls []) := by
  obtain ⟨hx, hb, hr, hml, hown, hts0, hX, hbl, hlocks, hgv⟩ := id C0
  have hts : ∀ w ∈ wsL_law, w.before _ s = true := fun w h => hts0 w (wsL_law_in w h)
  intro H locs ls hP hD hS hl
  refine lv_aload_n hx hb dL_law_468 rfl (lv_at hl 3 rfl) ?_
  refine lv_aload_n hx hb dL_law_469 rfl (lv_at hl 4 rfl) ?_
  refine lv_iload hx hb dL_law_470 (lv_at hl 0 rfl) ?_
  refine lv_iconst (v := 1) hx hb dL_law_472 (by decide) ?_
  refine lv_iadd hx hb dL_law_473 ?_
  refine tz_i (y := 1) (by decide +kernel) ?_
  refine va_sld hx hb hX hbl hbA hS (tz_in (by decide +kernel)) dL_law_474 ?_
  refine tz_i (y := xs 1) (congrArg xs (by decide +kernel)) ?_
  refine lv_aload_n hx hb dL_law_475 rfl (lv_at hl 4 rfl) ?_
  refine lv_iload hx hb dL_law_476 (lv_at hl 0 rfl) ?_
  refine lv_iconst (v := 2) hx hb dL_law_478 (by decide) ?_
  refine lv_iadd hx hb dL_law_479 ?_
  refine tz_i (y := 2) (by decide +kernel) ?_
  refine va_sld hx hb hX hbl hbA hS (tz_in (by decide +kernel)) dL_law_480 ?_
  refine tz_i (y := xs 2) (congrArg xs (by decide +kernel)) ?_
  refine lv_aload_n hx hb dL_law_481 rfl (lv_at hl 1 rfl) ?_
  have hPc := hP.sub (ws' := [(x, .inr (11, [.ref tp, .ref n, .ref dr, .ref x_images, .ref x_kept, .ref rd, .ref st, .ref tl, .ref rg, .ref sv, .ref oc, .ref x_tried, .ref lf, .int 0, .ref x_stoppedWays, .ref x_stoppedWorth, .int 0, .ref x_withinWorth])), (n, .inr (2, [.int 0, .ref n_kind, .ref n_pay, .ref n_name, .ref n_ways, .ref n_held, .ref n_targets, .ref n_weights]))]) [0, 1] rfl
  have hDc := hD.sub (ws' := [(x, .inr (11, [.ref tp, .ref n, .ref dr, .ref x_images, .ref x_kept, .ref rd, .ref st, .ref tl, .ref rg, .ref sv, .ref oc, .ref x_tried, .ref lf, .int 0, .ref x_stoppedWays, .ref x_stoppedWorth, .int 0, .ref x_withinWorth])), (n, .inr (2, [.int 0, .ref n_kind, .ref n_pay, .ref n_name, .ref n_ways, .ref n_held, .ref n_targets, .ref n_weights]))]) [0, 1] (by decide) rfl
  have hFc := va_free (wc := [(x, .inr (11, [.ref tp, .ref n, .ref dr, .ref x_images, .ref x_kept, .ref rd, .ref st, .ref tl, .ref rg, .ref sv, .ref oc, .ref x_tried, .ref lf, .int 0, .ref x_stoppedWays, .ref x_stoppedWorth, .int 0, .ref x_withinWorth])), (n, .inr (2, [.int 0, .ref n_kind, .ref n_pay, .ref n_name, .ref n_ways, .ref n_held, .ref n_targets, .ref n_weights]))]) hD hS hA [0, 1] rfl
  refine vx_calli (vx_runSX (As := [.ref x, .int (xs 1), .int (xs 2), .ref oa]) (rest := []) ⟨hx, hb, hml, hown, hts⟩ (c_L_worth l hst D g H.size x (xs 1) (xs 2) oa tp n dr x_images x_kept rd st tl rg sv oc x_tried lf x_stoppedWays x_stoppedWorth x_withinWorth n_kind n_pay n_name n_ways n_held n_targets n_weights) (vx_cwSW 4 hts (tz_gS qw_624 qw_625 qw_607 qw_626) rfl rfl rfl (by decide +kernel) ⟨Nat.le_of_ble_eq_true rfl, Nat.le_of_ble_eq_true rfl⟩) ⟨tz_blX, tz_preX hPc hK hDc (hZ.kept hS hFc)⟩ rfl rfl hl.1 rfl (lv_room (Nat.le_of_ble_eq_true rfl)) dL_law_482 ⟨Nat.le_of_ble_eq_true rfl, Nat.le_of_ble_eq_true rfl⟩) hS (fun q _ h => hFc q h) hFc (fun q _ h => hFc q h) (fun E ce q9 u t H1 locs1 ht hvm hpx hBX hz1 hk1 hS hce hcv hcl => hpx.elim) (fun r_634 u t H1 locs ht hvm hw hB hz1 hk1 hS => ?_)
  obtain ⟨hP, hD⟩ := va_join (wr := [(mm, .inr (12, (.int 0 :: .ref m_s :: .ref m_spare :: .ref m_kept :: .ref m_undone :: .ref m_triedWay :: .ref m_isKept :: .int 0 :: .ref m_tape :: .int 0 :: .int 0 :: .int 0 :: .int 0 :: .int 0 :: .int 0 :: .int 0 :: .int 0 :: .int 0 :: .ref m_letters :: .int 0 :: .ref m_choice :: .ref m_row :: .ref m_up :: .ref m_low :: .ref m_m :: .ref m_bestUp :: .ref m_bestLow :: .ref m_replyUp :: .ref m_replyLow :: .ref m_worthUp :: .ref m_worthLow :: .ref m_bestWay :: .int 0 :: .ref m_told :: .int 0 :: []))), (m_s, .inl (g 0, 193, .inl (fun _ => 0)))]) (w1 := []) hP hD [0, 1] [2, 3] rfl rfl (by decide) (by decide) hk1 hFc tz_nilP tz_nilD
  generalize H1 = H at hP hS ⊢
  have hP : va_P D vwCl [(mm, .inr (12, (.int 0 :: .ref m_s :: .ref m_spare :: .ref m_kept :: .ref m_undone :: .ref m_triedWay :: .ref m_isKept :: .int 0 :: .ref m_tape :: .int 0 :: .int 0 :: .int 0 :: .int 0 :: .int 0 :: .int 0 :: .int 0 :: .int 0 :: .int 0 :: .ref m_letters :: .int 0 :: .ref m_choice :: .ref m_row :: .ref m_up :: .ref m_low :: .ref m_m :: .ref m_bestUp :: .ref m_bestLow :: .ref m_replyUp :: .ref m_replyLow :: .ref m_worthUp :: .ref m_worthLow :: .ref m_bestWay :: .int 0 :: .ref m_told :: .int 0 :: []))), (m_s, .inl (g 0, 193, .inl (fun _ => 0)))] H := hP
  have hD : va_D A [(mm, .inr (12, (.int 0 :: .ref m_s :: .ref m_spare :: .ref m_kept :: .ref m_undone :: .ref m_triedWay :: .ref m_isKept :: .int 0 :: .ref m_tape :: .int 0 :: .int 0 :: .int 0 :: .int 0 :: .int 0 :: .int 0 :: .int 0 :: .int 0 :: .int 0 :: .ref m_letters :: .int 0 :: .ref m_choice :: .ref m_row :: .ref m_up :: .ref m_low :: .ref m_m :: .ref m_bestUp :: .ref m_bestLow :: .ref m_replyUp :: .ref m_replyLow :: .ref m_worthUp :: .ref m_worthLow :: .ref m_bestWay :: .int 0 :: .ref m_told :: .int 0 :: []))), (m_s, .inl (g 0, 193, .inl (fun _ => 0)))] := hD
  subst hw
  refine W.widen (k := 115) (n := 6062) (by decide) (by decide) ?_
  refine lv_istore (lv' := [(5, .int 1), (4, .int 0), (3, .ref oa), (2, .ref mm), (1, .ref x), (0, .ref b)]) hx hb dL_law_485 hl (by decide) rfl (fun ls hl => ?_)
  refine lv_aload_n hx hb dL_law_487 rfl (lv_at hl 3 rfl) ?_
  refine lv_aload_n hx hb dL_law_488 rfl (lv_at hl 5 rfl) ?_
  refine lv_iload hx hb dL_law_489 (lv_at hl 1 rfl) ?_
  refine lv_iconst (v := 1) hx hb dL_law_491 (by decide) ?_
  refine lv_iadd hx hb dL_law_492 ?_
  refine tz_i (y := 1) (by decide +kernel) ?_
  refine va_sld hx hb hX hbl hbA hS (tz_in (by decide +kernel)) dL_law_493 ?_
  refine tz_i (y := xs 1) (congrArg xs (by decide +kernel)) ?_
  refine lv_aload_n hx hb dL_law_494 rfl (lv_at hl 5 rfl) ?_
  refine lv_iload hx hb dL_law_495 (lv_at hl 1 rfl) ?_
  refine lv_iconst (v := 2) hx hb dL_law_497 (by decide) ?_
  refine lv_iadd hx hb dL_law_498 ?_
  refine tz_i (y := 2) (by decide +kernel) ?_
  refine va_sld hx hb hX hbl hbA hS (tz_in (by decide +kernel)) dL_law_499 ?_
  refine tz_i (y := xs 2) (congrArg xs (by decide +kernel)) ?_
  have hPc := hP.sub (ws' := [(mm, .inr (12, (.int 0 :: .ref m_s :: .ref m_spare :: .ref m_kept :: .ref m_undone :: .ref m_triedWay :: .ref m_isKept :: .int 0 :: .ref m_tape :: .int 0 :: .int 0 :: .int 0 :: .int 0 :: .int 0 :: .int 0 :: .int 0 :: .int 0 :: .int 0 :: .ref m_letters :: .int 0 :: .ref m_choice :: .ref m_row :: .ref m_up :: .ref m_low :: .ref m_m :: .ref m_bestUp :: .ref m_bestLow :: .ref m_replyUp :: .ref m_replyLow :: .ref m_worthUp :: .ref m_worthLow :: .ref m_bestWay :: .int 0 :: .ref m_told :: .int 0 :: []))), (m_s, .inl (g 0, 193, .inl (fun _ => 0)))]) [0, 1] rfl
  have hDc := hD.sub (ws' := [(mm, .inr (12, (.int 0 :: .ref m_s :: .ref m_spare :: .ref m_kept :: .ref m_undone :: .ref m_triedWay :: .ref m_isKept :: .int 0 :: .ref m_tape :: .int 0 :: .int 0 :: .int 0 :: .int 0 :: .int 0 :: .int 0 :: .int 0 :: .int 0 :: .int 0 :: .ref m_letters :: .int 0 :: .ref m_choice :: .ref m_row :: .ref m_up :: .ref m_low :: .ref m_m :: .ref m_bestUp :: .ref m_bestLow :: .ref m_replyUp :: .ref m_replyLow :: .ref m_worthUp :: .ref m_worthLow :: .ref m_bestWay :: .int 0 :: .ref m_told :: .int 0 :: []))), (m_s, .inl (g 0, 193, .inl (fun _ => 0)))]) [0, 1] (by decide) rfl
  have hFc := va_free (wc := [(mm, .inr (12, (.int 0 :: .ref m_s :: .ref m_spare :: .ref m_kept :: .ref m_undone :: .ref m_triedWay :: .ref m_isKept :: .int 0 :: .ref m_tape :: .int 0 :: .int 0 :: .int 0 :: .int 0 :: .int 0 :: .int 0 :: .int 0 :: .int 0 :: .int 0 :: .ref m_letters :: .int 0 :: .ref m_choice :: .ref m_row :: .ref m_up :: .ref m_low :: .ref m_m :: .ref m_bestUp :: .ref m_bestLow :: .ref m_replyUp :: .ref m_replyLow :: .ref m_worthUp :: .ref m_worthLow :: .ref m_bestWay :: .int 0 :: .ref m_told :: .int 0 :: []))), (m_s, .inl (g 0, 193, .inl (fun _ => 0)))]) hD hS hA [0, 1] rfl
  refine va_calll (va_runV (As := [.int (xs 1), .int (xs 2)]) (rest := []) ⟨hx, hb, hml, hown, hts⟩ (c_X12_worth l D g H.size mm (xs 1) (xs 2) 0 m_s m_spare m_kept m_undone m_triedWay m_isKept 0 m_tape 0 0 0 0 0 0 0 0 0 m_letters m_choice m_row m_up m_low m_m m_bestUp m_bestLow m_replyUp m_replyLow m_worthUp m_worthLow m_bestWay 0 m_told 0) (cwV 2 hts (tz_gV qw_627 qw_628 qw_629 qw_253 qw_630) rfl rfl rfl (by decide +kernel) ⟨Nat.le_of_ble_eq_true rfl, Nat.le_of_ble_eq_true rfl⟩) ⟨tz_blQ, va_recv hK hPc (ci := 12) (q0 := 0) rfl rfl, tz_preQ hPc hK hDc⟩ rfl rfl hl.1 rfl (lv_room (Nat.le_of_ble_eq_true rfl)) dL_law_500 ⟨Nat.le_of_ble_eq_true rfl, Nat.le_of_ble_eq_true rfl⟩) hS (fun q _ h => hFc q h) hFc (fun r_635 u t H1 locs ht hvm hw hB hz1 hk1 hS => ?_)
  obtain ⟨hP1, hD1⟩ := hB
  rw [ht] at hP1
  obtain ⟨hP, hD⟩ := va_join (wr := []) (w1 := [(mm, .inr (12, (.int 1 :: .ref m_s :: .ref m_spare :: .ref m_kept :: .ref m_undone :: .ref m_triedWay :: .ref m_isKept :: .int 0 :: .ref m_tape :: .int 0 :: .int 0 :: .int 0 :: .int 0 :: .int 0 :: .int 0 :: .int 0 :: .int 0 :: .int 0 :: .ref m_letters :: .int 0 :: .ref m_choice :: .ref m_row :: .ref m_up :: .ref m_low :: .ref m_m :: .ref m_bestUp :: .ref m_bestLow :: .ref m_replyUp :: .ref m_replyLow :: .ref m_worthUp :: .ref m_worthLow :: .ref m_bestWay :: .int 0 :: .ref m_told :: .int 0 :: []))), (m_s, .inl (g 0, 193, .inl (fun _ => 0)))]) hP hD [0, 1] [] rfl rfl (by decide) (by decide) hk1 hFc hP1 hD1
  generalize H1 = H at hP hS ⊢
  have hP : va_P D vwCl [(mm, .inr (12, (.int 1 :: .ref m_s :: .ref m_spare :: .ref m_kept :: .ref m_undone :: .ref m_triedWay :: .ref m_isKept :: .int 0 :: .ref m_tape :: .int 0 :: .int 0 :: .int 0 :: .int 0 :: .int 0 :: .int 0 :: .int 0 :: .int 0 :: .int 0 :: .ref m_letters :: .int 0 :: .ref m_choice :: .ref m_row :: .ref m_up :: .ref m_low :: .ref m_m :: .ref m_bestUp :: .ref m_bestLow :: .ref m_replyUp :: .ref m_replyLow :: .ref m_worthUp :: .ref m_worthLow :: .ref m_bestWay :: .int 0 :: .ref m_told :: .int 0 :: []))), (m_s, .inl (g 0, 193, .inl (fun _ => 0)))] H := hP
  have hD : va_D A [(mm, .inr (12, (.int 1 :: .ref m_s :: .ref m_spare :: .ref m_kept :: .ref m_undone :: .ref m_triedWay :: .ref m_isKept :: .int 0 :: .ref m_tape :: .int 0 :: .int 0 :: .int 0 :: .int 0 :: .int 0 :: .int 0 :: .int 0 :: .int 0 :: .int 0 :: .ref m_letters :: .int 0 :: .ref m_choice :: .ref m_row :: .ref m_up :: .ref m_low :: .ref m_m :: .ref m_bestUp :: .ref m_bestLow :: .ref m_replyUp :: .ref m_replyLow :: .ref m_worthUp :: .ref m_worthLow :: .ref m_bestWay :: .int 0 :: .ref m_told :: .int 0 :: []))), (m_s, .inl (g 0, 193, .inl (fun _ => 0)))] := hD
  subst hw
  refine lv_lstore (lv' := [(6, .long 0), (5, .int 1), (4, .int 0), (3, .ref oa), (2, .ref mm), (1, .ref x), (0, .ref b)]) hx hb dL_law_503 hl (by decide) rfl (fun ls hl => ?_)
  refine lv_aload_n hx hb dL_law_505 rfl (lv_at hl 4 rfl) ?_
  have hPc := hP.sub (ws' := [(mm, .inr (12, (.int 1 :: .ref m_s :: .ref m_spare :: .ref m_kept :: .ref m_undone :: .ref m_triedWay :: .ref m_isKept :: .int 0 :: .ref m_tape :: .int 0 :: .int 0 :: .int 0 :: .int 0 :: .int 0 :: .int 0 :: .int 0 :: .int 0 :: .int 0 :: .ref m_letters :: .int 0 :: .ref m_choice :: .ref m_row :: .ref m_up :: .ref m_low :: .ref m_m :: .ref m_bestUp :: .ref m_bestLow :: .ref m_replyUp :: .ref m_replyLow :: .ref m_worthUp :: .ref m_worthLow :: .ref m_bestWay :: .int 0 :: .ref m_told :: .int 0 :: [])))]) [0] rfl
  refine vp_callSi (va_Run.run (va_runV (As := []) (rest := []) ⟨hx, hb, hml, hown, hts⟩ (c_X12_thrown l D g mm m_s m_spare m_kept m_undone m_triedWay m_isKept 0 m_tape 0 0 0 0 0 0 0 0 0 m_letters 0 m_choice m_row m_up m_low m_m m_bestUp m_bestLow m_replyUp m_replyLow m_worthUp m_worthLow m_bestWay 0 m_told 0) (cwV 0 hts (tz_gV qw_613 qw_614 qw_615 qw_253 qw_616) rfl rfl rfl (by decide +kernel) ⟨Nat.le_of_ble_eq_true rfl, Nat.le_of_ble_eq_true rfl⟩) ⟨tz_blS, va_recv hK hPc (ci := 12) (q0 := 0) rfl rfl, tz_preS hPc hK⟩ rfl rfl hl.1 rfl (lv_room (Nat.le_of_ble_eq_true rfl)) dL_law_506 ⟨Nat.le_of_ble_eq_true rfl, Nat.le_of_ble_eq_true rfl⟩)) (fun r_636 hw => ?_)
  subst hw
  refine lv_iload hx hb dL_law_509 (lv_at hl 1 rfl) ?_
  refine lv_icmp_eq (tgt := 516) hx hb dL_law_511 (by decide) (fun _ => ?_) (fun h9 => (h9 (by decide)).elim)
  refine lv_iload hx hb dL_law_516 (lv_at hl 1 rfl) ?_
  refine lv_if_ne (tgt := 532) hx hb dL_law_518 (by decide) (fun _ => ?_) (fun h9 => absurd h9 (by decide))
  refine lv_goto (tgt := 1475) hx hb dL_law_532 (by decide) ?_
  exact law_end C0 hAl hbA H locs ls _ _ (by decide) (by decide) hS (lv_sub hl [2, 6] rfl)
set_option maxHeartbeats 4000000 in
set_option maxRecDepth 100000 in
theorem law_case_7 {p : Program} {l : Launch} {e : Env} {s : State} {m : MethodId} {below : List Frame} {meth : Method} {c : Code} {b : Nat} {xs : Nat → Int32} {A : Nat → Prop} {D : va_G} {g : Nat → ClassId} (x : Nat) (mm : Nat) (oa : Nat) (tp : Nat) (n : Nat) (dr : Nat) (x_images : Nat) (x_kept : Nat) (rd : Nat) (st : Nat) (tl : Nat) (rg : Nat) (sv : Nat) (oc : Nat) (x_tried : Nat) (lf : Nat) (x_stoppedWays : Nat) (x_stoppedWorth : Nat) (x_withinWorth : Nat) (n_kind : Nat) (n_pay : Nat) (n_name : Nat) (n_ways : Nat) (n_held : Nat) (n_targets : Nat) (n_weights : Nat) (m_s : Nat) (m_spare : Nat) (m_kept : Nat) (m_undone : Nat) (m_triedWay : Nat) (m_isKept : Nat) (m_tape : Nat) (m_letters : Nat) (m_choice : Nat) (m_row : Nat) (m_up : Nat) (m_low : Nat) (m_m : Nat) (m_bestUp : Nat) (m_bestLow : Nat) (m_replyUp : Nat) (m_replyLow : Nat) (m_worthUp : Nat) (m_worthLow : Nat) (m_bestWay : Nat) (m_told : Nat) (hst : l.stackTraces = false) (C0 : lw_At p s m meth c b 6 xs) (hA : ∀ q : Nat, s.heap.size ≤ q → A q) (hAl : ∀ q : Nat, A q → s.heap.size ≤ q) (hbA : ¬ A b) (hK : va_K D vwCl (TY g) s) (hZ : ZT A s s.heap) : ∀ (H : Heap) (locs : List Loc) (ls : Array Slot), va_P D vwCl [(x, .inr (11, [.ref tp, .ref n, .ref dr, .ref x_images, .ref x_kept, .ref rd, .ref st, .ref tl, .ref rg, .ref sv, .ref oc, .ref x_tried, .ref lf, .int 0, .ref x_stoppedWays, .ref x_stoppedWorth, .int 0, .ref x_withinWorth])), (n, .inr (2, [.int 0, .ref n_kind, .ref n_pay, .ref n_name, .ref n_ways, .ref n_held, .ref n_targets, .ref n_weights])), (mm, .inr (12, (.int 0 :: .ref m_s :: .ref m_spare :: .ref m_kept :: .ref m_undone :: .ref m_triedWay :: .ref m_isKept :: .int 0 :: .ref m_tape :: .int 0 :: .int 0 :: .int 0 :: .int 0 :: .int 0 :: .int 0 :: .int 0 :: .int 0 :: .int 0 :: .ref m_letters :: .int 0 :: .ref m_choice :: .ref m_row :: .ref m_up :: .ref m_low :: .ref m_m :: .ref m_bestUp :: .ref m_bestLow :: .ref m_replyUp :: .ref m_replyLow :: .ref m_worthUp :: .ref m_worthLow :: .ref m_bestWay :: .int 0 :: .ref m_told :: .int 0 :: []))), (m_s, .inl (g 0, 193, .inl (fun _ => 0)))] H → va_D A [(x, .inr (11, [.ref tp, .ref n, .ref dr, .ref x_images, .ref x_kept, .ref rd, .ref st, .ref tl, .ref rg, .ref sv, .ref oc, .ref x_tried, .ref lf, .int 0, .ref x_stoppedWays, .ref x_stoppedWorth, .int 0, .ref x_withinWorth])), (n, .inr (2, [.int 0, .ref n_kind, .ref n_pay, .ref n_name, .ref n_ways, .ref n_held, .ref n_targets, .ref n_weights])), (mm, .inr (12, (.int 0 :: .ref m_s :: .ref m_spare :: .ref m_kept :: .ref m_undone :: .ref m_triedWay :: .ref m_isKept :: .int 0 :: .ref m_tape :: .int 0 :: .int 0 :: .int 0 :: .int 0 :: .int 0 :: .int 0 :: .int 0 :: .int 0 :: .int 0 :: .ref m_letters :: .int 0 :: .ref m_choice :: .ref m_row :: .ref m_up :: .ref m_low :: .ref m_m :: .ref m_bestUp :: .ref m_bestLow :: .ref m_replyUp :: .ref m_replyLow :: .ref m_worthUp :: .ref m_worthLow :: .ref m_bestWay :: .int 0 :: .ref m_told :: .int 0 :: []))), (m_s, .inl (g 0, 193, .inl (fun _ => 0)))] → va_S A s.heap H locs → lv_has ls 8 [(4, .int 0), (3, .ref oa), (2, .ref mm), (1, .ref x), (0, .ref b)] → W p l e room_1 s m #[Value.ref b] below meth c H locs 114 6056 (lw_Z below #[Value.ref b] s) (F0 m 535 ls []) := by
  obtain ⟨hx, hb, hr, hml, hown, hts0, hX, hbl, hlocks, hgv⟩ := id C0
  have hts : ∀ w ∈ wsL_law, w.before _ s = true := fun w h => hts0 w (wsL_law_in w h)
  intro H locs ls hP hD hS hl
  refine lv_aload_n hx hb dL_law_535 rfl (lv_at hl 3 rfl) ?_
  refine lv_aload_n hx hb dL_law_536 rfl (lv_at hl 4 rfl) ?_
  refine lv_iload hx hb dL_law_537 (lv_at hl 0 rfl) ?_
  refine lv_iconst (v := 1) hx hb dL_law_539 (by decide) ?_
  refine lv_iadd hx hb dL_law_540 ?_
  refine tz_i (y := 1) (by decide +kernel) ?_
  refine va_sld hx hb hX hbl hbA hS (tz_in (by decide +kernel)) dL_law_541 ?_
  refine tz_i (y := xs 1) (congrArg xs (by decide +kernel)) ?_
  have hPc := hP.sub (ws' := [(x, .inr (11, [.ref tp, .ref n, .ref dr, .ref x_images, .ref x_kept, .ref rd, .ref st, .ref tl, .ref rg, .ref sv, .ref oc, .ref x_tried, .ref lf, .int 0, .ref x_stoppedWays, .ref x_stoppedWorth, .int 0, .ref x_withinWorth])), (n, .inr (2, [.int 0, .ref n_kind, .ref n_pay, .ref n_name, .ref n_ways, .ref n_held, .ref n_targets, .ref n_weights]))]) [0, 1] rfl
  refine vp_callSi (va_Run.run (va_runV (As := [.int (xs 1)]) (rest := []) ⟨hx, hb, hml, hown, hts⟩ (c_X11_best l D g x (xs 1) tp n dr x_images x_kept rd st tl rg sv oc x_tried lf x_stoppedWays x_stoppedWorth x_withinWorth n_kind n_pay n_name n_ways n_held n_targets n_weights) (cwV 1 hts (tz_gV qw_631 qw_632 qw_633 qw_165 qw_634) rfl rfl rfl (by decide +kernel) ⟨Nat.le_of_ble_eq_true rfl, Nat.le_of_ble_eq_true rfl⟩) ⟨tz_blS, va_recv hK hPc (ci := 11) (q0 := 0) rfl rfl, tz_preS hPc hK⟩ rfl rfl hl.1 rfl (lv_room (Nat.le_of_ble_eq_true rfl)) dL_law_542 ⟨Nat.le_of_ble_eq_true rfl, Nat.le_of_ble_eq_true rfl⟩)) (fun r_639 hw => ?_)
  subst hw
  refine lv_aload_n hx hb dL_law_545 rfl (lv_at hl 2 rfl) ?_
  refine lv_aload_n hx hb dL_law_546 rfl (lv_at hl 4 rfl) ?_
  refine lv_iload hx hb dL_law_547 (lv_at hl 0 rfl) ?_
  refine lv_iconst (v := 1) hx hb dL_law_549 (by decide) ?_
  refine lv_iadd hx hb dL_law_550 ?_
  refine tz_i (y := 1) (by decide +kernel) ?_
  refine va_sld hx hb hX hbl hbA hS (tz_in (by decide +kernel)) dL_law_551 ?_
  refine tz_i (y := xs 1) (congrArg xs (by decide +kernel)) ?_
  have hPc := hP.sub (ws' := [(mm, .inr (12, (.int 0 :: .ref m_s :: .ref m_spare :: .ref m_kept :: .ref m_undone :: .ref m_triedWay :: .ref m_isKept :: .int 0 :: .ref m_tape :: .int 0 :: .int 0 :: .int 0 :: .int 0 :: .int 0 :: .int 0 :: .int 0 :: .int 0 :: .int 0 :: .ref m_letters :: .int 0 :: .ref m_choice :: .ref m_row :: .ref m_up :: .ref m_low :: .ref m_m :: .ref m_bestUp :: .ref m_bestLow :: .ref m_replyUp :: .ref m_replyLow :: .ref m_worthUp :: .ref m_worthLow :: .ref m_bestWay :: .int 0 :: .ref m_told :: .int 0 :: []))), (m_s, .inl (g 0, 193, .inl (fun _ => 0)))]) [2, 3] rfl
  have hDc := hD.sub (ws' := [(mm, .inr (12, (.int 0 :: .ref m_s :: .ref m_spare :: .ref m_kept :: .ref m_undone :: .ref m_triedWay :: .ref m_isKept :: .int 0 :: .ref m_tape :: .int 0 :: .int 0 :: .int 0 :: .int 0 :: .int 0 :: .int 0 :: .int 0 :: .int 0 :: .int 0 :: .ref m_letters :: .int 0 :: .ref m_choice :: .ref m_row :: .ref m_up :: .ref m_low :: .ref m_m :: .ref m_bestUp :: .ref m_bestLow :: .ref m_replyUp :: .ref m_replyLow :: .ref m_worthUp :: .ref m_worthLow :: .ref m_bestWay :: .int 0 :: .ref m_told :: .int 0 :: []))), (m_s, .inl (g 0, 193, .inl (fun _ => 0)))]) [2, 3] (by decide) rfl
  have hFc := va_free (wc := [(mm, .inr (12, (.int 0 :: .ref m_s :: .ref m_spare :: .ref m_kept :: .ref m_undone :: .ref m_triedWay :: .ref m_isKept :: .int 0 :: .ref m_tape :: .int 0 :: .int 0 :: .int 0 :: .int 0 :: .int 0 :: .int 0 :: .int 0 :: .int 0 :: .int 0 :: .ref m_letters :: .int 0 :: .ref m_choice :: .ref m_row :: .ref m_up :: .ref m_low :: .ref m_m :: .ref m_bestUp :: .ref m_bestLow :: .ref m_replyUp :: .ref m_replyLow :: .ref m_worthUp :: .ref m_worthLow :: .ref m_bestWay :: .int 0 :: .ref m_told :: .int 0 :: []))), (m_s, .inl (g 0, 193, .inl (fun _ => 0)))]) hD hS hA [2, 3] rfl
  refine va_calli (va_runV (As := [.int (xs 1)]) (rest := [.int (-1)]) ⟨hx, hb, hml, hown, hts⟩ (c_X12_best l D g H.size mm (xs 1) 0 m_s m_spare m_kept m_undone m_triedWay m_isKept 0 m_tape 0 0 0 0 0 0 0 0 0 m_letters m_choice m_row m_up m_low m_m m_bestUp m_bestLow m_replyUp m_replyLow m_worthUp m_worthLow m_bestWay 0 m_told 0) (cwV 1 hts (tz_gV qw_635 qw_636 qw_637 qw_253 qw_638) rfl rfl rfl (by decide +kernel) ⟨Nat.le_of_ble_eq_true rfl, Nat.le_of_ble_eq_true rfl⟩) ⟨tz_blQ, va_recv hK hPc (ci := 12) (q0 := 0) rfl rfl, tz_preQ hPc hK hDc⟩ rfl rfl hl.1 rfl (lv_room (Nat.le_of_ble_eq_true rfl)) dL_law_552 ⟨Nat.le_of_ble_eq_true rfl, Nat.le_of_ble_eq_true rfl⟩) hS (fun q _ h => hFc q h) hFc (fun r_640 u t H1 locs ht hvm hw hB hz1 hk1 hS => ?_)
  obtain ⟨hP, hD⟩ := va_join (wr := [(x, .inr (11, [.ref tp, .ref n, .ref dr, .ref x_images, .ref x_kept, .ref rd, .ref st, .ref tl, .ref rg, .ref sv, .ref oc, .ref x_tried, .ref lf, .int 0, .ref x_stoppedWays, .ref x_stoppedWorth, .int 0, .ref x_withinWorth])), (n, .inr (2, [.int 0, .ref n_kind, .ref n_pay, .ref n_name, .ref n_ways, .ref n_held, .ref n_targets, .ref n_weights]))]) (w1 := []) hP hD [2, 3] [0, 1] rfl rfl (by decide) (by decide) hk1 hFc tz_nilP tz_nilD
  generalize H1 = H at hP hS ⊢
  have hP : va_P D vwCl [(x, .inr (11, [.ref tp, .ref n, .ref dr, .ref x_images, .ref x_kept, .ref rd, .ref st, .ref tl, .ref rg, .ref sv, .ref oc, .ref x_tried, .ref lf, .int 0, .ref x_stoppedWays, .ref x_stoppedWorth, .int 0, .ref x_withinWorth])), (n, .inr (2, [.int 0, .ref n_kind, .ref n_pay, .ref n_name, .ref n_ways, .ref n_held, .ref n_targets, .ref n_weights]))] H := hP
  have hD : va_D A [(x, .inr (11, [.ref tp, .ref n, .ref dr, .ref x_images, .ref x_kept, .ref rd, .ref st, .ref tl, .ref rg, .ref sv, .ref oc, .ref x_tried, .ref lf, .int 0, .ref x_stoppedWays, .ref x_stoppedWorth, .int 0, .ref x_withinWorth])), (n, .inr (2, [.int 0, .ref n_kind, .ref n_pay, .ref n_name, .ref n_ways, .ref n_held, .ref n_targets, .ref n_weights]))] := hD
  subst hw
  refine lv_icmp_eq (tgt := 1475) hx hb dL_law_555 (by decide) (fun _ => ?_) (fun h9 => (h9 (by decide)).elim)
  exact law_end C0 hAl hbA H locs ls _ _ (by decide) (by decide) hS (lv_sub hl [0, 4] rfl)
set_option maxHeartbeats 4000000 in
set_option maxRecDepth 100000 in
theorem law_case_8 {p : Program} {l : Launch} {e : Env} {s : State} {m : MethodId} {below : List Frame} {meth : Method} {c : Code} {b : Nat} {xs : Nat → Int32} {A : Nat → Prop} {D : va_G} {g : Nat → ClassId} (x : Nat) (mm : Nat) (oa : Nat) (tp : Nat) (n : Nat) (dr : Nat) (x_images : Nat) (x_kept : Nat) (rd : Nat) (st : Nat) (tl : Nat) (rg : Nat) (sv : Nat) (oc : Nat) (x_tried : Nat) (lf : Nat) (x_stoppedWays : Nat) (x_stoppedWorth : Nat) (x_withinWorth : Nat) (n_kind : Nat) (n_pay : Nat) (n_name : Nat) (n_ways : Nat) (n_held : Nat) (n_targets : Nat) (n_weights : Nat) (m_s : Nat) (m_spare : Nat) (m_kept : Nat) (m_undone : Nat) (m_triedWay : Nat) (m_isKept : Nat) (m_tape : Nat) (m_letters : Nat) (m_choice : Nat) (m_row : Nat) (m_up : Nat) (m_low : Nat) (m_m : Nat) (m_bestUp : Nat) (m_bestLow : Nat) (m_replyUp : Nat) (m_replyLow : Nat) (m_worthUp : Nat) (m_worthLow : Nat) (m_bestWay : Nat) (m_told : Nat) (hst : l.stackTraces = false) (C0 : lw_At p s m meth c b 6 xs) (hA : ∀ q : Nat, s.heap.size ≤ q → A q) (hAl : ∀ q : Nat, A q → s.heap.size ≤ q) (hbA : ¬ A b) (hK : va_K D vwCl (TY g) s) (hZ : ZT A s s.heap) : ∀ (H : Heap) (locs : List Loc) (ls : Array Slot), va_P D vwCl [(x, .inr (11, [.ref tp, .ref n, .ref dr, .ref x_images, .ref x_kept, .ref rd, .ref st, .ref tl, .ref rg, .ref sv, .ref oc, .ref x_tried, .ref lf, .int 0, .ref x_stoppedWays, .ref x_stoppedWorth, .int 0, .ref x_withinWorth])), (n, .inr (2, [.int 0, .ref n_kind, .ref n_pay, .ref n_name, .ref n_ways, .ref n_held, .ref n_targets, .ref n_weights])), (mm, .inr (12, (.int 0 :: .ref m_s :: .ref m_spare :: .ref m_kept :: .ref m_undone :: .ref m_triedWay :: .ref m_isKept :: .int 0 :: .ref m_tape :: .int 0 :: .int 0 :: .int 0 :: .int 0 :: .int 0 :: .int 0 :: .int 0 :: .int 0 :: .int 0 :: .ref m_letters :: .int 0 :: .ref m_choice :: .ref m_row :: .ref m_up :: .ref m_low :: .ref m_m :: .ref m_bestUp :: .ref m_bestLow :: .ref m_replyUp :: .ref m_replyLow :: .ref m_worthUp :: .ref m_worthLow :: .ref m_bestWay :: .int 0 :: .ref m_told :: .int 0 :: []))), (m_s, .inl (g 0, 193, .inl (fun _ => 0)))] H → va_D A [(x, .inr (11, [.ref tp, .ref n, .ref dr, .ref x_images, .ref x_kept, .ref rd, .ref st, .ref tl, .ref rg, .ref sv, .ref oc, .ref x_tried, .ref lf, .int 0, .ref x_stoppedWays, .ref x_stoppedWorth, .int 0, .ref x_withinWorth])), (n, .inr (2, [.int 0, .ref n_kind, .ref n_pay, .ref n_name, .ref n_ways, .ref n_held, .ref n_targets, .ref n_weights])), (mm, .inr (12, (.int 0 :: .ref m_s :: .ref m_spare :: .ref m_kept :: .ref m_undone :: .ref m_triedWay :: .ref m_isKept :: .int 0 :: .ref m_tape :: .int 0 :: .int 0 :: .int 0 :: .int 0 :: .int 0 :: .int 0 :: .int 0 :: .int 0 :: .int 0 :: .ref m_letters :: .int 0 :: .ref m_choice :: .ref m_row :: .ref m_up :: .ref m_low :: .ref m_m :: .ref m_bestUp :: .ref m_bestLow :: .ref m_replyUp :: .ref m_replyLow :: .ref m_worthUp :: .ref m_worthLow :: .ref m_bestWay :: .int 0 :: .ref m_told :: .int 0 :: []))), (m_s, .inl (g 0, 193, .inl (fun _ => 0)))] → va_S A s.heap H locs → lv_has ls 8 [(4, .int 0), (3, .ref oa), (2, .ref mm), (1, .ref x), (0, .ref b)] → W p l e room_1 s m #[Value.ref b] below meth c H locs 114 6056 (lw_Z below #[Value.ref b] s) (F0 m 560 ls []) := by
  obtain ⟨hx, hb, hr, hml, hown, hts0, hX, hbl, hlocks, hgv⟩ := id C0
  have hts : ∀ w ∈ wsL_law, w.before _ s = true := fun w h => hts0 w (wsL_law_in w h)
  intro H locs ls hP hD hS hl
  refine lv_aload_n hx hb dL_law_560 rfl (lv_at hl 3 rfl) ?_
  refine lv_aload_n hx hb dL_law_561 rfl (lv_at hl 4 rfl) ?_
  refine lv_iload hx hb dL_law_562 (lv_at hl 0 rfl) ?_
  refine lv_iconst (v := 1) hx hb dL_law_564 (by decide) ?_
  refine lv_iadd hx hb dL_law_565 ?_
  refine tz_i (y := 1) (by decide +kernel) ?_
  refine va_sld hx hb hX hbl hbA hS (tz_in (by decide +kernel)) dL_law_566 ?_
  refine tz_i (y := xs 1) (congrArg xs (by decide +kernel)) ?_
  have hPc := hP.sub (ws' := [(x, .inr (11, [.ref tp, .ref n, .ref dr, .ref x_images, .ref x_kept, .ref rd, .ref st, .ref tl, .ref rg, .ref sv, .ref oc, .ref x_tried, .ref lf, .int 0, .ref x_stoppedWays, .ref x_stoppedWorth, .int 0, .ref x_withinWorth])), (n, .inr (2, [.int 0, .ref n_kind, .ref n_pay, .ref n_name, .ref n_ways, .ref n_held, .ref n_targets, .ref n_weights]))]) [0, 1] rfl
  refine vp_callSi (va_Run.run (va_runV (As := [.int (xs 1)]) (rest := []) ⟨hx, hb, hml, hown, hts⟩ (c_X11_good l D g x (xs 1) tp n dr x_images x_kept rd st tl rg sv oc x_tried lf x_stoppedWays x_stoppedWorth x_withinWorth n_kind n_pay n_name n_ways n_held n_targets n_weights) (cwV 1 hts (tz_gV qw_639 qw_640 qw_641 qw_165 qw_642) rfl rfl rfl (by decide +kernel) ⟨Nat.le_of_ble_eq_true rfl, Nat.le_of_ble_eq_true rfl⟩) ⟨tz_blS, va_recv hK hPc (ci := 11) (q0 := 0) rfl rfl, tz_preS hPc hK⟩ rfl rfl hl.1 rfl (lv_room (Nat.le_of_ble_eq_true rfl)) dL_law_567 ⟨Nat.le_of_ble_eq_true rfl, Nat.le_of_ble_eq_true rfl⟩)) (fun r_643 hw => ?_)
  subst hw
  refine lv_aload_n hx hb dL_law_570 rfl (lv_at hl 2 rfl) ?_
  refine lv_aload_n hx hb dL_law_571 rfl (lv_at hl 4 rfl) ?_
  refine lv_iload hx hb dL_law_572 (lv_at hl 0 rfl) ?_
  refine lv_iconst (v := 1) hx hb dL_law_574 (by decide) ?_
  refine lv_iadd hx hb dL_law_575 ?_
  refine tz_i (y := 1) (by decide +kernel) ?_
  refine va_sld hx hb hX hbl hbA hS (tz_in (by decide +kernel)) dL_law_576 ?_
  refine tz_i (y := xs 1) (congrArg xs (by decide +kernel)) ?_
  have hPc := hP.sub (ws' := [(mm, .inr (12, (.int 0 :: .ref m_s :: .ref m_spare :: .ref m_kept :: .ref m_undone :: .ref m_triedWay :: .ref m_isKept :: .int 0 :: .ref m_tape :: .int 0 :: .int 0 :: .int 0 :: .int 0 :: .int 0 :: .int 0 :: .int 0 :: .int 0 :: .int 0 :: .ref m_letters :: .int 0 :: .ref m_choice :: .ref m_row :: .ref m_up :: .ref m_low :: .ref m_m :: .ref m_bestUp :: .ref m_bestLow :: .ref m_replyUp :: .ref m_replyLow :: .ref m_worthUp :: .ref m_worthLow :: .ref m_bestWay :: .int 0 :: .ref m_told :: .int 0 :: []))), (m_s, .inl (g 0, 193, .inl (fun _ => 0)))]) [2, 3] rfl
  have hDc := hD.sub (ws' := [(mm, .inr (12, (.int 0 :: .ref m_s :: .ref m_spare :: .ref m_kept :: .ref m_undone :: .ref m_triedWay :: .ref m_isKept :: .int 0 :: .ref m_tape :: .int 0 :: .int 0 :: .int 0 :: .int 0 :: .int 0 :: .int 0 :: .int 0 :: .int 0 :: .int 0 :: .ref m_letters :: .int 0 :: .ref m_choice :: .ref m_row :: .ref m_up :: .ref m_low :: .ref m_m :: .ref m_bestUp :: .ref m_bestLow :: .ref m_replyUp :: .ref m_replyLow :: .ref m_worthUp :: .ref m_worthLow :: .ref m_bestWay :: .int 0 :: .ref m_told :: .int 0 :: []))), (m_s, .inl (g 0, 193, .inl (fun _ => 0)))]) [2, 3] (by decide) rfl
  have hFc := va_free (wc := [(mm, .inr (12, (.int 0 :: .ref m_s :: .ref m_spare :: .ref m_kept :: .ref m_undone :: .ref m_triedWay :: .ref m_isKept :: .int 0 :: .ref m_tape :: .int 0 :: .int 0 :: .int 0 :: .int 0 :: .int 0 :: .int 0 :: .int 0 :: .int 0 :: .int 0 :: .ref m_letters :: .int 0 :: .ref m_choice :: .ref m_row :: .ref m_up :: .ref m_low :: .ref m_m :: .ref m_bestUp :: .ref m_bestLow :: .ref m_replyUp :: .ref m_replyLow :: .ref m_worthUp :: .ref m_worthLow :: .ref m_bestWay :: .int 0 :: .ref m_told :: .int 0 :: []))), (m_s, .inl (g 0, 193, .inl (fun _ => 0)))]) hD hS hA [2, 3] rfl
  refine va_calli (va_runV (As := [.int (xs 1)]) (rest := [.int (-1)]) ⟨hx, hb, hml, hown, hts⟩ (c_X12_good l D g H.size mm (xs 1) 0 m_s m_spare m_kept m_undone m_triedWay m_isKept 0 m_tape 0 0 0 0 0 0 0 0 0 m_letters m_choice m_row m_up m_low m_m m_bestUp m_bestLow m_replyUp m_replyLow m_worthUp m_worthLow m_bestWay 0 m_told 0) (cwV 1 hts (tz_gV qw_643 qw_644 qw_645 qw_253 qw_646) rfl rfl rfl (by decide +kernel) ⟨Nat.le_of_ble_eq_true rfl, Nat.le_of_ble_eq_true rfl⟩) ⟨tz_blQ, va_recv hK hPc (ci := 12) (q0 := 0) rfl rfl, tz_preQ hPc hK hDc⟩ rfl rfl hl.1 rfl (lv_room (Nat.le_of_ble_eq_true rfl)) dL_law_577 ⟨Nat.le_of_ble_eq_true rfl, Nat.le_of_ble_eq_true rfl⟩) hS (fun q _ h => hFc q h) hFc (fun r_644 u t H1 locs ht hvm hw hB hz1 hk1 hS => ?_)
  obtain ⟨hP, hD⟩ := va_join (wr := [(x, .inr (11, [.ref tp, .ref n, .ref dr, .ref x_images, .ref x_kept, .ref rd, .ref st, .ref tl, .ref rg, .ref sv, .ref oc, .ref x_tried, .ref lf, .int 0, .ref x_stoppedWays, .ref x_stoppedWorth, .int 0, .ref x_withinWorth])), (n, .inr (2, [.int 0, .ref n_kind, .ref n_pay, .ref n_name, .ref n_ways, .ref n_held, .ref n_targets, .ref n_weights]))]) (w1 := []) hP hD [2, 3] [0, 1] rfl rfl (by decide) (by decide) hk1 hFc tz_nilP tz_nilD
  generalize H1 = H at hP hS ⊢
  have hP : va_P D vwCl [(x, .inr (11, [.ref tp, .ref n, .ref dr, .ref x_images, .ref x_kept, .ref rd, .ref st, .ref tl, .ref rg, .ref sv, .ref oc, .ref x_tried, .ref lf, .int 0, .ref x_stoppedWays, .ref x_stoppedWorth, .int 0, .ref x_withinWorth])), (n, .inr (2, [.int 0, .ref n_kind, .ref n_pay, .ref n_name, .ref n_ways, .ref n_held, .ref n_targets, .ref n_weights]))] H := hP
  have hD : va_D A [(x, .inr (11, [.ref tp, .ref n, .ref dr, .ref x_images, .ref x_kept, .ref rd, .ref st, .ref tl, .ref rg, .ref sv, .ref oc, .ref x_tried, .ref lf, .int 0, .ref x_stoppedWays, .ref x_stoppedWorth, .int 0, .ref x_withinWorth])), (n, .inr (2, [.int 0, .ref n_kind, .ref n_pay, .ref n_name, .ref n_ways, .ref n_held, .ref n_targets, .ref n_weights]))] := hD
  subst hw
  refine lv_icmp_eq (tgt := 1475) hx hb dL_law_580 (by decide) (fun _ => ?_) (fun h9 => (h9 (by decide)).elim)
  exact law_end C0 hAl hbA H locs ls _ _ (by decide) (by decide) hS (lv_sub hl [0, 4] rfl)
set_option maxHeartbeats 4000000 in
set_option maxRecDepth 100000 in
theorem law_case_9 {p : Program} {l : Launch} {e : Env} {s : State} {m : MethodId} {below : List Frame} {meth : Method} {c : Code} {b : Nat} {xs : Nat → Int32} {A : Nat → Prop} {D : va_G} {g : Nat → ClassId} (x : Nat) (mm : Nat) (oa : Nat) (tp : Nat) (n : Nat) (dr : Nat) (x_images : Nat) (x_kept : Nat) (rd : Nat) (st : Nat) (tl : Nat) (rg : Nat) (sv : Nat) (oc : Nat) (x_tried : Nat) (lf : Nat) (x_stoppedWays : Nat) (x_stoppedWorth : Nat) (x_withinWorth : Nat) (n_kind : Nat) (n_pay : Nat) (n_name : Nat) (n_ways : Nat) (n_held : Nat) (n_targets : Nat) (n_weights : Nat) (m_s : Nat) (m_spare : Nat) (m_kept : Nat) (m_undone : Nat) (m_triedWay : Nat) (m_isKept : Nat) (m_tape : Nat) (m_letters : Nat) (m_choice : Nat) (m_row : Nat) (m_up : Nat) (m_low : Nat) (m_m : Nat) (m_bestUp : Nat) (m_bestLow : Nat) (m_replyUp : Nat) (m_replyLow : Nat) (m_worthUp : Nat) (m_worthLow : Nat) (m_bestWay : Nat) (m_told : Nat) (hst : l.stackTraces = false) (C0 : lw_At p s m meth c b 6 xs) (hA : ∀ q : Nat, s.heap.size ≤ q → A q) (hAl : ∀ q : Nat, A q → s.heap.size ≤ q) (hbA : ¬ A b) (hK : va_K D vwCl (TY g) s) (hZ : ZT A s s.heap) : ∀ (H : Heap) (locs : List Loc) (ls : Array Slot), va_P D vwCl [(x, .inr (11, [.ref tp, .ref n, .ref dr, .ref x_images, .ref x_kept, .ref rd, .ref st, .ref tl, .ref rg, .ref sv, .ref oc, .ref x_tried, .ref lf, .int 0, .ref x_stoppedWays, .ref x_stoppedWorth, .int 0, .ref x_withinWorth])), (n, .inr (2, [.int 0, .ref n_kind, .ref n_pay, .ref n_name, .ref n_ways, .ref n_held, .ref n_targets, .ref n_weights])), (mm, .inr (12, (.int 0 :: .ref m_s :: .ref m_spare :: .ref m_kept :: .ref m_undone :: .ref m_triedWay :: .ref m_isKept :: .int 0 :: .ref m_tape :: .int 0 :: .int 0 :: .int 0 :: .int 0 :: .int 0 :: .int 0 :: .int 0 :: .int 0 :: .int 0 :: .ref m_letters :: .int 0 :: .ref m_choice :: .ref m_row :: .ref m_up :: .ref m_low :: .ref m_m :: .ref m_bestUp :: .ref m_bestLow :: .ref m_replyUp :: .ref m_replyLow :: .ref m_worthUp :: .ref m_worthLow :: .ref m_bestWay :: .int 0 :: .ref m_told :: .int 0 :: []))), (m_s, .inl (g 0, 193, .inl (fun _ => 0)))] H → va_D A [(x, .inr (11, [.ref tp, .ref n, .ref dr, .ref x_images, .ref x_kept, .ref rd, .ref st, .ref tl, .ref rg, .ref sv, .ref oc, .ref x_tried, .ref lf, .int 0, .ref x_stoppedWays, .ref x_stoppedWorth, .int 0, .ref x_withinWorth])), (n, .inr (2, [.int 0, .ref n_kind, .ref n_pay, .ref n_name, .ref n_ways, .ref n_held, .ref n_targets, .ref n_weights])), (mm, .inr (12, (.int 0 :: .ref m_s :: .ref m_spare :: .ref m_kept :: .ref m_undone :: .ref m_triedWay :: .ref m_isKept :: .int 0 :: .ref m_tape :: .int 0 :: .int 0 :: .int 0 :: .int 0 :: .int 0 :: .int 0 :: .int 0 :: .int 0 :: .int 0 :: .ref m_letters :: .int 0 :: .ref m_choice :: .ref m_row :: .ref m_up :: .ref m_low :: .ref m_m :: .ref m_bestUp :: .ref m_bestLow :: .ref m_replyUp :: .ref m_replyLow :: .ref m_worthUp :: .ref m_worthLow :: .ref m_bestWay :: .int 0 :: .ref m_told :: .int 0 :: []))), (m_s, .inl (g 0, 193, .inl (fun _ => 0)))] → va_S A s.heap H locs → lv_has ls 8 [(4, .int 0), (3, .ref oa), (2, .ref mm), (1, .ref x), (0, .ref b)] → W p l e room_1 s m #[Value.ref b] below meth c H locs 114 6056 (lw_Z below #[Value.ref b] s) (F0 m 585 ls []) := by
  obtain ⟨hx, hb, hr, hml, hown, hts0, hX, hbl, hlocks, hgv⟩ := id C0
  have hts : ∀ w ∈ wsL_law, w.before _ s = true := fun w h => hts0 w (wsL_law_in w h)
  intro H locs ls hP hD hS hl
  refine lv_aload_n hx hb dL_law_585 rfl (lv_at hl 3 rfl) ?_
  refine lv_aload_n hx hb dL_law_586 rfl (lv_at hl 4 rfl) ?_
  refine lv_iload hx hb dL_law_587 (lv_at hl 0 rfl) ?_
  refine lv_iconst (v := 1) hx hb dL_law_589 (by decide) ?_
  refine lv_iadd hx hb dL_law_590 ?_
  refine tz_i (y := 1) (by decide +kernel) ?_
  refine va_sld hx hb hX hbl hbA hS (tz_in (by decide +kernel)) dL_law_591 ?_
  refine tz_i (y := xs 1) (congrArg xs (by decide +kernel)) ?_
  have hPc := hP.sub (ws' := [(x, .inr (11, [.ref tp, .ref n, .ref dr, .ref x_images, .ref x_kept, .ref rd, .ref st, .ref tl, .ref rg, .ref sv, .ref oc, .ref x_tried, .ref lf, .int 0, .ref x_stoppedWays, .ref x_stoppedWorth, .int 0, .ref x_withinWorth])), (n, .inr (2, [.int 0, .ref n_kind, .ref n_pay, .ref n_name, .ref n_ways, .ref n_held, .ref n_targets, .ref n_weights]))]) [0, 1] rfl
  refine vp_callSi (va_Run.run (va_runV (As := [.int (xs 1)]) (rest := []) ⟨hx, hb, hml, hown, hts⟩ (c_X11_tried l D g x (xs 1) tp n dr x_images x_kept rd st tl rg sv oc x_tried lf x_stoppedWays x_stoppedWorth x_withinWorth n_kind n_pay n_name n_ways n_held n_targets n_weights) (cwV 1 hts (tz_gV qw_647 qw_648 qw_649 qw_165 qw_650) rfl rfl rfl (by decide +kernel) ⟨Nat.le_of_ble_eq_true rfl, Nat.le_of_ble_eq_true rfl⟩) ⟨tz_blS, va_recv hK hPc (ci := 11) (q0 := 0) rfl rfl, tz_preS hPc hK⟩ rfl rfl hl.1 rfl (lv_room (Nat.le_of_ble_eq_true rfl)) dL_law_592 ⟨Nat.le_of_ble_eq_true rfl, Nat.le_of_ble_eq_true rfl⟩)) (fun r_647 hw => ?_)
  subst hw
  refine lv_aload_n hx hb dL_law_595 rfl (lv_at hl 2 rfl) ?_
  refine lv_aload_n hx hb dL_law_596 rfl (lv_at hl 4 rfl) ?_
  refine lv_iload hx hb dL_law_597 (lv_at hl 0 rfl) ?_
  refine lv_iconst (v := 1) hx hb dL_law_599 (by decide) ?_
  refine lv_iadd hx hb dL_law_600 ?_
  refine tz_i (y := 1) (by decide +kernel) ?_
  refine va_sld hx hb hX hbl hbA hS (tz_in (by decide +kernel)) dL_law_601 ?_
  refine tz_i (y := xs 1) (congrArg xs (by decide +kernel)) ?_
  have hPc := hP.sub (ws' := [(mm, .inr (12, (.int 0 :: .ref m_s :: .ref m_spare :: .ref m_kept :: .ref m_undone :: .ref m_triedWay :: .ref m_isKept :: .int 0 :: .ref m_tape :: .int 0 :: .int 0 :: .int 0 :: .int 0 :: .int 0 :: .int 0 :: .int 0 :: .int 0 :: .int 0 :: .ref m_letters :: .int 0 :: .ref m_choice :: .ref m_row :: .ref m_up :: .ref m_low :: .ref m_m :: .ref m_bestUp :: .ref m_bestLow :: .ref m_replyUp :: .ref m_replyLow :: .ref m_worthUp :: .ref m_worthLow :: .ref m_bestWay :: .int 0 :: .ref m_told :: .int 0 :: []))), (m_s, .inl (g 0, 193, .inl (fun _ => 0)))]) [2, 3] rfl
  have hDc := hD.sub (ws' := [(mm, .inr (12, (.int 0 :: .ref m_s :: .ref m_spare :: .ref m_kept :: .ref m_undone :: .ref m_triedWay :: .ref m_isKept :: .int 0 :: .ref m_tape :: .int 0 :: .int 0 :: .int 0 :: .int 0 :: .int 0 :: .int 0 :: .int 0 :: .int 0 :: .int 0 :: .ref m_letters :: .int 0 :: .ref m_choice :: .ref m_row :: .ref m_up :: .ref m_low :: .ref m_m :: .ref m_bestUp :: .ref m_bestLow :: .ref m_replyUp :: .ref m_replyLow :: .ref m_worthUp :: .ref m_worthLow :: .ref m_bestWay :: .int 0 :: .ref m_told :: .int 0 :: []))), (m_s, .inl (g 0, 193, .inl (fun _ => 0)))]) [2, 3] (by decide) rfl
  have hFc := va_free (wc := [(mm, .inr (12, (.int 0 :: .ref m_s :: .ref m_spare :: .ref m_kept :: .ref m_undone :: .ref m_triedWay :: .ref m_isKept :: .int 0 :: .ref m_tape :: .int 0 :: .int 0 :: .int 0 :: .int 0 :: .int 0 :: .int 0 :: .int 0 :: .int 0 :: .int 0 :: .ref m_letters :: .int 0 :: .ref m_choice :: .ref m_row :: .ref m_up :: .ref m_low :: .ref m_m :: .ref m_bestUp :: .ref m_bestLow :: .ref m_replyUp :: .ref m_replyLow :: .ref m_worthUp :: .ref m_worthLow :: .ref m_bestWay :: .int 0 :: .ref m_told :: .int 0 :: []))), (m_s, .inl (g 0, 193, .inl (fun _ => 0)))]) hD hS hA [2, 3] rfl
  refine va_calli (va_runV (As := [.int (xs 1)]) (rest := [.int (-1)]) ⟨hx, hb, hml, hown, hts⟩ (c_X12_tried l D g H.size mm (xs 1) 0 m_s m_spare m_kept m_undone m_triedWay m_isKept 0 m_tape 0 0 0 0 0 0 0 0 0 m_letters m_choice m_row m_up m_low m_m m_bestUp m_bestLow m_replyUp m_replyLow m_worthUp m_worthLow m_bestWay 0 m_told 0) (cwV 1 hts (tz_gV qw_651 qw_652 qw_653 qw_253 qw_654) rfl rfl rfl (by decide +kernel) ⟨Nat.le_of_ble_eq_true rfl, Nat.le_of_ble_eq_true rfl⟩) ⟨tz_blQ, va_recv hK hPc (ci := 12) (q0 := 0) rfl rfl, tz_preQ hPc hK hDc⟩ rfl rfl hl.1 rfl (lv_room (Nat.le_of_ble_eq_true rfl)) dL_law_602 ⟨Nat.le_of_ble_eq_true rfl, Nat.le_of_ble_eq_true rfl⟩) hS (fun q _ h => hFc q h) hFc (fun r_648 u t H1 locs ht hvm hw hB hz1 hk1 hS => ?_)
  obtain ⟨hP, hD⟩ := va_join (wr := [(x, .inr (11, [.ref tp, .ref n, .ref dr, .ref x_images, .ref x_kept, .ref rd, .ref st, .ref tl, .ref rg, .ref sv, .ref oc, .ref x_tried, .ref lf, .int 0, .ref x_stoppedWays, .ref x_stoppedWorth, .int 0, .ref x_withinWorth])), (n, .inr (2, [.int 0, .ref n_kind, .ref n_pay, .ref n_name, .ref n_ways, .ref n_held, .ref n_targets, .ref n_weights]))]) (w1 := []) hP hD [2, 3] [0, 1] rfl rfl (by decide) (by decide) hk1 hFc tz_nilP tz_nilD
  generalize H1 = H at hP hS ⊢
  have hP : va_P D vwCl [(x, .inr (11, [.ref tp, .ref n, .ref dr, .ref x_images, .ref x_kept, .ref rd, .ref st, .ref tl, .ref rg, .ref sv, .ref oc, .ref x_tried, .ref lf, .int 0, .ref x_stoppedWays, .ref x_stoppedWorth, .int 0, .ref x_withinWorth])), (n, .inr (2, [.int 0, .ref n_kind, .ref n_pay, .ref n_name, .ref n_ways, .ref n_held, .ref n_targets, .ref n_weights]))] H := hP
  have hD : va_D A [(x, .inr (11, [.ref tp, .ref n, .ref dr, .ref x_images, .ref x_kept, .ref rd, .ref st, .ref tl, .ref rg, .ref sv, .ref oc, .ref x_tried, .ref lf, .int 0, .ref x_stoppedWays, .ref x_stoppedWorth, .int 0, .ref x_withinWorth])), (n, .inr (2, [.int 0, .ref n_kind, .ref n_pay, .ref n_name, .ref n_ways, .ref n_held, .ref n_targets, .ref n_weights]))] := hD
  subst hw
  refine lv_icmp_eq (tgt := 1475) hx hb dL_law_605 (by decide) (fun _ => ?_) (fun h9 => (h9 (by decide)).elim)
  exact law_end C0 hAl hbA H locs ls _ _ (by decide) (by decide) hS (lv_sub hl [0, 4] rfl)
set_option maxHeartbeats 4000000 in
set_option maxRecDepth 100000 in
theorem law_case_10 {p : Program} {l : Launch} {e : Env} {s : State} {m : MethodId} {below : List Frame} {meth : Method} {c : Code} {b : Nat} {xs : Nat → Int32} {A : Nat → Prop} {D : va_G} {g : Nat → ClassId} (x : Nat) (mm : Nat) (oa : Nat) (tp : Nat) (n : Nat) (dr : Nat) (x_images : Nat) (x_kept : Nat) (rd : Nat) (st : Nat) (tl : Nat) (rg : Nat) (sv : Nat) (oc : Nat) (x_tried : Nat) (lf : Nat) (x_stoppedWays : Nat) (x_stoppedWorth : Nat) (x_withinWorth : Nat) (n_kind : Nat) (n_pay : Nat) (n_name : Nat) (n_ways : Nat) (n_held : Nat) (n_targets : Nat) (n_weights : Nat) (m_s : Nat) (m_spare : Nat) (m_kept : Nat) (m_undone : Nat) (m_triedWay : Nat) (m_isKept : Nat) (m_tape : Nat) (m_letters : Nat) (m_choice : Nat) (m_row : Nat) (m_up : Nat) (m_low : Nat) (m_m : Nat) (m_bestUp : Nat) (m_bestLow : Nat) (m_replyUp : Nat) (m_replyLow : Nat) (m_worthUp : Nat) (m_worthLow : Nat) (m_bestWay : Nat) (m_told : Nat) (hst : l.stackTraces = false) (C0 : lw_At p s m meth c b 6 xs) (hA : ∀ q : Nat, s.heap.size ≤ q → A q) (hAl : ∀ q : Nat, A q → s.heap.size ≤ q) (hbA : ¬ A b) (hK : va_K D vwCl (TY g) s) (hZ : ZT A s s.heap) : ∀ (H : Heap) (locs : List Loc) (ls : Array Slot), va_P D vwCl [(x, .inr (11, [.ref tp, .ref n, .ref dr, .ref x_images, .ref x_kept, .ref rd, .ref st, .ref tl, .ref rg, .ref sv, .ref oc, .ref x_tried, .ref lf, .int 0, .ref x_stoppedWays, .ref x_stoppedWorth, .int 0, .ref x_withinWorth])), (n, .inr (2, [.int 0, .ref n_kind, .ref n_pay, .ref n_name, .ref n_ways, .ref n_held, .ref n_targets, .ref n_weights])), (mm, .inr (12, (.int 0 :: .ref m_s :: .ref m_spare :: .ref m_kept :: .ref m_undone :: .ref m_triedWay :: .ref m_isKept :: .int 0 :: .ref m_tape :: .int 0 :: .int 0 :: .int 0 :: .int 0 :: .int 0 :: .int 0 :: .int 0 :: .int 0 :: .int 0 :: .ref m_letters :: .int 0 :: .ref m_choice :: .ref m_row :: .ref m_up :: .ref m_low :: .ref m_m :: .ref m_bestUp :: .ref m_bestLow :: .ref m_replyUp :: .ref m_replyLow :: .ref m_worthUp :: .ref m_worthLow :: .ref m_bestWay :: .int 0 :: .ref m_told :: .int 0 :: []))), (m_s, .inl (g 0, 193, .inl (fun _ => 0)))] H → va_D A [(x, .inr (11, [.ref tp, .ref n, .ref dr, .ref x_images, .ref x_kept, .ref rd, .ref st, .ref tl, .ref rg, .ref sv, .ref oc, .ref x_tried, .ref lf, .int 0, .ref x_stoppedWays, .ref x_stoppedWorth, .int 0, .ref x_withinWorth])), (n, .inr (2, [.int 0, .ref n_kind, .ref n_pay, .ref n_name, .ref n_ways, .ref n_held, .ref n_targets, .ref n_weights])), (mm, .inr (12, (.int 0 :: .ref m_s :: .ref m_spare :: .ref m_kept :: .ref m_undone :: .ref m_triedWay :: .ref m_isKept :: .int 0 :: .ref m_tape :: .int 0 :: .int 0 :: .int 0 :: .int 0 :: .int 0 :: .int 0 :: .int 0 :: .int 0 :: .int 0 :: .ref m_letters :: .int 0 :: .ref m_choice :: .ref m_row :: .ref m_up :: .ref m_low :: .ref m_m :: .ref m_bestUp :: .ref m_bestLow :: .ref m_replyUp :: .ref m_replyLow :: .ref m_worthUp :: .ref m_worthLow :: .ref m_bestWay :: .int 0 :: .ref m_told :: .int 0 :: []))), (m_s, .inl (g 0, 193, .inl (fun _ => 0)))] → va_S A s.heap H locs → lv_has ls 8 [(4, .int 0), (3, .ref oa), (2, .ref mm), (1, .ref x), (0, .ref b)] → W p l e room_1 s m #[Value.ref b] below meth c H locs 114 6056 (lw_Z below #[Value.ref b] s) (F0 m 610 ls []) := by
  obtain ⟨hx, hb, hr, hml, hown, hts0, hX, hbl, hlocks, hgv⟩ := id C0
  have hts : ∀ w ∈ wsL_law, w.before _ s = true := fun w h => hts0 w (wsL_law_in w h)
  intro H locs ls hP hD hS hl
  refine lv_aload_n hx hb dL_law_610 rfl (lv_at hl 3 rfl) ?_
  refine lv_aload_n hx hb dL_law_611 rfl (lv_at hl 4 rfl) ?_
  refine lv_iload hx hb dL_law_612 (lv_at hl 0 rfl) ?_
  refine lv_iconst (v := 1) hx hb dL_law_614 (by decide) ?_
  refine lv_iadd hx hb dL_law_615 ?_
  refine tz_i (y := 1) (by decide +kernel) ?_
  refine va_sld hx hb hX hbl hbA hS (tz_in (by decide +kernel)) dL_law_616 ?_
  refine tz_i (y := xs 1) (congrArg xs (by decide +kernel)) ?_
  refine lv_aload_n hx hb dL_law_617 rfl (lv_at hl 4 rfl) ?_
  refine lv_iload hx hb dL_law_618 (lv_at hl 0 rfl) ?_
  refine lv_iconst (v := 2) hx hb dL_law_620 (by decide) ?_
  refine lv_iadd hx hb dL_law_621 ?_
  refine tz_i (y := 2) (by decide +kernel) ?_
  refine va_sld hx hb hX hbl hbA hS (tz_in (by decide +kernel)) dL_law_622 ?_
  refine tz_i (y := xs 2) (congrArg xs (by decide +kernel)) ?_
  refine lv_aload_n hx hb dL_law_623 rfl (lv_at hl 1 rfl) ?_
  have hPc := hP.sub (ws' := [(x, .inr (11, [.ref tp, .ref n, .ref dr, .ref x_images, .ref x_kept, .ref rd, .ref st, .ref tl, .ref rg, .ref sv, .ref oc, .ref x_tried, .ref lf, .int 0, .ref x_stoppedWays, .ref x_stoppedWorth, .int 0, .ref x_withinWorth])), (n, .inr (2, [.int 0, .ref n_kind, .ref n_pay, .ref n_name, .ref n_ways, .ref n_held, .ref n_targets, .ref n_weights]))]) [0, 1] rfl
  have hDc := hD.sub (ws' := [(x, .inr (11, [.ref tp, .ref n, .ref dr, .ref x_images, .ref x_kept, .ref rd, .ref st, .ref tl, .ref rg, .ref sv, .ref oc, .ref x_tried, .ref lf, .int 0, .ref x_stoppedWays, .ref x_stoppedWorth, .int 0, .ref x_withinWorth])), (n, .inr (2, [.int 0, .ref n_kind, .ref n_pay, .ref n_name, .ref n_ways, .ref n_held, .ref n_targets, .ref n_weights]))]) [0, 1] (by decide) rfl
  have hFc := va_free (wc := [(x, .inr (11, [.ref tp, .ref n, .ref dr, .ref x_images, .ref x_kept, .ref rd, .ref st, .ref tl, .ref rg, .ref sv, .ref oc, .ref x_tried, .ref lf, .int 0, .ref x_stoppedWays, .ref x_stoppedWorth, .int 0, .ref x_withinWorth])), (n, .inr (2, [.int 0, .ref n_kind, .ref n_pay, .ref n_name, .ref n_ways, .ref n_held, .ref n_targets, .ref n_weights]))]) hD hS hA [0, 1] rfl
  refine vx_calli (vx_runSX (As := [.ref x, .int (xs 1), .int (xs 2), .ref oa]) (rest := []) ⟨hx, hb, hml, hown, hts⟩ (c_L_left l hst D g H.size x (xs 1) (xs 2) oa tp n dr x_images x_kept rd st tl rg sv oc x_tried lf x_stoppedWays x_stoppedWorth x_withinWorth n_kind n_pay n_name n_ways n_held n_targets n_weights) (vx_cwSW 4 hts (tz_gS qw_655 qw_656 qw_607 qw_657) rfl rfl rfl (by decide +kernel) ⟨Nat.le_of_ble_eq_true rfl, Nat.le_of_ble_eq_true rfl⟩) ⟨tz_blX, tz_preX hPc hK hDc (hZ.kept hS hFc)⟩ rfl rfl hl.1 rfl (lv_room (Nat.le_of_ble_eq_true rfl)) dL_law_624 ⟨Nat.le_of_ble_eq_true rfl, Nat.le_of_ble_eq_true rfl⟩) hS (fun q _ h => hFc q h) hFc (fun q _ h => hFc q h) (fun E ce q9 u t H1 locs1 ht hvm hpx hBX hz1 hk1 hS hce hcv hcl => hpx.elim) (fun r_652 u t H1 locs ht hvm hw hB hz1 hk1 hS => ?_)
  obtain ⟨hP, hD⟩ := va_join (wr := [(mm, .inr (12, (.int 0 :: .ref m_s :: .ref m_spare :: .ref m_kept :: .ref m_undone :: .ref m_triedWay :: .ref m_isKept :: .int 0 :: .ref m_tape :: .int 0 :: .int 0 :: .int 0 :: .int 0 :: .int 0 :: .int 0 :: .int 0 :: .int 0 :: .int 0 :: .ref m_letters :: .int 0 :: .ref m_choice :: .ref m_row :: .ref m_up :: .ref m_low :: .ref m_m :: .ref m_bestUp :: .ref m_bestLow :: .ref m_replyUp :: .ref m_replyLow :: .ref m_worthUp :: .ref m_worthLow :: .ref m_bestWay :: .int 0 :: .ref m_told :: .int 0 :: []))), (m_s, .inl (g 0, 193, .inl (fun _ => 0)))]) (w1 := []) hP hD [0, 1] [2, 3] rfl rfl (by decide) (by decide) hk1 hFc tz_nilP tz_nilD
  generalize H1 = H at hP hS ⊢
  have hP : va_P D vwCl [(mm, .inr (12, (.int 0 :: .ref m_s :: .ref m_spare :: .ref m_kept :: .ref m_undone :: .ref m_triedWay :: .ref m_isKept :: .int 0 :: .ref m_tape :: .int 0 :: .int 0 :: .int 0 :: .int 0 :: .int 0 :: .int 0 :: .int 0 :: .int 0 :: .int 0 :: .ref m_letters :: .int 0 :: .ref m_choice :: .ref m_row :: .ref m_up :: .ref m_low :: .ref m_m :: .ref m_bestUp :: .ref m_bestLow :: .ref m_replyUp :: .ref m_replyLow :: .ref m_worthUp :: .ref m_worthLow :: .ref m_bestWay :: .int 0 :: .ref m_told :: .int 0 :: []))), (m_s, .inl (g 0, 193, .inl (fun _ => 0)))] H := hP
  have hD : va_D A [(mm, .inr (12, (.int 0 :: .ref m_s :: .ref m_spare :: .ref m_kept :: .ref m_undone :: .ref m_triedWay :: .ref m_isKept :: .int 0 :: .ref m_tape :: .int 0 :: .int 0 :: .int 0 :: .int 0 :: .int 0 :: .int 0 :: .int 0 :: .int 0 :: .int 0 :: .ref m_letters :: .int 0 :: .ref m_choice :: .ref m_row :: .ref m_up :: .ref m_low :: .ref m_m :: .ref m_bestUp :: .ref m_bestLow :: .ref m_replyUp :: .ref m_replyLow :: .ref m_worthUp :: .ref m_worthLow :: .ref m_bestWay :: .int 0 :: .ref m_told :: .int 0 :: []))), (m_s, .inl (g 0, 193, .inl (fun _ => 0)))] := hD
  subst hw
  refine W.widen (k := 115) (n := 6062) (by decide) (by decide) ?_
  refine lv_istore (lv' := [(5, .int 1), (4, .int 0), (3, .ref oa), (2, .ref mm), (1, .ref x), (0, .ref b)]) hx hb dL_law_627 hl (by decide) rfl (fun ls hl => ?_)
  refine lv_aload_n hx hb dL_law_629 rfl (lv_at hl 3 rfl) ?_
  refine lv_aload_n hx hb dL_law_630 rfl (lv_at hl 5 rfl) ?_
  refine lv_iload hx hb dL_law_631 (lv_at hl 1 rfl) ?_
  refine lv_iconst (v := 1) hx hb dL_law_633 (by decide) ?_
  refine lv_iadd hx hb dL_law_634 ?_
  refine tz_i (y := 1) (by decide +kernel) ?_
  refine va_sld hx hb hX hbl hbA hS (tz_in (by decide +kernel)) dL_law_635 ?_
  refine tz_i (y := xs 1) (congrArg xs (by decide +kernel)) ?_
  refine lv_aload_n hx hb dL_law_636 rfl (lv_at hl 5 rfl) ?_
  refine lv_iload hx hb dL_law_637 (lv_at hl 1 rfl) ?_
  refine lv_iconst (v := 2) hx hb dL_law_639 (by decide) ?_
  refine lv_iadd hx hb dL_law_640 ?_
  refine tz_i (y := 2) (by decide +kernel) ?_
  refine va_sld hx hb hX hbl hbA hS (tz_in (by decide +kernel)) dL_law_641 ?_
  refine tz_i (y := xs 2) (congrArg xs (by decide +kernel)) ?_
  have hPc := hP.sub (ws' := [(mm, .inr (12, (.int 0 :: .ref m_s :: .ref m_spare :: .ref m_kept :: .ref m_undone :: .ref m_triedWay :: .ref m_isKept :: .int 0 :: .ref m_tape :: .int 0 :: .int 0 :: .int 0 :: .int 0 :: .int 0 :: .int 0 :: .int 0 :: .int 0 :: .int 0 :: .ref m_letters :: .int 0 :: .ref m_choice :: .ref m_row :: .ref m_up :: .ref m_low :: .ref m_m :: .ref m_bestUp :: .ref m_bestLow :: .ref m_replyUp :: .ref m_replyLow :: .ref m_worthUp :: .ref m_worthLow :: .ref m_bestWay :: .int 0 :: .ref m_told :: .int 0 :: []))), (m_s, .inl (g 0, 193, .inl (fun _ => 0)))]) [0, 1] rfl
  have hDc := hD.sub (ws' := [(mm, .inr (12, (.int 0 :: .ref m_s :: .ref m_spare :: .ref m_kept :: .ref m_undone :: .ref m_triedWay :: .ref m_isKept :: .int 0 :: .ref m_tape :: .int 0 :: .int 0 :: .int 0 :: .int 0 :: .int 0 :: .int 0 :: .int 0 :: .int 0 :: .int 0 :: .ref m_letters :: .int 0 :: .ref m_choice :: .ref m_row :: .ref m_up :: .ref m_low :: .ref m_m :: .ref m_bestUp :: .ref m_bestLow :: .ref m_replyUp :: .ref m_replyLow :: .ref m_worthUp :: .ref m_worthLow :: .ref m_bestWay :: .int 0 :: .ref m_told :: .int 0 :: []))), (m_s, .inl (g 0, 193, .inl (fun _ => 0)))]) [0, 1] (by decide) rfl
  have hFc := va_free (wc := [(mm, .inr (12, (.int 0 :: .ref m_s :: .ref m_spare :: .ref m_kept :: .ref m_undone :: .ref m_triedWay :: .ref m_isKept :: .int 0 :: .ref m_tape :: .int 0 :: .int 0 :: .int 0 :: .int 0 :: .int 0 :: .int 0 :: .int 0 :: .int 0 :: .int 0 :: .ref m_letters :: .int 0 :: .ref m_choice :: .ref m_row :: .ref m_up :: .ref m_low :: .ref m_m :: .ref m_bestUp :: .ref m_bestLow :: .ref m_replyUp :: .ref m_replyLow :: .ref m_worthUp :: .ref m_worthLow :: .ref m_bestWay :: .int 0 :: .ref m_told :: .int 0 :: []))), (m_s, .inl (g 0, 193, .inl (fun _ => 0)))]) hD hS hA [0, 1] rfl
  refine va_calll (va_runV (As := [.int (xs 1), .int (xs 2)]) (rest := []) ⟨hx, hb, hml, hown, hts⟩ (c_X12_left l D g H.size mm (xs 1) (xs 2) 0 m_s m_spare m_kept m_undone m_triedWay m_isKept 0 m_tape 0 0 0 0 0 0 0 0 0 m_letters m_choice m_row m_up m_low m_m m_bestUp m_bestLow m_replyUp m_replyLow m_worthUp m_worthLow m_bestWay 0 m_told 0) (cwV 2 hts (tz_gV qw_658 qw_659 qw_660 qw_253 qw_661) rfl rfl rfl (by decide +kernel) ⟨Nat.le_of_ble_eq_true rfl, Nat.le_of_ble_eq_true rfl⟩) ⟨tz_blQ, va_recv hK hPc (ci := 12) (q0 := 0) rfl rfl, tz_preQ hPc hK hDc⟩ rfl rfl hl.1 rfl (lv_room (Nat.le_of_ble_eq_true rfl)) dL_law_642 ⟨Nat.le_of_ble_eq_true rfl, Nat.le_of_ble_eq_true rfl⟩) hS (fun q _ h => hFc q h) hFc (fun r_653 u t H1 locs ht hvm hw hB hz1 hk1 hS => ?_)
  obtain ⟨hP1, hD1⟩ := hB
  rw [ht] at hP1
  obtain ⟨hP, hD⟩ := va_join (wr := []) (w1 := [(mm, .inr (12, (.int 1 :: .ref m_s :: .ref m_spare :: .ref m_kept :: .ref m_undone :: .ref m_triedWay :: .ref m_isKept :: .int 0 :: .ref m_tape :: .int 0 :: .int 0 :: .int 0 :: .int 0 :: .int 0 :: .int 0 :: .int 0 :: .int 0 :: .int 0 :: .ref m_letters :: .int 0 :: .ref m_choice :: .ref m_row :: .ref m_up :: .ref m_low :: .ref m_m :: .ref m_bestUp :: .ref m_bestLow :: .ref m_replyUp :: .ref m_replyLow :: .ref m_worthUp :: .ref m_worthLow :: .ref m_bestWay :: .int 0 :: .ref m_told :: .int 0 :: []))), (m_s, .inl (g 0, 193, .inl (fun _ => 0)))]) hP hD [0, 1] [] rfl rfl (by decide) (by decide) hk1 hFc hP1 hD1
  generalize H1 = H at hP hS ⊢
  have hP : va_P D vwCl [(mm, .inr (12, (.int 1 :: .ref m_s :: .ref m_spare :: .ref m_kept :: .ref m_undone :: .ref m_triedWay :: .ref m_isKept :: .int 0 :: .ref m_tape :: .int 0 :: .int 0 :: .int 0 :: .int 0 :: .int 0 :: .int 0 :: .int 0 :: .int 0 :: .int 0 :: .ref m_letters :: .int 0 :: .ref m_choice :: .ref m_row :: .ref m_up :: .ref m_low :: .ref m_m :: .ref m_bestUp :: .ref m_bestLow :: .ref m_replyUp :: .ref m_replyLow :: .ref m_worthUp :: .ref m_worthLow :: .ref m_bestWay :: .int 0 :: .ref m_told :: .int 0 :: []))), (m_s, .inl (g 0, 193, .inl (fun _ => 0)))] H := hP
  have hD : va_D A [(mm, .inr (12, (.int 1 :: .ref m_s :: .ref m_spare :: .ref m_kept :: .ref m_undone :: .ref m_triedWay :: .ref m_isKept :: .int 0 :: .ref m_tape :: .int 0 :: .int 0 :: .int 0 :: .int 0 :: .int 0 :: .int 0 :: .int 0 :: .int 0 :: .int 0 :: .ref m_letters :: .int 0 :: .ref m_choice :: .ref m_row :: .ref m_up :: .ref m_low :: .ref m_m :: .ref m_bestUp :: .ref m_bestLow :: .ref m_replyUp :: .ref m_replyLow :: .ref m_worthUp :: .ref m_worthLow :: .ref m_bestWay :: .int 0 :: .ref m_told :: .int 0 :: []))), (m_s, .inl (g 0, 193, .inl (fun _ => 0)))] := hD
  subst hw
  refine lv_lstore (lv' := [(6, .long 0), (5, .int 1), (4, .int 0), (3, .ref oa), (2, .ref mm), (1, .ref x), (0, .ref b)]) hx hb dL_law_645 hl (by decide) rfl (fun ls hl => ?_)
  refine lv_aload_n hx hb dL_law_647 rfl (lv_at hl 4 rfl) ?_
  have hPc := hP.sub (ws' := [(mm, .inr (12, (.int 1 :: .ref m_s :: .ref m_spare :: .ref m_kept :: .ref m_undone :: .ref m_triedWay :: .ref m_isKept :: .int 0 :: .ref m_tape :: .int 0 :: .int 0 :: .int 0 :: .int 0 :: .int 0 :: .int 0 :: .int 0 :: .int 0 :: .int 0 :: .ref m_letters :: .int 0 :: .ref m_choice :: .ref m_row :: .ref m_up :: .ref m_low :: .ref m_m :: .ref m_bestUp :: .ref m_bestLow :: .ref m_replyUp :: .ref m_replyLow :: .ref m_worthUp :: .ref m_worthLow :: .ref m_bestWay :: .int 0 :: .ref m_told :: .int 0 :: [])))]) [0] rfl
  refine vp_callSi (va_Run.run (va_runV (As := []) (rest := []) ⟨hx, hb, hml, hown, hts⟩ (c_X12_thrown l D g mm m_s m_spare m_kept m_undone m_triedWay m_isKept 0 m_tape 0 0 0 0 0 0 0 0 0 m_letters 0 m_choice m_row m_up m_low m_m m_bestUp m_bestLow m_replyUp m_replyLow m_worthUp m_worthLow m_bestWay 0 m_told 0) (cwV 0 hts (tz_gV qw_613 qw_614 qw_615 qw_253 qw_616) rfl rfl rfl (by decide +kernel) ⟨Nat.le_of_ble_eq_true rfl, Nat.le_of_ble_eq_true rfl⟩) ⟨tz_blS, va_recv hK hPc (ci := 12) (q0 := 0) rfl rfl, tz_preS hPc hK⟩ rfl rfl hl.1 rfl (lv_room (Nat.le_of_ble_eq_true rfl)) dL_law_648 ⟨Nat.le_of_ble_eq_true rfl, Nat.le_of_ble_eq_true rfl⟩)) (fun r_654 hw => ?_)
  subst hw
  refine lv_iload hx hb dL_law_651 (lv_at hl 1 rfl) ?_
  refine lv_icmp_eq (tgt := 658) hx hb dL_law_653 (by decide) (fun _ => ?_) (fun h9 => (h9 (by decide)).elim)
  refine lv_iload hx hb dL_law_658 (lv_at hl 1 rfl) ?_
  refine lv_if_ne (tgt := 674) hx hb dL_law_660 (by decide) (fun _ => ?_) (fun h9 => absurd h9 (by decide))
  refine lv_goto (tgt := 1475) hx hb dL_law_674 (by decide) ?_
  exact law_end C0 hAl hbA H locs ls _ _ (by decide) (by decide) hS (lv_sub hl [2, 6] rfl)
set_option maxHeartbeats 4000000 in
set_option maxRecDepth 100000 in
theorem law_case_11 {p : Program} {l : Launch} {e : Env} {s : State} {m : MethodId} {below : List Frame} {meth : Method} {c : Code} {b : Nat} {xs : Nat → Int32} {A : Nat → Prop} {D : va_G} {g : Nat → ClassId} (x : Nat) (mm : Nat) (oa : Nat) (tp : Nat) (n : Nat) (dr : Nat) (x_images : Nat) (x_kept : Nat) (rd : Nat) (st : Nat) (tl : Nat) (rg : Nat) (sv : Nat) (oc : Nat) (x_tried : Nat) (lf : Nat) (x_stoppedWays : Nat) (x_stoppedWorth : Nat) (x_withinWorth : Nat) (n_kind : Nat) (n_pay : Nat) (n_name : Nat) (n_ways : Nat) (n_held : Nat) (n_targets : Nat) (n_weights : Nat) (co : Nat) (sv_keep : Nat) (sv_scaled : Nat) (eq : Nat) (co_place : Nat) (eq_rows : Nat) (eq_right : Nat) (rr : Nat → Nat) (lf_part : Nat) (m_s : Nat) (m_spare : Nat) (m_kept : Nat) (m_undone : Nat) (m_triedWay : Nat) (m_isKept : Nat) (m_tape : Nat) (m_letters : Nat) (m_choice : Nat) (m_row : Nat) (m_up : Nat) (m_low : Nat) (m_m : Nat) (m_bestUp : Nat) (m_bestLow : Nat) (m_replyUp : Nat) (m_replyLow : Nat) (m_worthUp : Nat) (m_worthLow : Nat) (m_bestWay : Nat) (m_told : Nat) (hst : l.stackTraces = false) (C0 : lw_At p s m meth c b 6 xs) (hA : ∀ q : Nat, s.heap.size ≤ q → A q) (hAl : ∀ q : Nat, A q → s.heap.size ≤ q) (hbA : ¬ A b) (hK : va_K D vwCl (TY g) s) (hZ : ZT A s s.heap) : ∀ (H : Heap) (locs : List Loc) (ls : Array Slot), va_P D vwCl [(x, .inr (11, [.ref tp, .ref n, .ref dr, .ref x_images, .ref x_kept, .ref rd, .ref st, .ref tl, .ref rg, .ref sv, .ref oc, .ref x_tried, .ref lf, .int 0, .ref x_stoppedWays, .ref x_stoppedWorth, .int 0, .ref x_withinWorth])), (n, .inr (2, [.int 0, .ref n_kind, .ref n_pay, .ref n_name, .ref n_ways, .ref n_held, .ref n_targets, .ref n_weights])), (sv, .inr (6, [.ref n, .ref co, .ref sv_keep, .ref sv_scaled])), (co, .inr (0, [.ref n, .ref eq, .ref co_place])), (eq, .inr (1, [.ref eq_rows, .ref eq_right, .long 0])), (eq_right, .inl (g 1, 8, .inr (.inl (fun _ => 0)))), (eq_rows, .inl (g 5, 8, .inr (.inr (.inr (.inr (fun i => if i < 8 then some (rr i) else none)))))), ((rr 0), .inl (g 1, 8, .inr (.inl (fun _ => 0)))), ((rr 1), .inl (g 1, 8, .inr (.inl (fun _ => 0)))), ((rr 2), .inl (g 1, 8, .inr (.inl (fun _ => 0)))), ((rr 3), .inl (g 1, 8, .inr (.inl (fun _ => 0)))), ((rr 4), .inl (g 1, 8, .inr (.inl (fun _ => 0)))), ((rr 5), .inl (g 1, 8, .inr (.inl (fun _ => 0)))), ((rr 6), .inl (g 1, 8, .inr (.inl (fun _ => 0)))), ((rr 7), .inl (g 1, 8, .inr (.inl (fun _ => 0)))), (lf, .inr (10, [.ref lf_part, .long 1])), (mm, .inr (12, (.int 0 :: .ref m_s :: .ref m_spare :: .ref m_kept :: .ref m_undone :: .ref m_triedWay :: .ref m_isKept :: .int 0 :: .ref m_tape :: .int 0 :: .int 0 :: .int 0 :: .int 0 :: .int 0 :: .int 0 :: .int 0 :: .int 0 :: .int 0 :: .ref m_letters :: .int 0 :: .ref m_choice :: .ref m_row :: .ref m_up :: .ref m_low :: .ref m_m :: .ref m_bestUp :: .ref m_bestLow :: .ref m_replyUp :: .ref m_replyLow :: .ref m_worthUp :: .ref m_worthLow :: .ref m_bestWay :: .int 0 :: .ref m_told :: .int 0 :: []))), (m_s, .inl (g 0, 193, .inl (fun _ => 0)))] H → va_D A [(x, .inr (11, [.ref tp, .ref n, .ref dr, .ref x_images, .ref x_kept, .ref rd, .ref st, .ref tl, .ref rg, .ref sv, .ref oc, .ref x_tried, .ref lf, .int 0, .ref x_stoppedWays, .ref x_stoppedWorth, .int 0, .ref x_withinWorth])), (n, .inr (2, [.int 0, .ref n_kind, .ref n_pay, .ref n_name, .ref n_ways, .ref n_held, .ref n_targets, .ref n_weights])), (sv, .inr (6, [.ref n, .ref co, .ref sv_keep, .ref sv_scaled])), (co, .inr (0, [.ref n, .ref eq, .ref co_place])), (eq, .inr (1, [.ref eq_rows, .ref eq_right, .long 0])), (eq_right, .inl (g 1, 8, .inr (.inl (fun _ => 0)))), (eq_rows, .inl (g 5, 8, .inr (.inr (.inr (.inr (fun i => if i < 8 then some (rr i) else none)))))), ((rr 0), .inl (g 1, 8, .inr (.inl (fun _ => 0)))), ((rr 1), .inl (g 1, 8, .inr (.inl (fun _ => 0)))), ((rr 2), .inl (g 1, 8, .inr (.inl (fun _ => 0)))), ((rr 3), .inl (g 1, 8, .inr (.inl (fun _ => 0)))), ((rr 4), .inl (g 1, 8, .inr (.inl (fun _ => 0)))), ((rr 5), .inl (g 1, 8, .inr (.inl (fun _ => 0)))), ((rr 6), .inl (g 1, 8, .inr (.inl (fun _ => 0)))), ((rr 7), .inl (g 1, 8, .inr (.inl (fun _ => 0)))), (lf, .inr (10, [.ref lf_part, .long 1])), (mm, .inr (12, (.int 0 :: .ref m_s :: .ref m_spare :: .ref m_kept :: .ref m_undone :: .ref m_triedWay :: .ref m_isKept :: .int 0 :: .ref m_tape :: .int 0 :: .int 0 :: .int 0 :: .int 0 :: .int 0 :: .int 0 :: .int 0 :: .int 0 :: .int 0 :: .ref m_letters :: .int 0 :: .ref m_choice :: .ref m_row :: .ref m_up :: .ref m_low :: .ref m_m :: .ref m_bestUp :: .ref m_bestLow :: .ref m_replyUp :: .ref m_replyLow :: .ref m_worthUp :: .ref m_worthLow :: .ref m_bestWay :: .int 0 :: .ref m_told :: .int 0 :: []))), (m_s, .inl (g 0, 193, .inl (fun _ => 0)))] → va_S A s.heap H locs → lv_has ls 8 [(4, .int 0), (3, .ref oa), (2, .ref mm), (1, .ref x), (0, .ref b)] → W p l e room_1 s m #[Value.ref b] below meth c H locs 114 6056 (lw_Z below #[Value.ref b] s) (F0 m 677 ls []) := by
  obtain ⟨hx, hb, hr, hml, hown, hts0, hX, hbl, hlocks, hgv⟩ := id C0
  have hts : ∀ w ∈ wsL_law, w.before _ s = true := fun w h => hts0 w (wsL_law_in w h)
  intro H locs ls hP hD hS hl
  refine lv_aload_n hx hb dL_law_677 rfl (lv_at hl 3 rfl) ?_
  have hPc := hP.sub (ws' := [(x, .inr (11, [.ref tp, .ref n, .ref dr, .ref x_images, .ref x_kept, .ref rd, .ref st, .ref tl, .ref rg, .ref sv, .ref oc, .ref x_tried, .ref lf, .int 0, .ref x_stoppedWays, .ref x_stoppedWorth, .int 0, .ref x_withinWorth])), (sv, .inr (6, [.ref n, .ref co, .ref sv_keep, .ref sv_scaled])), (co, .inr (0, [.ref n, .ref eq, .ref co_place])), (n, .inr (2, [.int 0, .ref n_kind, .ref n_pay, .ref n_name, .ref n_ways, .ref n_held, .ref n_targets, .ref n_weights])), (lf, .inr (10, [.ref lf_part, .long 1])), (eq, .inr (1, [.ref eq_rows, .ref eq_right, .long 0])), (eq_right, .inl (g 1, 8, .inr (.inl (fun _ => 0)))), (eq_rows, .inl (g 5, 8, .inr (.inr (.inr (.inr (fun i => if i < 8 then some (rr i) else none)))))), ((rr 0), .inl (g 1, 8, .inr (.inl (fun _ => 0)))), ((rr 1), .inl (g 1, 8, .inr (.inl (fun _ => 0)))), ((rr 2), .inl (g 1, 8, .inr (.inl (fun _ => 0)))), ((rr 3), .inl (g 1, 8, .inr (.inl (fun _ => 0)))), ((rr 4), .inl (g 1, 8, .inr (.inl (fun _ => 0)))), ((rr 5), .inl (g 1, 8, .inr (.inl (fun _ => 0)))), ((rr 6), .inl (g 1, 8, .inr (.inl (fun _ => 0)))), ((rr 7), .inl (g 1, 8, .inr (.inl (fun _ => 0))))]) [0, 2, 3, 1, 15, 4, 5, 6, 7, 8, 9, 10, 11, 12, 13, 14] rfl
  have hDc := hD.sub (ws' := [(x, .inr (11, [.ref tp, .ref n, .ref dr, .ref x_images, .ref x_kept, .ref rd, .ref st, .ref tl, .ref rg, .ref sv, .ref oc, .ref x_tried, .ref lf, .int 0, .ref x_stoppedWays, .ref x_stoppedWorth, .int 0, .ref x_withinWorth])), (sv, .inr (6, [.ref n, .ref co, .ref sv_keep, .ref sv_scaled])), (co, .inr (0, [.ref n, .ref eq, .ref co_place])), (n, .inr (2, [.int 0, .ref n_kind, .ref n_pay, .ref n_name, .ref n_ways, .ref n_held, .ref n_targets, .ref n_weights])), (lf, .inr (10, [.ref lf_part, .long 1])), (eq, .inr (1, [.ref eq_rows, .ref eq_right, .long 0])), (eq_right, .inl (g 1, 8, .inr (.inl (fun _ => 0)))), (eq_rows, .inl (g 5, 8, .inr (.inr (.inr (.inr (fun i => if i < 8 then some (rr i) else none)))))), ((rr 0), .inl (g 1, 8, .inr (.inl (fun _ => 0)))), ((rr 1), .inl (g 1, 8, .inr (.inl (fun _ => 0)))), ((rr 2), .inl (g 1, 8, .inr (.inl (fun _ => 0)))), ((rr 3), .inl (g 1, 8, .inr (.inl (fun _ => 0)))), ((rr 4), .inl (g 1, 8, .inr (.inl (fun _ => 0)))), ((rr 5), .inl (g 1, 8, .inr (.inl (fun _ => 0)))), ((rr 6), .inl (g 1, 8, .inr (.inl (fun _ => 0)))), ((rr 7), .inl (g 1, 8, .inr (.inl (fun _ => 0))))]) [0, 2, 3, 1, 15, 4, 5, 6, 7, 8, 9, 10, 11, 12, 13, 14] (by decide) rfl
  have hFc := va_free (wc := [(x, .inr (11, [.ref tp, .ref n, .ref dr, .ref x_images, .ref x_kept, .ref rd, .ref st, .ref tl, .ref rg, .ref sv, .ref oc, .ref x_tried, .ref lf, .int 0, .ref x_stoppedWays, .ref x_stoppedWorth, .int 0, .ref x_withinWorth])), (sv, .inr (6, [.ref n, .ref co, .ref sv_keep, .ref sv_scaled])), (co, .inr (0, [.ref n, .ref eq, .ref co_place])), (n, .inr (2, [.int 0, .ref n_kind, .ref n_pay, .ref n_name, .ref n_ways, .ref n_held, .ref n_targets, .ref n_weights])), (lf, .inr (10, [.ref lf_part, .long 1])), (eq, .inr (1, [.ref eq_rows, .ref eq_right, .long 0])), (eq_right, .inl (g 1, 8, .inr (.inl (fun _ => 0)))), (eq_rows, .inl (g 5, 8, .inr (.inr (.inr (.inr (fun i => if i < 8 then some (rr i) else none)))))), ((rr 0), .inl (g 1, 8, .inr (.inl (fun _ => 0)))), ((rr 1), .inl (g 1, 8, .inr (.inl (fun _ => 0)))), ((rr 2), .inl (g 1, 8, .inr (.inl (fun _ => 0)))), ((rr 3), .inl (g 1, 8, .inr (.inl (fun _ => 0)))), ((rr 4), .inl (g 1, 8, .inr (.inl (fun _ => 0)))), ((rr 5), .inl (g 1, 8, .inr (.inl (fun _ => 0)))), ((rr 6), .inl (g 1, 8, .inr (.inl (fun _ => 0)))), ((rr 7), .inl (g 1, 8, .inr (.inl (fun _ => 0))))]) hD hS hA [0, 2, 3, 1, 15, 4, 5, 6, 7, 8, 9, 10, 11, 12, 13, 14] rfl
  refine va_calli (va_runV (As := []) (rest := []) ⟨hx, hb, hml, hown, hts⟩ (c_X11_improve l D g H.size x tp n dr x_images x_kept rd st tl rg sv oc x_tried lf x_stoppedWays x_stoppedWorth x_withinWorth co sv_keep sv_scaled eq co_place n_kind n_pay n_name n_ways n_held n_targets n_weights lf_part 1 eq_rows eq_right 0 (fun _ => 0) rr (fun _ => 0) (fun _ => 0) (fun _ => 0) (fun _ => 0) (fun _ => 0) (fun _ => 0) (fun _ => 0) (fun _ => 0)) (cwV 0 hts (tz_gV qw_662 qw_169 qw_170 qw_165 qw_171) rfl rfl rfl (by decide +kernel) ⟨Nat.le_of_ble_eq_true rfl, Nat.le_of_ble_eq_true rfl⟩) ⟨tz_blQ, va_recv hK hPc (ci := 11) (q0 := 0) rfl rfl, tz_preQ hPc hK hDc⟩ rfl rfl hl.1 rfl (lv_room (Nat.le_of_ble_eq_true rfl)) dL_law_678 ⟨Nat.le_of_ble_eq_true rfl, Nat.le_of_ble_eq_true rfl⟩) hS (fun q _ h => hFc q h) hFc (fun r_666 u t H1 locs ht hvm hw hB hz1 hk1 hS => ?_)
  obtain ⟨gr_667, g0_668, g1_669, g2_670, g3_671, g4_672, g5_673, g6_674, g7_675, hP1, hD1⟩ := hB
  rw [ht] at hP1
  obtain ⟨hP, hD⟩ := va_join (wr := [(mm, .inr (12, (.int 0 :: .ref m_s :: .ref m_spare :: .ref m_kept :: .ref m_undone :: .ref m_triedWay :: .ref m_isKept :: .int 0 :: .ref m_tape :: .int 0 :: .int 0 :: .int 0 :: .int 0 :: .int 0 :: .int 0 :: .int 0 :: .int 0 :: .int 0 :: .ref m_letters :: .int 0 :: .ref m_choice :: .ref m_row :: .ref m_up :: .ref m_low :: .ref m_m :: .ref m_bestUp :: .ref m_bestLow :: .ref m_replyUp :: .ref m_replyLow :: .ref m_worthUp :: .ref m_worthLow :: .ref m_bestWay :: .int 0 :: .ref m_told :: .int 0 :: []))), (m_s, .inl (g 0, 193, .inl (fun _ => 0)))]) (w1 := [(x, .inr (11, [.ref tp, .ref n, .ref dr, .ref x_images, .ref x_kept, .ref rd, .ref st, .ref tl, .ref rg, .ref sv, .ref oc, .ref x_tried, .ref lf, .int 1, .ref x_stoppedWays, .ref x_stoppedWorth, .int 0, .ref x_withinWorth])), (sv, .inr (6, [.ref n, .ref co, .ref sv_keep, .ref sv_scaled])), (co, .inr (0, [.ref n, .ref eq, .ref co_place])), (n, .inr (2, [.int 0, .ref n_kind, .ref n_pay, .ref n_name, .ref n_ways, .ref n_held, .ref n_targets, .ref n_weights])), (lf, .inr (10, [.ref lf_part, .long 1])), (eq, .inr (1, [.ref eq_rows, .ref eq_right, .long 1])), (eq_right, .inl (g 1, 8, .inr (.inl gr_667))), (eq_rows, .inl (g 5, 8, .inr (.inr (.inr (.inr (fun i => if i < 8 then some (rr i) else none)))))), ((rr 0), .inl (g 1, 8, .inr (.inl g0_668))), ((rr 1), .inl (g 1, 8, .inr (.inl g1_669))), ((rr 2), .inl (g 1, 8, .inr (.inl g2_670))), ((rr 3), .inl (g 1, 8, .inr (.inl g3_671))), ((rr 4), .inl (g 1, 8, .inr (.inl g4_672))), ((rr 5), .inl (g 1, 8, .inr (.inl g5_673))), ((rr 6), .inl (g 1, 8, .inr (.inl g6_674))), ((rr 7), .inl (g 1, 8, .inr (.inl g7_675)))]) hP hD [0, 2, 3, 1, 15, 4, 5, 6, 7, 8, 9, 10, 11, 12, 13, 14] [16, 17] rfl rfl (by decide) (by decide) hk1 hFc hP1 hD1
  generalize H1 = H at hP hS ⊢
  have hP : va_P D vwCl [(mm, .inr (12, (.int 0 :: .ref m_s :: .ref m_spare :: .ref m_kept :: .ref m_undone :: .ref m_triedWay :: .ref m_isKept :: .int 0 :: .ref m_tape :: .int 0 :: .int 0 :: .int 0 :: .int 0 :: .int 0 :: .int 0 :: .int 0 :: .int 0 :: .int 0 :: .ref m_letters :: .int 0 :: .ref m_choice :: .ref m_row :: .ref m_up :: .ref m_low :: .ref m_m :: .ref m_bestUp :: .ref m_bestLow :: .ref m_replyUp :: .ref m_replyLow :: .ref m_worthUp :: .ref m_worthLow :: .ref m_bestWay :: .int 0 :: .ref m_told :: .int 0 :: []))), (m_s, .inl (g 0, 193, .inl (fun _ => 0))), (x, .inr (11, [.ref tp, .ref n, .ref dr, .ref x_images, .ref x_kept, .ref rd, .ref st, .ref tl, .ref rg, .ref sv, .ref oc, .ref x_tried, .ref lf, .int 1, .ref x_stoppedWays, .ref x_stoppedWorth, .int 0, .ref x_withinWorth])), (sv, .inr (6, [.ref n, .ref co, .ref sv_keep, .ref sv_scaled])), (co, .inr (0, [.ref n, .ref eq, .ref co_place])), (n, .inr (2, [.int 0, .ref n_kind, .ref n_pay, .ref n_name, .ref n_ways, .ref n_held, .ref n_targets, .ref n_weights])), (lf, .inr (10, [.ref lf_part, .long 1])), (eq, .inr (1, [.ref eq_rows, .ref eq_right, .long 1])), (eq_right, .inl (g 1, 8, .inr (.inl gr_667))), (eq_rows, .inl (g 5, 8, .inr (.inr (.inr (.inr (fun i => if i < 8 then some (rr i) else none)))))), ((rr 0), .inl (g 1, 8, .inr (.inl g0_668))), ((rr 1), .inl (g 1, 8, .inr (.inl g1_669))), ((rr 2), .inl (g 1, 8, .inr (.inl g2_670))), ((rr 3), .inl (g 1, 8, .inr (.inl g3_671))), ((rr 4), .inl (g 1, 8, .inr (.inl g4_672))), ((rr 5), .inl (g 1, 8, .inr (.inl g5_673))), ((rr 6), .inl (g 1, 8, .inr (.inl g6_674))), ((rr 7), .inl (g 1, 8, .inr (.inl g7_675)))] H := hP
  have hD : va_D A [(mm, .inr (12, (.int 0 :: .ref m_s :: .ref m_spare :: .ref m_kept :: .ref m_undone :: .ref m_triedWay :: .ref m_isKept :: .int 0 :: .ref m_tape :: .int 0 :: .int 0 :: .int 0 :: .int 0 :: .int 0 :: .int 0 :: .int 0 :: .int 0 :: .int 0 :: .ref m_letters :: .int 0 :: .ref m_choice :: .ref m_row :: .ref m_up :: .ref m_low :: .ref m_m :: .ref m_bestUp :: .ref m_bestLow :: .ref m_replyUp :: .ref m_replyLow :: .ref m_worthUp :: .ref m_worthLow :: .ref m_bestWay :: .int 0 :: .ref m_told :: .int 0 :: []))), (m_s, .inl (g 0, 193, .inl (fun _ => 0))), (x, .inr (11, [.ref tp, .ref n, .ref dr, .ref x_images, .ref x_kept, .ref rd, .ref st, .ref tl, .ref rg, .ref sv, .ref oc, .ref x_tried, .ref lf, .int 1, .ref x_stoppedWays, .ref x_stoppedWorth, .int 0, .ref x_withinWorth])), (sv, .inr (6, [.ref n, .ref co, .ref sv_keep, .ref sv_scaled])), (co, .inr (0, [.ref n, .ref eq, .ref co_place])), (n, .inr (2, [.int 0, .ref n_kind, .ref n_pay, .ref n_name, .ref n_ways, .ref n_held, .ref n_targets, .ref n_weights])), (lf, .inr (10, [.ref lf_part, .long 1])), (eq, .inr (1, [.ref eq_rows, .ref eq_right, .long 1])), (eq_right, .inl (g 1, 8, .inr (.inl gr_667))), (eq_rows, .inl (g 5, 8, .inr (.inr (.inr (.inr (fun i => if i < 8 then some (rr i) else none)))))), ((rr 0), .inl (g 1, 8, .inr (.inl g0_668))), ((rr 1), .inl (g 1, 8, .inr (.inl g1_669))), ((rr 2), .inl (g 1, 8, .inr (.inl g2_670))), ((rr 3), .inl (g 1, 8, .inr (.inl g3_671))), ((rr 4), .inl (g 1, 8, .inr (.inl g4_672))), ((rr 5), .inl (g 1, 8, .inr (.inl g5_673))), ((rr 6), .inl (g 1, 8, .inr (.inl g6_674))), ((rr 7), .inl (g 1, 8, .inr (.inl g7_675)))] := hD
  subst hw
  refine lv_aload_n hx hb dL_law_681 rfl (lv_at hl 2 rfl) ?_
  have hPc := hP.sub (ws' := [(mm, .inr (12, (.int 0 :: .ref m_s :: .ref m_spare :: .ref m_kept :: .ref m_undone :: .ref m_triedWay :: .ref m_isKept :: .int 0 :: .ref m_tape :: .int 0 :: .int 0 :: .int 0 :: .int 0 :: .int 0 :: .int 0 :: .int 0 :: .int 0 :: .int 0 :: .ref m_letters :: .int 0 :: .ref m_choice :: .ref m_row :: .ref m_up :: .ref m_low :: .ref m_m :: .ref m_bestUp :: .ref m_bestLow :: .ref m_replyUp :: .ref m_replyLow :: .ref m_worthUp :: .ref m_worthLow :: .ref m_bestWay :: .int 0 :: .ref m_told :: .int 0 :: []))), (m_s, .inl (g 0, 193, .inl (fun _ => 0)))]) [0, 1] rfl
  have hDc := hD.sub (ws' := [(mm, .inr (12, (.int 0 :: .ref m_s :: .ref m_spare :: .ref m_kept :: .ref m_undone :: .ref m_triedWay :: .ref m_isKept :: .int 0 :: .ref m_tape :: .int 0 :: .int 0 :: .int 0 :: .int 0 :: .int 0 :: .int 0 :: .int 0 :: .int 0 :: .int 0 :: .ref m_letters :: .int 0 :: .ref m_choice :: .ref m_row :: .ref m_up :: .ref m_low :: .ref m_m :: .ref m_bestUp :: .ref m_bestLow :: .ref m_replyUp :: .ref m_replyLow :: .ref m_worthUp :: .ref m_worthLow :: .ref m_bestWay :: .int 0 :: .ref m_told :: .int 0 :: []))), (m_s, .inl (g 0, 193, .inl (fun _ => 0)))]) [0, 1] (by decide) rfl
  have hFc := va_free (wc := [(mm, .inr (12, (.int 0 :: .ref m_s :: .ref m_spare :: .ref m_kept :: .ref m_undone :: .ref m_triedWay :: .ref m_isKept :: .int 0 :: .ref m_tape :: .int 0 :: .int 0 :: .int 0 :: .int 0 :: .int 0 :: .int 0 :: .int 0 :: .int 0 :: .int 0 :: .ref m_letters :: .int 0 :: .ref m_choice :: .ref m_row :: .ref m_up :: .ref m_low :: .ref m_m :: .ref m_bestUp :: .ref m_bestLow :: .ref m_replyUp :: .ref m_replyLow :: .ref m_worthUp :: .ref m_worthLow :: .ref m_bestWay :: .int 0 :: .ref m_told :: .int 0 :: []))), (m_s, .inl (g 0, 193, .inl (fun _ => 0)))]) hD hS hA [0, 1] rfl
  refine va_calli (va_runV (As := []) (rest := [.int 0]) ⟨hx, hb, hml, hown, hts⟩ (c_X12_improve l D g H.size mm 0 m_s m_spare m_kept m_undone m_triedWay m_isKept 0 m_tape 0 0 0 0 0 0 0 0 0 m_letters m_choice m_row m_up m_low m_m m_bestUp m_bestLow m_replyUp m_replyLow m_worthUp m_worthLow m_bestWay 0 m_told 0) (cwV 0 hts (tz_gV qw_663 qw_664 qw_665 qw_253 qw_666) rfl rfl rfl (by decide +kernel) ⟨Nat.le_of_ble_eq_true rfl, Nat.le_of_ble_eq_true rfl⟩) ⟨tz_blQ, va_recv hK hPc (ci := 12) (q0 := 0) rfl rfl, tz_preQ hPc hK hDc⟩ rfl rfl hl.1 rfl (lv_room (Nat.le_of_ble_eq_true rfl)) dL_law_682 ⟨Nat.le_of_ble_eq_true rfl, Nat.le_of_ble_eq_true rfl⟩) hS (fun q _ h => hFc q h) hFc (fun r_676 u t H1 locs ht hvm hw hB hz1 hk1 hS => ?_)
  obtain ⟨hP, hD⟩ := va_join (wr := [(x, .inr (11, [.ref tp, .ref n, .ref dr, .ref x_images, .ref x_kept, .ref rd, .ref st, .ref tl, .ref rg, .ref sv, .ref oc, .ref x_tried, .ref lf, .int 1, .ref x_stoppedWays, .ref x_stoppedWorth, .int 0, .ref x_withinWorth])), (sv, .inr (6, [.ref n, .ref co, .ref sv_keep, .ref sv_scaled])), (co, .inr (0, [.ref n, .ref eq, .ref co_place])), (n, .inr (2, [.int 0, .ref n_kind, .ref n_pay, .ref n_name, .ref n_ways, .ref n_held, .ref n_targets, .ref n_weights])), (lf, .inr (10, [.ref lf_part, .long 1])), (eq, .inr (1, [.ref eq_rows, .ref eq_right, .long 1])), (eq_right, .inl (g 1, 8, .inr (.inl gr_667))), (eq_rows, .inl (g 5, 8, .inr (.inr (.inr (.inr (fun i => if i < 8 then some (rr i) else none)))))), ((rr 0), .inl (g 1, 8, .inr (.inl g0_668))), ((rr 1), .inl (g 1, 8, .inr (.inl g1_669))), ((rr 2), .inl (g 1, 8, .inr (.inl g2_670))), ((rr 3), .inl (g 1, 8, .inr (.inl g3_671))), ((rr 4), .inl (g 1, 8, .inr (.inl g4_672))), ((rr 5), .inl (g 1, 8, .inr (.inl g5_673))), ((rr 6), .inl (g 1, 8, .inr (.inl g6_674))), ((rr 7), .inl (g 1, 8, .inr (.inl g7_675)))]) (w1 := []) hP hD [0, 1] [2, 3, 4, 5, 6, 7, 8, 9, 10, 11, 12, 13, 14, 15, 16, 17] rfl rfl (by decide) (by decide) hk1 hFc tz_nilP tz_nilD
  generalize H1 = H at hP hS ⊢
  have hP : va_P D vwCl [(x, .inr (11, [.ref tp, .ref n, .ref dr, .ref x_images, .ref x_kept, .ref rd, .ref st, .ref tl, .ref rg, .ref sv, .ref oc, .ref x_tried, .ref lf, .int 1, .ref x_stoppedWays, .ref x_stoppedWorth, .int 0, .ref x_withinWorth])), (sv, .inr (6, [.ref n, .ref co, .ref sv_keep, .ref sv_scaled])), (co, .inr (0, [.ref n, .ref eq, .ref co_place])), (n, .inr (2, [.int 0, .ref n_kind, .ref n_pay, .ref n_name, .ref n_ways, .ref n_held, .ref n_targets, .ref n_weights])), (lf, .inr (10, [.ref lf_part, .long 1])), (eq, .inr (1, [.ref eq_rows, .ref eq_right, .long 1])), (eq_right, .inl (g 1, 8, .inr (.inl gr_667))), (eq_rows, .inl (g 5, 8, .inr (.inr (.inr (.inr (fun i => if i < 8 then some (rr i) else none)))))), ((rr 0), .inl (g 1, 8, .inr (.inl g0_668))), ((rr 1), .inl (g 1, 8, .inr (.inl g1_669))), ((rr 2), .inl (g 1, 8, .inr (.inl g2_670))), ((rr 3), .inl (g 1, 8, .inr (.inl g3_671))), ((rr 4), .inl (g 1, 8, .inr (.inl g4_672))), ((rr 5), .inl (g 1, 8, .inr (.inl g5_673))), ((rr 6), .inl (g 1, 8, .inr (.inl g6_674))), ((rr 7), .inl (g 1, 8, .inr (.inl g7_675)))] H := hP
  have hD : va_D A [(x, .inr (11, [.ref tp, .ref n, .ref dr, .ref x_images, .ref x_kept, .ref rd, .ref st, .ref tl, .ref rg, .ref sv, .ref oc, .ref x_tried, .ref lf, .int 1, .ref x_stoppedWays, .ref x_stoppedWorth, .int 0, .ref x_withinWorth])), (sv, .inr (6, [.ref n, .ref co, .ref sv_keep, .ref sv_scaled])), (co, .inr (0, [.ref n, .ref eq, .ref co_place])), (n, .inr (2, [.int 0, .ref n_kind, .ref n_pay, .ref n_name, .ref n_ways, .ref n_held, .ref n_targets, .ref n_weights])), (lf, .inr (10, [.ref lf_part, .long 1])), (eq, .inr (1, [.ref eq_rows, .ref eq_right, .long 1])), (eq_right, .inl (g 1, 8, .inr (.inl gr_667))), (eq_rows, .inl (g 5, 8, .inr (.inr (.inr (.inr (fun i => if i < 8 then some (rr i) else none)))))), ((rr 0), .inl (g 1, 8, .inr (.inl g0_668))), ((rr 1), .inl (g 1, 8, .inr (.inl g1_669))), ((rr 2), .inl (g 1, 8, .inr (.inl g2_670))), ((rr 3), .inl (g 1, 8, .inr (.inl g3_671))), ((rr 4), .inl (g 1, 8, .inr (.inl g4_672))), ((rr 5), .inl (g 1, 8, .inr (.inl g5_673))), ((rr 6), .inl (g 1, 8, .inr (.inl g6_674))), ((rr 7), .inl (g 1, 8, .inr (.inl g7_675)))] := hD
  subst hw
  refine lv_icmp_eq (tgt := 1475) hx hb dL_law_685 (by decide) (fun _ => ?_) (fun h9 => (h9 (by decide)).elim)
  exact law_end C0 hAl hbA H locs ls _ _ (by decide) (by decide) hS (lv_sub hl [0, 4] rfl)
