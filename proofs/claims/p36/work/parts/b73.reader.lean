theorem qw_378 : Cond.fieldLink RX4 41 "ChanceRings$Reader" "faultKind" "I" ∈ wsL_law := tseg_1 (by decide +kernel) (List.mem_of_getElem? (i := 178) rfl)
theorem qw_379 : Cond.fieldLink RX4 44 "ChanceRings$Reader" "faultPlace" "I" ∈ wsL_law := tseg_1 (by decide +kernel) (List.mem_of_getElem? (i := 180) rfl)
theorem qw_380 : Cond.fieldLink RX4 77 "ChanceRings$Reader" "tokenPlace" "I" ∈ wsL_law := tseg_1 (by decide +kernel) (List.mem_of_getElem? (i := 184) rfl)
theorem qw_381 : Cond.methodLink RX4 57 yX4_failAt ∈ wsL_law := tseg_2 (by decide +kernel) (List.mem_of_getElem? (i := 215) rfl)
theorem qw_382 : Cond.instanceMethod yX4_failAt ∈ wsL_law := tseg_2 (by decide +kernel) (List.mem_of_getElem? (i := 217) rfl)
theorem qw_383 : Cond.selects RX4 yX4_failAt yX4_failAt ∈ wsL_law := List.mem_filter.mpr ⟨List.mem_append_left _ (List.mem_of_getElem? (i := 0) rfl), by decide +kernel⟩
theorem qw_384 : Cond.initialized RX4 ∈ wsL_law := tseg_1 (by decide +kernel) (List.mem_of_getElem? (i := 4) rfl)
theorem qw_385 : Cond.code yX4_failAt cX4_failAt 3 none ∈ wsL_law := tseg_2 (by decide +kernel) (List.mem_of_getElem? (i := 218) rfl)
theorem qw_386 : Cond.fieldLink RX4 61 "ChanceRings$Reader" "next" "I" ∈ wsL_law := tseg_1 (by decide +kernel) (List.mem_of_getElem? (i := 182) rfl)
theorem qw_387 : Cond.fieldLink RX4 9 "ChanceRings$Reader" "tape" "LChanceRings$Tape;" ∈ wsL_law := tseg_1 (by decide +kernel) (List.mem_of_getElem? (i := 172) rfl)
theorem qw_388 : Cond.fieldLink RX4 52 "ChanceRings$Tape" "length" "I" ∈ wsL_law := tseg_1 (by decide +kernel) (List.mem_of_getElem? (i := 41) rfl)
theorem qw_389 : Cond.fieldLink RX4 67 "ChanceRings$Reader" "token" "I" ∈ wsL_law := tseg_1 (by decide +kernel) (List.mem_of_getElem? (i := 183) rfl)
theorem qw_390 : Cond.fieldLink RX4 136 "ChanceRings$Tape" "bytes" "[I" ∈ wsL_law := tseg_1 (by decide +kernel) (List.mem_of_getElem? (i := 38) rfl)
theorem qw_391 : Cond.methodLink RX4 139 yX4_isLetter ∈ wsL_law := tseg_2 (by decide +kernel) (List.mem_of_getElem? (i := 223) rfl)
theorem qw_392 : Cond.static yX4_isLetter ∈ wsL_law := tseg_2 (by decide +kernel) (List.mem_of_getElem? (i := 224) rfl)
theorem qw_393 : Cond.code yX4_isLetter cX4_isLetter 1 (some .boolean) ∈ wsL_law := tseg_2 (by decide +kernel) (List.mem_of_getElem? (i := 225) rfl)
theorem qw_394 : Cond.fieldLink RX4 86 "ChanceRings$Reader" "tokenValue" "I" ∈ wsL_law := tseg_1 (by decide +kernel) (List.mem_of_getElem? (i := 185) rfl)
theorem qw_395 : Cond.methodLink RX4 142 yX4_isDigit ∈ wsL_law := tseg_2 (by decide +kernel) (List.mem_of_getElem? (i := 226) rfl)
theorem qw_396 : Cond.static yX4_isDigit ∈ wsL_law := tseg_2 (by decide +kernel) (List.mem_of_getElem? (i := 227) rfl)
theorem qw_397 : Cond.code yX4_isDigit cX4_isDigit 1 (some .boolean) ∈ wsL_law := tseg_2 (by decide +kernel) (List.mem_of_getElem? (i := 228) rfl)
theorem qw_398 : Cond.methodLink RX4 145 yX4_takeRun ∈ wsL_law := tseg_2 (by decide +kernel) (List.mem_of_getElem? (i := 229) rfl)
theorem qw_399 : Cond.instanceMethod yX4_takeRun ∈ wsL_law := tseg_2 (by decide +kernel) (List.mem_of_getElem? (i := 231) rfl)
theorem qw_400 : Cond.selects RX4 yX4_takeRun yX4_takeRun ∈ wsL_law := List.mem_filter.mpr ⟨List.mem_append_left _ (List.mem_of_getElem? (i := 2) rfl), by decide +kernel⟩
theorem qw_401 : Cond.code yX4_takeRun cX4_takeRun 4 none ∈ wsL_law := tseg_2 (by decide +kernel) (List.mem_of_getElem? (i := 232) rfl)
theorem qw_402 : Cond.fieldLink RX4 31 "ChanceRings$Reader" "kindWords" "[I" ∈ wsL_law := tseg_1 (by decide +kernel) (List.mem_of_getElem? (i := 174) rfl)
theorem qw_403 : Cond.fieldLink RX4 37 "ChanceRings$Reader" "wayWord" "I" ∈ wsL_law := tseg_1 (by decide +kernel) (List.mem_of_getElem? (i := 176) rfl)
theorem qw_404 : Cond.methodLink RX4 89 yX4_kindOf ∈ wsL_law := tseg_2 (by decide +kernel) (List.mem_of_getElem? (i := 237) rfl)
theorem qw_405 : Cond.instanceMethod yX4_kindOf ∈ wsL_law := tseg_2 (by decide +kernel) (List.mem_of_getElem? (i := 239) rfl)
theorem qw_406 : Cond.selects RX4 yX4_kindOf yX4_kindOf ∈ wsL_law := List.mem_filter.mpr ⟨List.mem_append_left _ (List.mem_of_getElem? (i := 4) rfl), by decide +kernel⟩
theorem qw_407 : Cond.code yX4_kindOf cX4_kindOf 3 (some .int) ∈ wsL_law := tseg_3 (by decide +kernel) (List.mem_of_getElem? (i := 0) rfl)
theorem qw_408 : Cond.fieldLink RX4 15 "ChanceRings$Reader" "net" "LChanceRings$Net;" ∈ wsL_law := tseg_1 (by decide +kernel) (List.mem_of_getElem? (i := 173) rfl)
theorem qw_409 : Cond.methodLink RX4 107 yX2_countOf ∈ wsL_law := tseg_3 (by decide +kernel) (List.mem_of_getElem? (i := 9) rfl)
theorem qw_410 : Cond.instanceMethod yX2_countOf ∈ wsL_law := tseg_3 (by decide +kernel) (List.mem_of_getElem? (i := 10) rfl)
theorem qw_411 : Cond.selects RX2 yX2_countOf yX2_countOf ∈ wsL_law := tseg_3 (by decide +kernel) (List.mem_of_getElem? (i := 11) rfl)
theorem qw_412 : Cond.code yX2_countOf cX2_countOf 4 (some .int) ∈ wsL_law := tseg_3 (by decide +kernel) (List.mem_of_getElem? (i := 12) rfl)
theorem qw_413 : Cond.fieldLink RX4 47 "ChanceRings$Net" "nodes" "I" ∈ wsL_law := tseg_1 (by decide +kernel) (List.mem_of_getElem? (i := 57) rfl)
theorem qw_414 : Cond.methodLink RX4 104 yX4_fail ∈ wsL_law := tseg_3 (by decide +kernel) (List.mem_of_getElem? (i := 13) rfl)
theorem qw_415 : Cond.instanceMethod yX4_fail ∈ wsL_law := tseg_3 (by decide +kernel) (List.mem_of_getElem? (i := 15) rfl)
theorem qw_416 : Cond.selects RX4 yX4_fail yX4_fail ∈ wsL_law := List.mem_filter.mpr ⟨List.mem_append_left _ (List.mem_of_getElem? (i := 7) rfl), by decide +kernel⟩
theorem qw_417 : Cond.code yX4_fail cX4_fail 2 none ∈ wsL_law := tseg_3 (by decide +kernel) (List.mem_of_getElem? (i := 16) rfl)
theorem qw_418 : Cond.methodLink RX4 110 yX4_isFull ∈ wsL_law := tseg_3 (by decide +kernel) (List.mem_of_getElem? (i := 5) rfl)
theorem qw_419 : Cond.instanceMethod yX4_isFull ∈ wsL_law := tseg_3 (by decide +kernel) (List.mem_of_getElem? (i := 7) rfl)
theorem qw_420 : Cond.selects RX4 yX4_isFull yX4_isFull ∈ wsL_law := List.mem_filter.mpr ⟨List.mem_append_left _ (List.mem_of_getElem? (i := 6) rfl), by decide +kernel⟩
theorem qw_421 : Cond.code yX4_isFull cX4_isFull 3 (some .boolean) ∈ wsL_law := tseg_3 (by decide +kernel) (List.mem_of_getElem? (i := 8) rfl)
theorem qw_422 : Cond.methodLink RX4 64 yX4_advance ∈ wsL_law := tseg_2 (by decide +kernel) (List.mem_of_getElem? (i := 219) rfl)
theorem qw_423 : Cond.instanceMethod yX4_advance ∈ wsL_law := tseg_2 (by decide +kernel) (List.mem_of_getElem? (i := 221) rfl)
theorem qw_424 : Cond.selects RX4 yX4_advance yX4_advance ∈ wsL_law := List.mem_filter.mpr ⟨List.mem_append_left _ (List.mem_of_getElem? (i := 1) rfl), by decide +kernel⟩
theorem qw_425 : Cond.code yX4_advance cX4_advance 1 none ∈ wsL_law := tseg_2 (by decide +kernel) (List.mem_of_getElem? (i := 222) rfl)
theorem qw_426 : Cond.methodLink RX4 114 yX4_isName ∈ wsL_law := tseg_3 (by decide +kernel) (List.mem_of_getElem? (i := 17) rfl)
theorem qw_427 : Cond.instanceMethod yX4_isName ∈ wsL_law := tseg_3 (by decide +kernel) (List.mem_of_getElem? (i := 19) rfl)
theorem qw_428 : Cond.selects RX4 yX4_isName yX4_isName ∈ wsL_law := List.mem_filter.mpr ⟨List.mem_append_left _ (List.mem_of_getElem? (i := 8) rfl), by decide +kernel⟩
theorem qw_429 : Cond.code yX4_isName cX4_isName 1 (some .boolean) ∈ wsL_law := tseg_3 (by decide +kernel) (List.mem_of_getElem? (i := 20) rfl)
theorem qw_430 : Cond.methodLink RX4 117 yX2_find ∈ wsL_law := tseg_3 (by decide +kernel) (List.mem_of_getElem? (i := 21) rfl)
theorem qw_431 : Cond.instanceMethod yX2_find ∈ wsL_law := tseg_3 (by decide +kernel) (List.mem_of_getElem? (i := 22) rfl)
theorem qw_432 : Cond.selects RX2 yX2_find yX2_find ∈ wsL_law := tseg_3 (by decide +kernel) (List.mem_of_getElem? (i := 23) rfl)
theorem qw_433 : Cond.code yX2_find cX2_find 3 (some .int) ∈ wsL_law := tseg_3 (by decide +kernel) (List.mem_of_getElem? (i := 24) rfl)
theorem qw_434 : Cond.methodLink RX4 120 yX2_addNode ∈ wsL_law := tseg_3 (by decide +kernel) (List.mem_of_getElem? (i := 25) rfl)
theorem qw_435 : Cond.instanceMethod yX2_addNode ∈ wsL_law := tseg_3 (by decide +kernel) (List.mem_of_getElem? (i := 26) rfl)
theorem qw_436 : Cond.selects RX2 yX2_addNode yX2_addNode ∈ wsL_law := tseg_3 (by decide +kernel) (List.mem_of_getElem? (i := 27) rfl)
theorem qw_437 : Cond.code yX2_addNode cX2_addNode 4 none ∈ wsL_law := tseg_3 (by decide +kernel) (List.mem_of_getElem? (i := 28) rfl)
theorem qw_438 : Cond.methodLink RX4 124 yX4_isPay ∈ wsL_law := tseg_3 (by decide +kernel) (List.mem_of_getElem? (i := 29) rfl)
theorem qw_439 : Cond.instanceMethod yX4_isPay ∈ wsL_law := tseg_3 (by decide +kernel) (List.mem_of_getElem? (i := 31) rfl)
theorem qw_440 : Cond.selects RX4 yX4_isPay yX4_isPay ∈ wsL_law := List.mem_filter.mpr ⟨List.mem_append_left _ (List.mem_of_getElem? (i := 9) rfl), by decide +kernel⟩
theorem qw_441 : Cond.code yX4_isPay cX4_isPay 1 (some .boolean) ∈ wsL_law := tseg_3 (by decide +kernel) (List.mem_of_getElem? (i := 32) rfl)
theorem qw_442 : Cond.fieldLink RX4 80 "ChanceRings$Net" "kind" "[I" ∈ wsL_law := tseg_1 (by decide +kernel) (List.mem_of_getElem? (i := 66) rfl)
theorem qw_443 : Cond.fieldLink RX4 83 "ChanceRings$Net" "ways" "[I" ∈ wsL_law := tseg_1 (by decide +kernel) (List.mem_of_getElem? (i := 81) rfl)
theorem qw_444 : Cond.methodLink RX4 127 yX2_together ∈ wsL_law := tseg_3 (by decide +kernel) (List.mem_of_getElem? (i := 41) rfl)
theorem qw_445 : Cond.instanceMethod yX2_together ∈ wsL_law := tseg_3 (by decide +kernel) (List.mem_of_getElem? (i := 42) rfl)
theorem qw_446 : Cond.selects RX2 yX2_together yX2_together ∈ wsL_law := tseg_3 (by decide +kernel) (List.mem_of_getElem? (i := 43) rfl)
theorem qw_447 : Cond.code yX2_together cX2_together 4 (some .int) ∈ wsL_law := tseg_3 (by decide +kernel) (List.mem_of_getElem? (i := 44) rfl)
theorem qw_448 : Cond.methodLink RX4 133 yX2_addWay ∈ wsL_law := tseg_3 (by decide +kernel) (List.mem_of_getElem? (i := 49) rfl)
theorem qw_449 : Cond.instanceMethod yX2_addWay ∈ wsL_law := tseg_3 (by decide +kernel) (List.mem_of_getElem? (i := 50) rfl)
theorem qw_450 : Cond.selects RX2 yX2_addWay yX2_addWay ∈ wsL_law := tseg_3 (by decide +kernel) (List.mem_of_getElem? (i := 51) rfl)
theorem qw_451 : Cond.code yX2_addWay cX2_addWay 4 none ∈ wsL_law := tseg_3 (by decide +kernel) (List.mem_of_getElem? (i := 52) rfl)
theorem qw_452 : Cond.methodLink RX4 130 yX4_isWeightFor ∈ wsL_law := tseg_3 (by decide +kernel) (List.mem_of_getElem? (i := 45) rfl)
theorem qw_453 : Cond.instanceMethod yX4_isWeightFor ∈ wsL_law := tseg_3 (by decide +kernel) (List.mem_of_getElem? (i := 47) rfl)
theorem qw_454 : Cond.selects RX4 yX4_isWeightFor yX4_isWeightFor ∈ wsL_law := List.mem_filter.mpr ⟨List.mem_append_left _ (List.mem_of_getElem? (i := 12) rfl), by decide +kernel⟩
theorem qw_455 : Cond.code yX4_isWeightFor cX4_isWeightFor 2 (some .boolean) ∈ wsL_law := tseg_3 (by decide +kernel) (List.mem_of_getElem? (i := 48) rfl)
theorem qw_456 : Cond.methodLink RX4 97 yX4_readStart ∈ wsL_law := tseg_3 (by decide +kernel) (List.mem_of_getElem? (i := 33) rfl)
theorem qw_457 : Cond.instanceMethod yX4_readStart ∈ wsL_law := tseg_3 (by decide +kernel) (List.mem_of_getElem? (i := 35) rfl)
theorem qw_458 : Cond.selects RX4 yX4_readStart yX4_readStart ∈ wsL_law := List.mem_filter.mpr ⟨List.mem_append_left _ (List.mem_of_getElem? (i := 10) rfl), by decide +kernel⟩
theorem qw_459 : Cond.code yX4_readStart cX4_readStart 2 (some .int) ∈ wsL_law := tseg_3 (by decide +kernel) (List.mem_of_getElem? (i := 36) rfl)
theorem qw_460 : Cond.methodLink RX4 101 yX4_readTarget ∈ wsL_law := tseg_3 (by decide +kernel) (List.mem_of_getElem? (i := 37) rfl)
theorem qw_461 : Cond.instanceMethod yX4_readTarget ∈ wsL_law := tseg_3 (by decide +kernel) (List.mem_of_getElem? (i := 39) rfl)
theorem qw_462 : Cond.selects RX4 yX4_readTarget yX4_readTarget ∈ wsL_law := List.mem_filter.mpr ⟨List.mem_append_left _ (List.mem_of_getElem? (i := 11) rfl), by decide +kernel⟩
theorem qw_463 : Cond.code yX4_readTarget cX4_readTarget 6 none ∈ wsL_law := tseg_3 (by decide +kernel) (List.mem_of_getElem? (i := 40) rfl)
theorem qw_464 : Cond.methodLink RX4 93 yX4_readNode ∈ wsL_law := tseg_3 (by decide +kernel) (List.mem_of_getElem? (i := 1) rfl)
theorem qw_465 : Cond.instanceMethod yX4_readNode ∈ wsL_law := tseg_3 (by decide +kernel) (List.mem_of_getElem? (i := 3) rfl)
theorem qw_466 : Cond.selects RX4 yX4_readNode yX4_readNode ∈ wsL_law := List.mem_filter.mpr ⟨List.mem_append_left _ (List.mem_of_getElem? (i := 5) rfl), by decide +kernel⟩
theorem qw_467 : Cond.code yX4_readNode cX4_readNode 3 none ∈ wsL_law := tseg_3 (by decide +kernel) (List.mem_of_getElem? (i := 4) rfl)
theorem qw_468 : Cond.methodLink RX4 73 yX4_lacksWay ∈ wsL_law := tseg_3 (by decide +kernel) (List.mem_of_getElem? (i := 53) rfl)
theorem qw_469 : Cond.instanceMethod yX4_lacksWay ∈ wsL_law := tseg_3 (by decide +kernel) (List.mem_of_getElem? (i := 55) rfl)
theorem qw_470 : Cond.selects RX4 yX4_lacksWay yX4_lacksWay ∈ wsL_law := List.mem_filter.mpr ⟨List.mem_append_left _ (List.mem_of_getElem? (i := 13) rfl), by decide +kernel⟩
theorem qw_471 : Cond.code yX4_lacksWay cX4_lacksWay 2 (some .boolean) ∈ wsL_law := tseg_3 (by decide +kernel) (List.mem_of_getElem? (i := 56) rfl)
theorem qw_472 : Cond.methodLink RX4 70 yX4_readLine ∈ wsL_law := tseg_2 (by decide +kernel) (List.mem_of_getElem? (i := 233) rfl)
theorem qw_473 : Cond.instanceMethod yX4_readLine ∈ wsL_law := tseg_2 (by decide +kernel) (List.mem_of_getElem? (i := 235) rfl)
theorem qw_474 : Cond.selects RX4 yX4_readLine yX4_readLine ∈ wsL_law := List.mem_filter.mpr ⟨List.mem_append_left _ (List.mem_of_getElem? (i := 3) rfl), by decide +kernel⟩
theorem qw_475 : Cond.code yX4_readLine cX4_readLine 3 none ∈ wsL_law := tseg_2 (by decide +kernel) (List.mem_of_getElem? (i := 236) rfl)
theorem dX4_advance_0 : decode cX4_advance 0 = .ok (.aload_n 0, 1) := by decide +kernel
theorem dX4_advance_1 : decode cX4_advance 1 = .ok (.getfield 61, 3) := by decide +kernel
theorem dX4_advance_4 : decode cX4_advance 4 = .ok (.aload_n 0, 1) := by decide +kernel
theorem dX4_advance_5 : decode cX4_advance 5 = .ok (.getfield 9, 3) := by decide +kernel
theorem dX4_advance_8 : decode cX4_advance 8 = .ok (.getfield 52, 3) := by decide +kernel
theorem dX4_advance_11 : decode cX4_advance 11 = .ok (.if_icmp .ge 33, 3) := by decide +kernel
theorem dX4_advance_14 : decode cX4_advance 14 = .ok (.aload_n 0, 1) := by decide +kernel
theorem dX4_advance_15 : decode cX4_advance 15 = .ok (.getfield 9, 3) := by decide +kernel
theorem dX4_advance_18 : decode cX4_advance 18 = .ok (.getfield 136, 3) := by decide +kernel
theorem dX4_advance_21 : decode cX4_advance 21 = .ok (.aload_n 0, 1) := by decide +kernel
theorem dX4_advance_22 : decode cX4_advance 22 = .ok (.getfield 61, 3) := by decide +kernel
theorem dX4_advance_25 : decode cX4_advance 25 = .ok (.iaload, 1) := by decide +kernel
theorem dX4_advance_26 : decode cX4_advance 26 = .ok (.bipush 32, 2) := by decide +kernel
theorem dX4_advance_28 : decode cX4_advance 28 = .ok (.if_icmp .ne 16, 3) := by decide +kernel
theorem dX4_advance_31 : decode cX4_advance 31 = .ok (.aload_n 0, 1) := by decide +kernel
theorem dX4_advance_32 : decode cX4_advance 32 = .ok (.dup, 1) := by decide +kernel
theorem dX4_advance_33 : decode cX4_advance 33 = .ok (.getfield 61, 3) := by decide +kernel
theorem dX4_advance_36 : decode cX4_advance 36 = .ok (.iconst 1, 1) := by decide +kernel
theorem dX4_advance_37 : decode cX4_advance 37 = .ok (.iadd, 1) := by decide +kernel
theorem dX4_advance_38 : decode cX4_advance 38 = .ok (.putfield 61, 3) := by decide +kernel
theorem dX4_advance_41 : decode cX4_advance 41 = .ok (.goto (-41), 3) := by decide +kernel
theorem dX4_advance_44 : decode cX4_advance 44 = .ok (.aload_n 0, 1) := by decide +kernel
theorem dX4_advance_45 : decode cX4_advance 45 = .ok (.aload_n 0, 1) := by decide +kernel
theorem dX4_advance_46 : decode cX4_advance 46 = .ok (.getfield 61, 3) := by decide +kernel
theorem dX4_advance_49 : decode cX4_advance 49 = .ok (.putfield 77, 3) := by decide +kernel
theorem dX4_advance_52 : decode cX4_advance 52 = .ok (.aload_n 0, 1) := by decide +kernel
theorem dX4_advance_53 : decode cX4_advance 53 = .ok (.iconst 0, 1) := by decide +kernel
theorem dX4_advance_54 : decode cX4_advance 54 = .ok (.putfield 86, 3) := by decide +kernel
theorem dX4_advance_57 : decode cX4_advance 57 = .ok (.aload_n 0, 1) := by decide +kernel
theorem dX4_advance_58 : decode cX4_advance 58 = .ok (.getfield 61, 3) := by decide +kernel
theorem dX4_advance_61 : decode cX4_advance 61 = .ok (.aload_n 0, 1) := by decide +kernel
theorem dX4_advance_62 : decode cX4_advance 62 = .ok (.getfield 9, 3) := by decide +kernel
theorem dX4_advance_65 : decode cX4_advance 65 = .ok (.getfield 52, 3) := by decide +kernel
theorem dX4_advance_68 : decode cX4_advance 68 = .ok (.if_icmp .lt 11, 3) := by decide +kernel
theorem dX4_advance_71 : decode cX4_advance 71 = .ok (.aload_n 0, 1) := by decide +kernel
theorem dX4_advance_72 : decode cX4_advance 72 = .ok (.iconst 0, 1) := by decide +kernel
theorem dX4_advance_73 : decode cX4_advance 73 = .ok (.putfield 67, 3) := by decide +kernel
theorem dX4_advance_76 : decode cX4_advance 76 = .ok (.goto 86, 3) := by decide +kernel
theorem dX4_advance_79 : decode cX4_advance 79 = .ok (.aload_n 0, 1) := by decide +kernel
theorem dX4_advance_80 : decode cX4_advance 80 = .ok (.getfield 9, 3) := by decide +kernel
theorem dX4_advance_83 : decode cX4_advance 83 = .ok (.getfield 136, 3) := by decide +kernel
theorem dX4_advance_86 : decode cX4_advance 86 = .ok (.aload_n 0, 1) := by decide +kernel
theorem dX4_advance_87 : decode cX4_advance 87 = .ok (.getfield 61, 3) := by decide +kernel
theorem dX4_advance_90 : decode cX4_advance 90 = .ok (.iaload, 1) := by decide +kernel
theorem dX4_advance_91 : decode cX4_advance 91 = .ok (.bipush 59, 2) := by decide +kernel
theorem dX4_advance_93 : decode cX4_advance 93 = .ok (.if_icmp .ne 21, 3) := by decide +kernel
theorem dX4_advance_96 : decode cX4_advance 96 = .ok (.aload_n 0, 1) := by decide +kernel
theorem dX4_advance_97 : decode cX4_advance 97 = .ok (.iconst 3, 1) := by decide +kernel
theorem dX4_advance_98 : decode cX4_advance 98 = .ok (.putfield 67, 3) := by decide +kernel
theorem dX4_advance_101 : decode cX4_advance 101 = .ok (.aload_n 0, 1) := by decide +kernel
theorem dX4_advance_102 : decode cX4_advance 102 = .ok (.dup, 1) := by decide +kernel
theorem dX4_advance_103 : decode cX4_advance 103 = .ok (.getfield 61, 3) := by decide +kernel
theorem dX4_advance_106 : decode cX4_advance 106 = .ok (.iconst 1, 1) := by decide +kernel
theorem dX4_advance_107 : decode cX4_advance 107 = .ok (.iadd, 1) := by decide +kernel
theorem dX4_advance_108 : decode cX4_advance 108 = .ok (.putfield 61, 3) := by decide +kernel
theorem dX4_advance_111 : decode cX4_advance 111 = .ok (.goto 51, 3) := by decide +kernel
theorem dX4_advance_114 : decode cX4_advance 114 = .ok (.aload_n 0, 1) := by decide +kernel
theorem dX4_advance_115 : decode cX4_advance 115 = .ok (.getfield 9, 3) := by decide +kernel
theorem dX4_advance_118 : decode cX4_advance 118 = .ok (.getfield 136, 3) := by decide +kernel
theorem dX4_advance_121 : decode cX4_advance 121 = .ok (.aload_n 0, 1) := by decide +kernel
theorem dX4_advance_122 : decode cX4_advance 122 = .ok (.getfield 61, 3) := by decide +kernel
theorem dX4_advance_125 : decode cX4_advance 125 = .ok (.iaload, 1) := by decide +kernel
theorem dX4_advance_126 : decode cX4_advance 126 = .ok (.invokestatic 139, 3) := by decide +kernel
theorem dX4_advance_129 : decode cX4_advance 129 = .ok (.ifCond .ne 21, 3) := by decide +kernel
theorem dX4_advance_132 : decode cX4_advance 132 = .ok (.aload_n 0, 1) := by decide +kernel
theorem dX4_advance_133 : decode cX4_advance 133 = .ok (.getfield 9, 3) := by decide +kernel
theorem dX4_advance_136 : decode cX4_advance 136 = .ok (.getfield 136, 3) := by decide +kernel
theorem dX4_advance_139 : decode cX4_advance 139 = .ok (.aload_n 0, 1) := by decide +kernel
theorem dX4_advance_140 : decode cX4_advance 140 = .ok (.getfield 61, 3) := by decide +kernel
theorem dX4_advance_143 : decode cX4_advance 143 = .ok (.iaload, 1) := by decide +kernel
theorem dX4_advance_144 : decode cX4_advance 144 = .ok (.invokestatic 142, 3) := by decide +kernel
theorem dX4_advance_147 : decode cX4_advance 147 = .ok (.ifCond .eq 10, 3) := by decide +kernel
theorem dX4_advance_150 : decode cX4_advance 150 = .ok (.aload_n 0, 1) := by decide +kernel
theorem dX4_advance_151 : decode cX4_advance 151 = .ok (.invokevirtual 145, 3) := by decide +kernel
theorem dX4_advance_154 : decode cX4_advance 154 = .ok (.goto 8, 3) := by decide +kernel
theorem dX4_advance_157 : decode cX4_advance 157 = .ok (.aload_n 0, 1) := by decide +kernel
theorem dX4_advance_158 : decode cX4_advance 158 = .ok (.iconst 4, 1) := by decide +kernel
theorem dX4_advance_159 : decode cX4_advance 159 = .ok (.putfield 67, 3) := by decide +kernel
theorem dX4_advance_162 : decode cX4_advance 162 = .ok (.return_, 1) := by decide +kernel
theorem dX4_fail_0 : decode cX4_fail 0 = .ok (.aload_n 0, 1) := by decide +kernel
theorem dX4_fail_1 : decode cX4_fail 1 = .ok (.iload_n 1, 1) := by decide +kernel
theorem dX4_fail_2 : decode cX4_fail 2 = .ok (.aload_n 0, 1) := by decide +kernel
theorem dX4_fail_3 : decode cX4_fail 3 = .ok (.getfield 77, 3) := by decide +kernel
theorem dX4_fail_6 : decode cX4_fail 6 = .ok (.invokevirtual 57, 3) := by decide +kernel
theorem dX4_fail_9 : decode cX4_fail 9 = .ok (.return_, 1) := by decide +kernel
theorem dX4_failAt_0 : decode cX4_failAt 0 = .ok (.aload_n 0, 1) := by decide +kernel
theorem dX4_failAt_1 : decode cX4_failAt 1 = .ok (.iload_n 1, 1) := by decide +kernel
theorem dX4_failAt_2 : decode cX4_failAt 2 = .ok (.putfield 41, 3) := by decide +kernel
theorem dX4_failAt_5 : decode cX4_failAt 5 = .ok (.aload_n 0, 1) := by decide +kernel
theorem dX4_failAt_6 : decode cX4_failAt 6 = .ok (.iload_n 2, 1) := by decide +kernel
theorem dX4_failAt_7 : decode cX4_failAt 7 = .ok (.putfield 44, 3) := by decide +kernel
theorem dX4_failAt_10 : decode cX4_failAt 10 = .ok (.return_, 1) := by decide +kernel
theorem dX4_isDigit_0 : decode cX4_isDigit 0 = .ok (.iload_n 0, 1) := by decide +kernel
theorem dX4_isDigit_1 : decode cX4_isDigit 1 = .ok (.bipush 48, 2) := by decide +kernel
theorem dX4_isDigit_3 : decode cX4_isDigit 3 = .ok (.if_icmp .lt 13, 3) := by decide +kernel
theorem dX4_isDigit_6 : decode cX4_isDigit 6 = .ok (.iload_n 0, 1) := by decide +kernel
theorem dX4_isDigit_7 : decode cX4_isDigit 7 = .ok (.bipush 57, 2) := by decide +kernel
theorem dX4_isDigit_9 : decode cX4_isDigit 9 = .ok (.if_icmp .gt 7, 3) := by decide +kernel
theorem dX4_isDigit_12 : decode cX4_isDigit 12 = .ok (.iconst 1, 1) := by decide +kernel
theorem dX4_isDigit_13 : decode cX4_isDigit 13 = .ok (.goto 4, 3) := by decide +kernel
theorem dX4_isDigit_16 : decode cX4_isDigit 16 = .ok (.iconst 0, 1) := by decide +kernel
theorem dX4_isDigit_17 : decode cX4_isDigit 17 = .ok (.ireturn, 1) := by decide +kernel
theorem dX4_isFull_0 : decode cX4_isFull 0 = .ok (.aload_n 0, 1) := by decide +kernel
theorem dX4_isFull_1 : decode cX4_isFull 1 = .ok (.getfield 15, 3) := by decide +kernel
theorem dX4_isFull_4 : decode cX4_isFull 4 = .ok (.iconst 0, 1) := by decide +kernel
theorem dX4_isFull_5 : decode cX4_isFull 5 = .ok (.invokevirtual 107, 3) := by decide +kernel
theorem dX4_isFull_8 : decode cX4_isFull 8 = .ok (.istore_n 2, 1) := by decide +kernel
theorem dX4_isFull_9 : decode cX4_isFull 9 = .ok (.iload_n 1, 1) := by decide +kernel
theorem dX4_isFull_10 : decode cX4_isFull 10 = .ok (.ifCond .ne 14, 3) := by decide +kernel
theorem dX4_isFull_13 : decode cX4_isFull 13 = .ok (.iload_n 2, 1) := by decide +kernel
theorem dX4_isFull_14 : decode cX4_isFull 14 = .ok (.iconst 4, 1) := by decide +kernel
theorem dX4_isFull_15 : decode cX4_isFull 15 = .ok (.if_icmp .lt 7, 3) := by decide +kernel
theorem dX4_isFull_18 : decode cX4_isFull 18 = .ok (.iconst 1, 1) := by decide +kernel
theorem dX4_isFull_19 : decode cX4_isFull 19 = .ok (.goto 4, 3) := by decide +kernel
theorem dX4_isFull_22 : decode cX4_isFull 22 = .ok (.iconst 0, 1) := by decide +kernel
theorem dX4_isFull_23 : decode cX4_isFull 23 = .ok (.ireturn, 1) := by decide +kernel
theorem dX4_isFull_24 : decode cX4_isFull 24 = .ok (.aload_n 0, 1) := by decide +kernel
theorem dX4_isFull_25 : decode cX4_isFull 25 = .ok (.getfield 15, 3) := by decide +kernel
theorem dX4_isFull_28 : decode cX4_isFull 28 = .ok (.getfield 47, 3) := by decide +kernel
theorem dX4_isFull_31 : decode cX4_isFull 31 = .ok (.iload_n 2, 1) := by decide +kernel
theorem dX4_isFull_32 : decode cX4_isFull 32 = .ok (.isub, 1) := by decide +kernel
theorem dX4_isFull_33 : decode cX4_isFull 33 = .ok (.bipush 8, 2) := by decide +kernel
theorem dX4_isFull_35 : decode cX4_isFull 35 = .ok (.if_icmp .ge 20, 3) := by decide +kernel
theorem dX4_isFull_38 : decode cX4_isFull 38 = .ok (.iload_n 1, 1) := by decide +kernel
theorem dX4_isFull_39 : decode cX4_isFull 39 = .ok (.iconst 3, 1) := by decide +kernel
theorem dX4_isFull_40 : decode cX4_isFull 40 = .ok (.if_icmp .ne 19, 3) := by decide +kernel
theorem dX4_isFull_43 : decode cX4_isFull 43 = .ok (.aload_n 0, 1) := by decide +kernel
theorem dX4_isFull_44 : decode cX4_isFull 44 = .ok (.getfield 15, 3) := by decide +kernel
theorem dX4_isFull_47 : decode cX4_isFull 47 = .ok (.iconst 3, 1) := by decide +kernel
theorem dX4_isFull_48 : decode cX4_isFull 48 = .ok (.invokevirtual 107, 3) := by decide +kernel
theorem dX4_isFull_51 : decode cX4_isFull 51 = .ok (.iconst 5, 1) := by decide +kernel
theorem dX4_isFull_52 : decode cX4_isFull 52 = .ok (.if_icmp .lt 7, 3) := by decide +kernel
theorem dX4_isFull_55 : decode cX4_isFull 55 = .ok (.iconst 1, 1) := by decide +kernel
theorem dX4_isFull_56 : decode cX4_isFull 56 = .ok (.goto 4, 3) := by decide +kernel
theorem dX4_isFull_59 : decode cX4_isFull 59 = .ok (.iconst 0, 1) := by decide +kernel
theorem dX4_isFull_60 : decode cX4_isFull 60 = .ok (.ireturn, 1) := by decide +kernel
theorem dX4_isLetter_0 : decode cX4_isLetter 0 = .ok (.iload_n 0, 1) := by decide +kernel
theorem dX4_isLetter_1 : decode cX4_isLetter 1 = .ok (.bipush 97, 2) := by decide +kernel
theorem dX4_isLetter_3 : decode cX4_isLetter 3 = .ok (.if_icmp .lt 13, 3) := by decide +kernel
theorem dX4_isLetter_6 : decode cX4_isLetter 6 = .ok (.iload_n 0, 1) := by decide +kernel
theorem dX4_isLetter_7 : decode cX4_isLetter 7 = .ok (.bipush 122, 2) := by decide +kernel
theorem dX4_isLetter_9 : decode cX4_isLetter 9 = .ok (.if_icmp .gt 7, 3) := by decide +kernel
theorem dX4_isLetter_12 : decode cX4_isLetter 12 = .ok (.iconst 1, 1) := by decide +kernel
theorem dX4_isLetter_13 : decode cX4_isLetter 13 = .ok (.goto 4, 3) := by decide +kernel
theorem dX4_isLetter_16 : decode cX4_isLetter 16 = .ok (.iconst 0, 1) := by decide +kernel
theorem dX4_isLetter_17 : decode cX4_isLetter 17 = .ok (.ireturn, 1) := by decide +kernel
theorem dX4_isName_0 : decode cX4_isName 0 = .ok (.aload_n 0, 1) := by decide +kernel
theorem dX4_isName_1 : decode cX4_isName 1 = .ok (.getfield 67, 3) := by decide +kernel
theorem dX4_isName_4 : decode cX4_isName 4 = .ok (.iconst 1, 1) := by decide +kernel
theorem dX4_isName_5 : decode cX4_isName 5 = .ok (.if_icmp .ne 30, 3) := by decide +kernel
theorem dX4_isName_8 : decode cX4_isName 8 = .ok (.aload_n 0, 1) := by decide +kernel
theorem dX4_isName_9 : decode cX4_isName 9 = .ok (.getfield 86, 3) := by decide +kernel
theorem dX4_isName_12 : decode cX4_isName 12 = .ok (.aload_n 0, 1) := by decide +kernel
theorem dX4_isName_13 : decode cX4_isName 13 = .ok (.getfield 37, 3) := by decide +kernel
theorem dX4_isName_16 : decode cX4_isName 16 = .ok (.if_icmp .eq 19, 3) := by decide +kernel
theorem dX4_isName_19 : decode cX4_isName 19 = .ok (.aload_n 0, 1) := by decide +kernel
theorem dX4_isName_20 : decode cX4_isName 20 = .ok (.aload_n 0, 1) := by decide +kernel
theorem dX4_isName_21 : decode cX4_isName 21 = .ok (.getfield 86, 3) := by decide +kernel
theorem dX4_isName_24 : decode cX4_isName 24 = .ok (.invokevirtual 89, 3) := by decide +kernel
theorem dX4_isName_27 : decode cX4_isName 27 = .ok (.iconst (-1), 1) := by decide +kernel
theorem dX4_isName_28 : decode cX4_isName 28 = .ok (.if_icmp .ne 7, 3) := by decide +kernel
theorem dX4_isName_31 : decode cX4_isName 31 = .ok (.iconst 1, 1) := by decide +kernel
theorem dX4_isName_32 : decode cX4_isName 32 = .ok (.goto 4, 3) := by decide +kernel
theorem dX4_isName_35 : decode cX4_isName 35 = .ok (.iconst 0, 1) := by decide +kernel
theorem dX4_isName_36 : decode cX4_isName 36 = .ok (.ireturn, 1) := by decide +kernel
theorem dX4_isPay_0 : decode cX4_isPay 0 = .ok (.aload_n 0, 1) := by decide +kernel
theorem dX4_isPay_1 : decode cX4_isPay 1 = .ok (.getfield 67, 3) := by decide +kernel
theorem dX4_isPay_4 : decode cX4_isPay 4 = .ok (.iconst 2, 1) := by decide +kernel
theorem dX4_isPay_5 : decode cX4_isPay 5 = .ok (.if_icmp .eq 11, 3) := by decide +kernel
theorem dX4_isPay_8 : decode cX4_isPay 8 = .ok (.aload_n 0, 1) := by decide +kernel
theorem dX4_isPay_9 : decode cX4_isPay 9 = .ok (.iconst 1, 1) := by decide +kernel
theorem dX4_isPay_10 : decode cX4_isPay 10 = .ok (.invokevirtual 104, 3) := by decide +kernel
theorem dX4_isPay_13 : decode cX4_isPay 13 = .ok (.goto 17, 3) := by decide +kernel
theorem dX4_isPay_16 : decode cX4_isPay 16 = .ok (.aload_n 0, 1) := by decide +kernel
theorem dX4_isPay_17 : decode cX4_isPay 17 = .ok (.getfield 86, 3) := by decide +kernel
theorem dX4_isPay_20 : decode cX4_isPay 20 = .ok (.bipush 9, 2) := by decide +kernel
theorem dX4_isPay_22 : decode cX4_isPay 22 = .ok (.if_icmp .le 8, 3) := by decide +kernel
theorem dX4_isPay_25 : decode cX4_isPay 25 = .ok (.aload_n 0, 1) := by decide +kernel
theorem dX4_isPay_26 : decode cX4_isPay 26 = .ok (.iconst 2, 1) := by decide +kernel
theorem dX4_isPay_27 : decode cX4_isPay 27 = .ok (.invokevirtual 104, 3) := by decide +kernel
theorem dX4_isPay_30 : decode cX4_isPay 30 = .ok (.aload_n 0, 1) := by decide +kernel
theorem dX4_isPay_31 : decode cX4_isPay 31 = .ok (.getfield 41, 3) := by decide +kernel
theorem dX4_isPay_34 : decode cX4_isPay 34 = .ok (.ifCond .ne 7, 3) := by decide +kernel
theorem dX4_isPay_37 : decode cX4_isPay 37 = .ok (.iconst 1, 1) := by decide +kernel
theorem dX4_isPay_38 : decode cX4_isPay 38 = .ok (.goto 4, 3) := by decide +kernel
theorem dX4_isPay_41 : decode cX4_isPay 41 = .ok (.iconst 0, 1) := by decide +kernel
theorem dX4_isPay_42 : decode cX4_isPay 42 = .ok (.ireturn, 1) := by decide +kernel
theorem dX4_isWeightFor_0 : decode cX4_isWeightFor 0 = .ok (.aload_n 0, 1) := by decide +kernel
theorem dX4_isWeightFor_1 : decode cX4_isWeightFor 1 = .ok (.getfield 15, 3) := by decide +kernel
theorem dX4_isWeightFor_4 : decode cX4_isWeightFor 4 = .ok (.getfield 80, 3) := by decide +kernel
theorem dX4_isWeightFor_7 : decode cX4_isWeightFor 7 = .ok (.iload_n 1, 1) := by decide +kernel
theorem dX4_isWeightFor_8 : decode cX4_isWeightFor 8 = .ok (.iaload, 1) := by decide +kernel
theorem dX4_isWeightFor_9 : decode cX4_isWeightFor 9 = .ok (.iconst 3, 1) := by decide +kernel
theorem dX4_isWeightFor_10 : decode cX4_isWeightFor 10 = .ok (.if_icmp .eq 11, 3) := by decide +kernel
theorem dX4_isWeightFor_13 : decode cX4_isWeightFor 13 = .ok (.aload_n 0, 1) := by decide +kernel
theorem dX4_isWeightFor_14 : decode cX4_isWeightFor 14 = .ok (.iconst 1, 1) := by decide +kernel
theorem dX4_isWeightFor_15 : decode cX4_isWeightFor 15 = .ok (.invokevirtual 104, 3) := by decide +kernel
theorem dX4_isWeightFor_18 : decode cX4_isWeightFor 18 = .ok (.goto 49, 3) := by decide +kernel
theorem dX4_isWeightFor_21 : decode cX4_isWeightFor 21 = .ok (.aload_n 0, 1) := by decide +kernel
theorem dX4_isWeightFor_22 : decode cX4_isWeightFor 22 = .ok (.getfield 86, 3) := by decide +kernel
theorem dX4_isWeightFor_25 : decode cX4_isWeightFor 25 = .ok (.iconst 1, 1) := by decide +kernel
theorem dX4_isWeightFor_26 : decode cX4_isWeightFor 26 = .ok (.if_icmp .lt 11, 3) := by decide +kernel
theorem dX4_isWeightFor_29 : decode cX4_isWeightFor 29 = .ok (.aload_n 0, 1) := by decide +kernel
theorem dX4_isWeightFor_30 : decode cX4_isWeightFor 30 = .ok (.getfield 86, 3) := by decide +kernel
theorem dX4_isWeightFor_33 : decode cX4_isWeightFor 33 = .ok (.iconst 3, 1) := by decide +kernel
theorem dX4_isWeightFor_34 : decode cX4_isWeightFor 34 = .ok (.if_icmp .le 11, 3) := by decide +kernel
theorem dX4_isWeightFor_37 : decode cX4_isWeightFor 37 = .ok (.aload_n 0, 1) := by decide +kernel
theorem dX4_isWeightFor_38 : decode cX4_isWeightFor 38 = .ok (.iconst 2, 1) := by decide +kernel
theorem dX4_isWeightFor_39 : decode cX4_isWeightFor 39 = .ok (.invokevirtual 104, 3) := by decide +kernel
theorem dX4_isWeightFor_42 : decode cX4_isWeightFor 42 = .ok (.goto 25, 3) := by decide +kernel
theorem dX4_isWeightFor_45 : decode cX4_isWeightFor 45 = .ok (.aload_n 0, 1) := by decide +kernel
theorem dX4_isWeightFor_46 : decode cX4_isWeightFor 46 = .ok (.getfield 15, 3) := by decide +kernel
theorem dX4_isWeightFor_49 : decode cX4_isWeightFor 49 = .ok (.iload_n 1, 1) := by decide +kernel
theorem dX4_isWeightFor_50 : decode cX4_isWeightFor 50 = .ok (.invokevirtual 127, 3) := by decide +kernel
theorem dX4_isWeightFor_53 : decode cX4_isWeightFor 53 = .ok (.aload_n 0, 1) := by decide +kernel
theorem dX4_isWeightFor_54 : decode cX4_isWeightFor 54 = .ok (.getfield 86, 3) := by decide +kernel
theorem dX4_isWeightFor_57 : decode cX4_isWeightFor 57 = .ok (.iadd, 1) := by decide +kernel
theorem dX4_isWeightFor_58 : decode cX4_isWeightFor 58 = .ok (.iconst 4, 1) := by decide +kernel
theorem dX4_isWeightFor_59 : decode cX4_isWeightFor 59 = .ok (.if_icmp .le 8, 3) := by decide +kernel
theorem dX4_isWeightFor_62 : decode cX4_isWeightFor 62 = .ok (.aload_n 0, 1) := by decide +kernel
theorem dX4_isWeightFor_63 : decode cX4_isWeightFor 63 = .ok (.iconst 2, 1) := by decide +kernel
theorem dX4_isWeightFor_64 : decode cX4_isWeightFor 64 = .ok (.invokevirtual 104, 3) := by decide +kernel
theorem dX4_isWeightFor_67 : decode cX4_isWeightFor 67 = .ok (.aload_n 0, 1) := by decide +kernel
theorem dX4_isWeightFor_68 : decode cX4_isWeightFor 68 = .ok (.getfield 41, 3) := by decide +kernel
theorem dX4_isWeightFor_71 : decode cX4_isWeightFor 71 = .ok (.ifCond .ne 7, 3) := by decide +kernel
theorem dX4_isWeightFor_74 : decode cX4_isWeightFor 74 = .ok (.iconst 1, 1) := by decide +kernel
theorem dX4_isWeightFor_75 : decode cX4_isWeightFor 75 = .ok (.goto 4, 3) := by decide +kernel
theorem dX4_isWeightFor_78 : decode cX4_isWeightFor 78 = .ok (.iconst 0, 1) := by decide +kernel
theorem dX4_isWeightFor_79 : decode cX4_isWeightFor 79 = .ok (.ireturn, 1) := by decide +kernel
theorem dX4_kindOf_0 : decode cX4_kindOf 0 = .ok (.iconst 0, 1) := by decide +kernel
theorem dX4_kindOf_1 : decode cX4_kindOf 1 = .ok (.istore_n 2, 1) := by decide +kernel
theorem dX4_kindOf_2 : decode cX4_kindOf 2 = .ok (.iload_n 2, 1) := by decide +kernel
theorem dX4_kindOf_3 : decode cX4_kindOf 3 = .ok (.iconst 3, 1) := by decide +kernel
theorem dX4_kindOf_4 : decode cX4_kindOf 4 = .ok (.if_icmp .gt 21, 3) := by decide +kernel
theorem dX4_kindOf_7 : decode cX4_kindOf 7 = .ok (.aload_n 0, 1) := by decide +kernel
theorem dX4_kindOf_8 : decode cX4_kindOf 8 = .ok (.getfield 31, 3) := by decide +kernel
theorem dX4_kindOf_11 : decode cX4_kindOf 11 = .ok (.iload_n 2, 1) := by decide +kernel
theorem dX4_kindOf_12 : decode cX4_kindOf 12 = .ok (.iaload, 1) := by decide +kernel
theorem dX4_kindOf_13 : decode cX4_kindOf 13 = .ok (.iload_n 1, 1) := by decide +kernel
theorem dX4_kindOf_14 : decode cX4_kindOf 14 = .ok (.if_icmp .ne 5, 3) := by decide +kernel
theorem dX4_kindOf_17 : decode cX4_kindOf 17 = .ok (.iload_n 2, 1) := by decide +kernel
theorem dX4_kindOf_18 : decode cX4_kindOf 18 = .ok (.ireturn, 1) := by decide +kernel
theorem dX4_kindOf_19 : decode cX4_kindOf 19 = .ok (.iinc 2 1, 3) := by decide +kernel
theorem dX4_kindOf_22 : decode cX4_kindOf 22 = .ok (.goto (-20), 3) := by decide +kernel
theorem dX4_kindOf_25 : decode cX4_kindOf 25 = .ok (.iconst (-1), 1) := by decide +kernel
theorem dX4_kindOf_26 : decode cX4_kindOf 26 = .ok (.ireturn, 1) := by decide +kernel
theorem dX4_lacksWay_0 : decode cX4_lacksWay 0 = .ok (.iconst 0, 1) := by decide +kernel
theorem dX4_lacksWay_1 : decode cX4_lacksWay 1 = .ok (.istore_n 1, 1) := by decide +kernel
theorem dX4_lacksWay_2 : decode cX4_lacksWay 2 = .ok (.iload_n 1, 1) := by decide +kernel
theorem dX4_lacksWay_3 : decode cX4_lacksWay 3 = .ok (.aload_n 0, 1) := by decide +kernel
theorem dX4_lacksWay_4 : decode cX4_lacksWay 4 = .ok (.getfield 15, 3) := by decide +kernel
theorem dX4_lacksWay_7 : decode cX4_lacksWay 7 = .ok (.getfield 47, 3) := by decide +kernel
theorem dX4_lacksWay_10 : decode cX4_lacksWay 10 = .ok (.if_icmp .ge 35, 3) := by decide +kernel
theorem dX4_lacksWay_13 : decode cX4_lacksWay 13 = .ok (.aload_n 0, 1) := by decide +kernel
theorem dX4_lacksWay_14 : decode cX4_lacksWay 14 = .ok (.getfield 15, 3) := by decide +kernel
theorem dX4_lacksWay_17 : decode cX4_lacksWay 17 = .ok (.getfield 80, 3) := by decide +kernel
theorem dX4_lacksWay_20 : decode cX4_lacksWay 20 = .ok (.iload_n 1, 1) := by decide +kernel
theorem dX4_lacksWay_21 : decode cX4_lacksWay 21 = .ok (.iaload, 1) := by decide +kernel
theorem dX4_lacksWay_22 : decode cX4_lacksWay 22 = .ok (.ifCond .eq 17, 3) := by decide +kernel
theorem dX4_lacksWay_25 : decode cX4_lacksWay 25 = .ok (.aload_n 0, 1) := by decide +kernel
theorem dX4_lacksWay_26 : decode cX4_lacksWay 26 = .ok (.getfield 15, 3) := by decide +kernel
theorem dX4_lacksWay_29 : decode cX4_lacksWay 29 = .ok (.getfield 83, 3) := by decide +kernel
theorem dX4_lacksWay_32 : decode cX4_lacksWay 32 = .ok (.iload_n 1, 1) := by decide +kernel
theorem dX4_lacksWay_33 : decode cX4_lacksWay 33 = .ok (.iaload, 1) := by decide +kernel
theorem dX4_lacksWay_34 : decode cX4_lacksWay 34 = .ok (.ifCond .ne 5, 3) := by decide +kernel
theorem dX4_lacksWay_37 : decode cX4_lacksWay 37 = .ok (.iconst 1, 1) := by decide +kernel
theorem dX4_lacksWay_38 : decode cX4_lacksWay 38 = .ok (.ireturn, 1) := by decide +kernel
theorem dX4_lacksWay_39 : decode cX4_lacksWay 39 = .ok (.iinc 1 1, 3) := by decide +kernel
theorem dX4_lacksWay_42 : decode cX4_lacksWay 42 = .ok (.goto (-40), 3) := by decide +kernel
theorem dX4_lacksWay_45 : decode cX4_lacksWay 45 = .ok (.iconst 0, 1) := by decide +kernel
theorem dX4_lacksWay_46 : decode cX4_lacksWay 46 = .ok (.ireturn, 1) := by decide +kernel
theorem dX4_read_0 : decode cX4_read 0 = .ok (.aload_n 0, 1) := by decide +kernel
theorem dX4_read_1 : decode cX4_read 1 = .ok (.iconst 0, 1) := by decide +kernel
theorem dX4_read_2 : decode cX4_read 2 = .ok (.putfield 41, 3) := by decide +kernel
theorem dX4_read_5 : decode cX4_read 5 = .ok (.aload_n 0, 1) := by decide +kernel
theorem dX4_read_6 : decode cX4_read 6 = .ok (.iconst 0, 1) := by decide +kernel
theorem dX4_read_7 : decode cX4_read 7 = .ok (.putfield 44, 3) := by decide +kernel
theorem dX4_read_10 : decode cX4_read 10 = .ok (.aload_n 0, 1) := by decide +kernel
theorem dX4_read_11 : decode cX4_read 11 = .ok (.getfield 15, 3) := by decide +kernel
theorem dX4_read_14 : decode cX4_read 14 = .ok (.iconst 0, 1) := by decide +kernel
theorem dX4_read_15 : decode cX4_read 15 = .ok (.putfield 47, 3) := by decide +kernel
theorem dX4_read_18 : decode cX4_read 18 = .ok (.aload_n 0, 1) := by decide +kernel
theorem dX4_read_19 : decode cX4_read 19 = .ok (.getfield 9, 3) := by decide +kernel
theorem dX4_read_22 : decode cX4_read 22 = .ok (.getfield 52, 3) := by decide +kernel
theorem dX4_read_25 : decode cX4_read 25 = .ok (.sipush 400, 3) := by decide +kernel
theorem dX4_read_28 : decode cX4_read 28 = .ok (.if_icmp .le 12, 3) := by decide +kernel
theorem dX4_read_31 : decode cX4_read 31 = .ok (.aload_n 0, 1) := by decide +kernel
theorem dX4_read_32 : decode cX4_read 32 = .ok (.iconst 1, 1) := by decide +kernel
theorem dX4_read_33 : decode cX4_read 33 = .ok (.sipush 400, 3) := by decide +kernel
theorem dX4_read_36 : decode cX4_read 36 = .ok (.invokevirtual 57, 3) := by decide +kernel
theorem dX4_read_39 : decode cX4_read 39 = .ok (.return_, 1) := by decide +kernel
theorem dX4_read_40 : decode cX4_read 40 = .ok (.aload_n 0, 1) := by decide +kernel
theorem dX4_read_41 : decode cX4_read 41 = .ok (.iconst 0, 1) := by decide +kernel
theorem dX4_read_42 : decode cX4_read 42 = .ok (.putfield 61, 3) := by decide +kernel
theorem dX4_read_45 : decode cX4_read 45 = .ok (.aload_n 0, 1) := by decide +kernel
theorem dX4_read_46 : decode cX4_read 46 = .ok (.invokevirtual 64, 3) := by decide +kernel
theorem dX4_read_49 : decode cX4_read 49 = .ok (.iconst 0, 1) := by decide +kernel
theorem dX4_read_50 : decode cX4_read 50 = .ok (.istore_n 1, 1) := by decide +kernel
theorem dX4_read_51 : decode cX4_read 51 = .ok (.iload_n 1, 1) := by decide +kernel
theorem dX4_read_52 : decode cX4_read 52 = .ok (.sipush 400, 3) := by decide +kernel
theorem dX4_read_55 : decode cX4_read 55 = .ok (.if_icmp .gt 27, 3) := by decide +kernel
theorem dX4_read_58 : decode cX4_read 58 = .ok (.aload_n 0, 1) := by decide +kernel
theorem dX4_read_59 : decode cX4_read 59 = .ok (.getfield 67, 3) := by decide +kernel
theorem dX4_read_62 : decode cX4_read 62 = .ok (.ifCond .eq 20, 3) := by decide +kernel
theorem dX4_read_65 : decode cX4_read 65 = .ok (.aload_n 0, 1) := by decide +kernel
theorem dX4_read_66 : decode cX4_read 66 = .ok (.getfield 41, 3) := by decide +kernel
theorem dX4_read_69 : decode cX4_read 69 = .ok (.ifCond .ne 13, 3) := by decide +kernel
theorem dX4_read_72 : decode cX4_read 72 = .ok (.aload_n 0, 1) := by decide +kernel
theorem dX4_read_73 : decode cX4_read 73 = .ok (.invokevirtual 70, 3) := by decide +kernel
theorem dX4_read_76 : decode cX4_read 76 = .ok (.iinc 1 1, 3) := by decide +kernel
theorem dX4_read_79 : decode cX4_read 79 = .ok (.goto (-28), 3) := by decide +kernel
theorem dX4_read_82 : decode cX4_read 82 = .ok (.aload_n 0, 1) := by decide +kernel
theorem dX4_read_83 : decode cX4_read 83 = .ok (.getfield 41, 3) := by decide +kernel
theorem dX4_read_86 : decode cX4_read 86 = .ok (.ifCond .ne 22, 3) := by decide +kernel
theorem dX4_read_89 : decode cX4_read 89 = .ok (.aload_n 0, 1) := by decide +kernel
theorem dX4_read_90 : decode cX4_read 90 = .ok (.invokevirtual 73, 3) := by decide +kernel
theorem dX4_read_93 : decode cX4_read 93 = .ok (.ifCond .eq 15, 3) := by decide +kernel
theorem dX4_read_96 : decode cX4_read 96 = .ok (.aload_n 0, 1) := by decide +kernel
theorem dX4_read_97 : decode cX4_read 97 = .ok (.iconst 5, 1) := by decide +kernel
theorem dX4_read_98 : decode cX4_read 98 = .ok (.aload_n 0, 1) := by decide +kernel
theorem dX4_read_99 : decode cX4_read 99 = .ok (.getfield 9, 3) := by decide +kernel
theorem dX4_read_102 : decode cX4_read 102 = .ok (.getfield 52, 3) := by decide +kernel
theorem dX4_read_105 : decode cX4_read 105 = .ok (.invokevirtual 57, 3) := by decide +kernel
theorem dX4_read_108 : decode cX4_read 108 = .ok (.return_, 1) := by decide +kernel
theorem dX4_readLine_0 : decode cX4_readLine 0 = .ok (.aload_n 0, 1) := by decide +kernel
theorem dX4_readLine_1 : decode cX4_readLine 1 = .ok (.getfield 67, 3) := by decide +kernel
theorem dX4_readLine_4 : decode cX4_readLine 4 = .ok (.iconst 1, 1) := by decide +kernel
theorem dX4_readLine_5 : decode cX4_readLine 5 = .ok (.if_icmp .ne 14, 3) := by decide +kernel
theorem dX4_readLine_8 : decode cX4_readLine 8 = .ok (.aload_n 0, 1) := by decide +kernel
theorem dX4_readLine_9 : decode cX4_readLine 9 = .ok (.aload_n 0, 1) := by decide +kernel
theorem dX4_readLine_10 : decode cX4_readLine 10 = .ok (.getfield 86, 3) := by decide +kernel
theorem dX4_readLine_13 : decode cX4_readLine 13 = .ok (.invokevirtual 89, 3) := by decide +kernel
theorem dX4_readLine_16 : decode cX4_readLine 16 = .ok (.goto 4, 3) := by decide +kernel
theorem dX4_readLine_19 : decode cX4_readLine 19 = .ok (.iconst (-1), 1) := by decide +kernel
theorem dX4_readLine_20 : decode cX4_readLine 20 = .ok (.istore_n 1, 1) := by decide +kernel
theorem dX4_readLine_21 : decode cX4_readLine 21 = .ok (.iload_n 1, 1) := by decide +kernel
theorem dX4_readLine_22 : decode cX4_readLine 22 = .ok (.iconst (-1), 1) := by decide +kernel
theorem dX4_readLine_23 : decode cX4_readLine 23 = .ok (.if_icmp .eq 11, 3) := by decide +kernel
theorem dX4_readLine_26 : decode cX4_readLine 26 = .ok (.aload_n 0, 1) := by decide +kernel
theorem dX4_readLine_27 : decode cX4_readLine 27 = .ok (.iload_n 1, 1) := by decide +kernel
theorem dX4_readLine_28 : decode cX4_readLine 28 = .ok (.invokevirtual 93, 3) := by decide +kernel
theorem dX4_readLine_31 : decode cX4_readLine 31 = .ok (.goto 45, 3) := by decide +kernel
theorem dX4_readLine_34 : decode cX4_readLine 34 = .ok (.aload_n 0, 1) := by decide +kernel
theorem dX4_readLine_35 : decode cX4_readLine 35 = .ok (.getfield 67, 3) := by decide +kernel
theorem dX4_readLine_38 : decode cX4_readLine 38 = .ok (.iconst 1, 1) := by decide +kernel
theorem dX4_readLine_39 : decode cX4_readLine 39 = .ok (.if_icmp .ne 32, 3) := by decide +kernel
theorem dX4_readLine_42 : decode cX4_readLine 42 = .ok (.aload_n 0, 1) := by decide +kernel
theorem dX4_readLine_43 : decode cX4_readLine 43 = .ok (.getfield 86, 3) := by decide +kernel
theorem dX4_readLine_46 : decode cX4_readLine 46 = .ok (.aload_n 0, 1) := by decide +kernel
theorem dX4_readLine_47 : decode cX4_readLine 47 = .ok (.getfield 37, 3) := by decide +kernel
theorem dX4_readLine_50 : decode cX4_readLine 50 = .ok (.if_icmp .ne 21, 3) := by decide +kernel
theorem dX4_readLine_53 : decode cX4_readLine 53 = .ok (.aload_n 0, 1) := by decide +kernel
theorem dX4_readLine_54 : decode cX4_readLine 54 = .ok (.invokevirtual 97, 3) := by decide +kernel
theorem dX4_readLine_57 : decode cX4_readLine 57 = .ok (.istore_n 2, 1) := by decide +kernel
theorem dX4_readLine_58 : decode cX4_readLine 58 = .ok (.iload_n 2, 1) := by decide +kernel
theorem dX4_readLine_59 : decode cX4_readLine 59 = .ok (.iconst (-1), 1) := by decide +kernel
theorem dX4_readLine_60 : decode cX4_readLine 60 = .ok (.if_icmp .eq 8, 3) := by decide +kernel
theorem dX4_readLine_63 : decode cX4_readLine 63 = .ok (.aload_n 0, 1) := by decide +kernel
theorem dX4_readLine_64 : decode cX4_readLine 64 = .ok (.iload_n 2, 1) := by decide +kernel
theorem dX4_readLine_65 : decode cX4_readLine 65 = .ok (.invokevirtual 101, 3) := by decide +kernel
theorem dX4_readLine_68 : decode cX4_readLine 68 = .ok (.goto 8, 3) := by decide +kernel
theorem dX4_readLine_71 : decode cX4_readLine 71 = .ok (.aload_n 0, 1) := by decide +kernel
theorem dX4_readLine_72 : decode cX4_readLine 72 = .ok (.iconst 1, 1) := by decide +kernel
theorem dX4_readLine_73 : decode cX4_readLine 73 = .ok (.invokevirtual 104, 3) := by decide +kernel
theorem dX4_readLine_76 : decode cX4_readLine 76 = .ok (.aload_n 0, 1) := by decide +kernel
theorem dX4_readLine_77 : decode cX4_readLine 77 = .ok (.getfield 41, 3) := by decide +kernel
theorem dX4_readLine_80 : decode cX4_readLine 80 = .ok (.ifCond .ne 16, 3) := by decide +kernel
theorem dX4_readLine_83 : decode cX4_readLine 83 = .ok (.aload_n 0, 1) := by decide +kernel
theorem dX4_readLine_84 : decode cX4_readLine 84 = .ok (.getfield 67, 3) := by decide +kernel
theorem dX4_readLine_87 : decode cX4_readLine 87 = .ok (.iconst 3, 1) := by decide +kernel
theorem dX4_readLine_88 : decode cX4_readLine 88 = .ok (.if_icmp .eq 8, 3) := by decide +kernel
theorem dX4_readLine_91 : decode cX4_readLine 91 = .ok (.aload_n 0, 1) := by decide +kernel
theorem dX4_readLine_92 : decode cX4_readLine 92 = .ok (.iconst 1, 1) := by decide +kernel
theorem dX4_readLine_93 : decode cX4_readLine 93 = .ok (.invokevirtual 104, 3) := by decide +kernel
theorem dX4_readLine_96 : decode cX4_readLine 96 = .ok (.aload_n 0, 1) := by decide +kernel
theorem dX4_readLine_97 : decode cX4_readLine 97 = .ok (.getfield 41, 3) := by decide +kernel
theorem dX4_readLine_100 : decode cX4_readLine 100 = .ok (.ifCond .ne 7, 3) := by decide +kernel
theorem dX4_readLine_103 : decode cX4_readLine 103 = .ok (.aload_n 0, 1) := by decide +kernel
theorem dX4_readLine_104 : decode cX4_readLine 104 = .ok (.invokevirtual 64, 3) := by decide +kernel
theorem dX4_readLine_107 : decode cX4_readLine 107 = .ok (.return_, 1) := by decide +kernel
theorem dX4_readNode_0 : decode cX4_readNode 0 = .ok (.aload_n 0, 1) := by decide +kernel
theorem dX4_readNode_1 : decode cX4_readNode 1 = .ok (.iload_n 1, 1) := by decide +kernel
theorem dX4_readNode_2 : decode cX4_readNode 2 = .ok (.invokevirtual 110, 3) := by decide +kernel
theorem dX4_readNode_5 : decode cX4_readNode 5 = .ok (.ifCond .eq 9, 3) := by decide +kernel
theorem dX4_readNode_8 : decode cX4_readNode 8 = .ok (.aload_n 0, 1) := by decide +kernel
theorem dX4_readNode_9 : decode cX4_readNode 9 = .ok (.iconst 4, 1) := by decide +kernel
theorem dX4_readNode_10 : decode cX4_readNode 10 = .ok (.invokevirtual 104, 3) := by decide +kernel
theorem dX4_readNode_13 : decode cX4_readNode 13 = .ok (.return_, 1) := by decide +kernel
theorem dX4_readNode_14 : decode cX4_readNode 14 = .ok (.aload_n 0, 1) := by decide +kernel
theorem dX4_readNode_15 : decode cX4_readNode 15 = .ok (.invokevirtual 64, 3) := by decide +kernel
theorem dX4_readNode_18 : decode cX4_readNode 18 = .ok (.aload_n 0, 1) := by decide +kernel
theorem dX4_readNode_19 : decode cX4_readNode 19 = .ok (.getfield 86, 3) := by decide +kernel
theorem dX4_readNode_22 : decode cX4_readNode 22 = .ok (.istore_n 2, 1) := by decide +kernel
theorem dX4_readNode_23 : decode cX4_readNode 23 = .ok (.aload_n 0, 1) := by decide +kernel
theorem dX4_readNode_24 : decode cX4_readNode 24 = .ok (.invokevirtual 114, 3) := by decide +kernel
theorem dX4_readNode_27 : decode cX4_readNode 27 = .ok (.ifCond .ne 11, 3) := by decide +kernel
theorem dX4_readNode_30 : decode cX4_readNode 30 = .ok (.aload_n 0, 1) := by decide +kernel
theorem dX4_readNode_31 : decode cX4_readNode 31 = .ok (.iconst 1, 1) := by decide +kernel
theorem dX4_readNode_32 : decode cX4_readNode 32 = .ok (.invokevirtual 104, 3) := by decide +kernel
theorem dX4_readNode_35 : decode cX4_readNode 35 = .ok (.goto 63, 3) := by decide +kernel
theorem dX4_readNode_38 : decode cX4_readNode 38 = .ok (.aload_n 0, 1) := by decide +kernel
theorem dX4_readNode_39 : decode cX4_readNode 39 = .ok (.getfield 15, 3) := by decide +kernel
theorem dX4_readNode_42 : decode cX4_readNode 42 = .ok (.iload_n 2, 1) := by decide +kernel
theorem dX4_readNode_43 : decode cX4_readNode 43 = .ok (.invokevirtual 117, 3) := by decide +kernel
theorem dX4_readNode_46 : decode cX4_readNode 46 = .ok (.iconst (-1), 1) := by decide +kernel
theorem dX4_readNode_47 : decode cX4_readNode 47 = .ok (.if_icmp .eq 11, 3) := by decide +kernel
theorem dX4_readNode_50 : decode cX4_readNode 50 = .ok (.aload_n 0, 1) := by decide +kernel
theorem dX4_readNode_51 : decode cX4_readNode 51 = .ok (.iconst 3, 1) := by decide +kernel
theorem dX4_readNode_52 : decode cX4_readNode 52 = .ok (.invokevirtual 104, 3) := by decide +kernel
theorem dX4_readNode_55 : decode cX4_readNode 55 = .ok (.goto 43, 3) := by decide +kernel
theorem dX4_readNode_58 : decode cX4_readNode 58 = .ok (.aload_n 0, 1) := by decide +kernel
theorem dX4_readNode_59 : decode cX4_readNode 59 = .ok (.invokevirtual 64, 3) := by decide +kernel
theorem dX4_readNode_62 : decode cX4_readNode 62 = .ok (.aload_n 0, 1) := by decide +kernel
theorem dX4_readNode_63 : decode cX4_readNode 63 = .ok (.getfield 15, 3) := by decide +kernel
theorem dX4_readNode_66 : decode cX4_readNode 66 = .ok (.iload_n 1, 1) := by decide +kernel
theorem dX4_readNode_67 : decode cX4_readNode 67 = .ok (.iload_n 2, 1) := by decide +kernel
theorem dX4_readNode_68 : decode cX4_readNode 68 = .ok (.iload_n 1, 1) := by decide +kernel
theorem dX4_readNode_69 : decode cX4_readNode 69 = .ok (.ifCond .ne 10, 3) := by decide +kernel
theorem dX4_readNode_72 : decode cX4_readNode 72 = .ok (.aload_n 0, 1) := by decide +kernel
theorem dX4_readNode_73 : decode cX4_readNode 73 = .ok (.getfield 86, 3) := by decide +kernel
theorem dX4_readNode_76 : decode cX4_readNode 76 = .ok (.goto 4, 3) := by decide +kernel
theorem dX4_readNode_79 : decode cX4_readNode 79 = .ok (.iconst 0, 1) := by decide +kernel
theorem dX4_readNode_80 : decode cX4_readNode 80 = .ok (.invokevirtual 120, 3) := by decide +kernel
theorem dX4_readNode_83 : decode cX4_readNode 83 = .ok (.iload_n 1, 1) := by decide +kernel
theorem dX4_readNode_84 : decode cX4_readNode 84 = .ok (.ifCond .ne 14, 3) := by decide +kernel
theorem dX4_readNode_87 : decode cX4_readNode 87 = .ok (.aload_n 0, 1) := by decide +kernel
theorem dX4_readNode_88 : decode cX4_readNode 88 = .ok (.invokevirtual 124, 3) := by decide +kernel
theorem dX4_readNode_91 : decode cX4_readNode 91 = .ok (.ifCond .eq 7, 3) := by decide +kernel
theorem dX4_readNode_94 : decode cX4_readNode 94 = .ok (.aload_n 0, 1) := by decide +kernel
theorem dX4_readNode_95 : decode cX4_readNode 95 = .ok (.invokevirtual 64, 3) := by decide +kernel
theorem dX4_readNode_98 : decode cX4_readNode 98 = .ok (.return_, 1) := by decide +kernel
theorem dX4_readStart_0 : decode cX4_readStart 0 = .ok (.aload_n 0, 1) := by decide +kernel
theorem dX4_readStart_1 : decode cX4_readStart 1 = .ok (.invokevirtual 64, 3) := by decide +kernel
theorem dX4_readStart_4 : decode cX4_readStart 4 = .ok (.aload_n 0, 1) := by decide +kernel
theorem dX4_readStart_5 : decode cX4_readStart 5 = .ok (.invokevirtual 114, 3) := by decide +kernel
theorem dX4_readStart_8 : decode cX4_readStart 8 = .ok (.ifCond .eq 17, 3) := by decide +kernel
theorem dX4_readStart_11 : decode cX4_readStart 11 = .ok (.aload_n 0, 1) := by decide +kernel
theorem dX4_readStart_12 : decode cX4_readStart 12 = .ok (.getfield 15, 3) := by decide +kernel
theorem dX4_readStart_15 : decode cX4_readStart 15 = .ok (.aload_n 0, 1) := by decide +kernel
theorem dX4_readStart_16 : decode cX4_readStart 16 = .ok (.getfield 86, 3) := by decide +kernel
theorem dX4_readStart_19 : decode cX4_readStart 19 = .ok (.invokevirtual 117, 3) := by decide +kernel
theorem dX4_readStart_22 : decode cX4_readStart 22 = .ok (.goto 4, 3) := by decide +kernel
theorem dX4_readStart_25 : decode cX4_readStart 25 = .ok (.iconst (-1), 1) := by decide +kernel
theorem dX4_readStart_26 : decode cX4_readStart 26 = .ok (.istore_n 1, 1) := by decide +kernel
theorem dX4_readStart_27 : decode cX4_readStart 27 = .ok (.aload_n 0, 1) := by decide +kernel
theorem dX4_readStart_28 : decode cX4_readStart 28 = .ok (.invokevirtual 114, 3) := by decide +kernel
theorem dX4_readStart_31 : decode cX4_readStart 31 = .ok (.ifCond .ne 11, 3) := by decide +kernel
theorem dX4_readStart_34 : decode cX4_readStart 34 = .ok (.aload_n 0, 1) := by decide +kernel
theorem dX4_readStart_35 : decode cX4_readStart 35 = .ok (.iconst 1, 1) := by decide +kernel
theorem dX4_readStart_36 : decode cX4_readStart 36 = .ok (.invokevirtual 104, 3) := by decide +kernel
theorem dX4_readStart_39 : decode cX4_readStart 39 = .ok (.goto 46, 3) := by decide +kernel
theorem dX4_readStart_42 : decode cX4_readStart 42 = .ok (.iload_n 1, 1) := by decide +kernel
theorem dX4_readStart_43 : decode cX4_readStart 43 = .ok (.iconst (-1), 1) := by decide +kernel
theorem dX4_readStart_44 : decode cX4_readStart 44 = .ok (.if_icmp .eq 15, 3) := by decide +kernel
theorem dX4_readStart_47 : decode cX4_readStart 47 = .ok (.aload_n 0, 1) := by decide +kernel
theorem dX4_readStart_48 : decode cX4_readStart 48 = .ok (.getfield 15, 3) := by decide +kernel
theorem dX4_readStart_51 : decode cX4_readStart 51 = .ok (.getfield 80, 3) := by decide +kernel
theorem dX4_readStart_54 : decode cX4_readStart 54 = .ok (.iload_n 1, 1) := by decide +kernel
theorem dX4_readStart_55 : decode cX4_readStart 55 = .ok (.iaload, 1) := by decide +kernel
theorem dX4_readStart_56 : decode cX4_readStart 56 = .ok (.ifCond .ne 11, 3) := by decide +kernel
theorem dX4_readStart_59 : decode cX4_readStart 59 = .ok (.aload_n 0, 1) := by decide +kernel
theorem dX4_readStart_60 : decode cX4_readStart 60 = .ok (.iconst 3, 1) := by decide +kernel
theorem dX4_readStart_61 : decode cX4_readStart 61 = .ok (.invokevirtual 104, 3) := by decide +kernel
theorem dX4_readStart_64 : decode cX4_readStart 64 = .ok (.goto 21, 3) := by decide +kernel
theorem dX4_readStart_67 : decode cX4_readStart 67 = .ok (.aload_n 0, 1) := by decide +kernel
theorem dX4_readStart_68 : decode cX4_readStart 68 = .ok (.getfield 15, 3) := by decide +kernel
theorem dX4_readStart_71 : decode cX4_readStart 71 = .ok (.getfield 83, 3) := by decide +kernel
theorem dX4_readStart_74 : decode cX4_readStart 74 = .ok (.iload_n 1, 1) := by decide +kernel
theorem dX4_readStart_75 : decode cX4_readStart 75 = .ok (.iaload, 1) := by decide +kernel
theorem dX4_readStart_76 : decode cX4_readStart 76 = .ok (.iconst 3, 1) := by decide +kernel
theorem dX4_readStart_77 : decode cX4_readStart 77 = .ok (.if_icmp .lt 8, 3) := by decide +kernel
theorem dX4_readStart_80 : decode cX4_readStart 80 = .ok (.aload_n 0, 1) := by decide +kernel
theorem dX4_readStart_81 : decode cX4_readStart 81 = .ok (.iconst 4, 1) := by decide +kernel
theorem dX4_readStart_82 : decode cX4_readStart 82 = .ok (.invokevirtual 104, 3) := by decide +kernel
theorem dX4_readStart_85 : decode cX4_readStart 85 = .ok (.aload_n 0, 1) := by decide +kernel
theorem dX4_readStart_86 : decode cX4_readStart 86 = .ok (.getfield 41, 3) := by decide +kernel
theorem dX4_readStart_89 : decode cX4_readStart 89 = .ok (.ifCond .ne 7, 3) := by decide +kernel
theorem dX4_readStart_92 : decode cX4_readStart 92 = .ok (.iload_n 1, 1) := by decide +kernel
theorem dX4_readStart_93 : decode cX4_readStart 93 = .ok (.goto 4, 3) := by decide +kernel
theorem dX4_readStart_96 : decode cX4_readStart 96 = .ok (.iconst (-1), 1) := by decide +kernel
theorem dX4_readStart_97 : decode cX4_readStart 97 = .ok (.ireturn, 1) := by decide +kernel
theorem dX4_readTarget_0 : decode cX4_readTarget 0 = .ok (.aload_n 0, 1) := by decide +kernel
theorem dX4_readTarget_1 : decode cX4_readTarget 1 = .ok (.invokevirtual 64, 3) := by decide +kernel
theorem dX4_readTarget_4 : decode cX4_readTarget 4 = .ok (.aload_n 0, 1) := by decide +kernel
theorem dX4_readTarget_5 : decode cX4_readTarget 5 = .ok (.invokevirtual 114, 3) := by decide +kernel
theorem dX4_readTarget_8 : decode cX4_readTarget 8 = .ok (.ifCond .ne 9, 3) := by decide +kernel
theorem dX4_readTarget_11 : decode cX4_readTarget 11 = .ok (.aload_n 0, 1) := by decide +kernel
theorem dX4_readTarget_12 : decode cX4_readTarget 12 = .ok (.iconst 1, 1) := by decide +kernel
theorem dX4_readTarget_13 : decode cX4_readTarget 13 = .ok (.invokevirtual 104, 3) := by decide +kernel
theorem dX4_readTarget_16 : decode cX4_readTarget 16 = .ok (.return_, 1) := by decide +kernel
theorem dX4_readTarget_17 : decode cX4_readTarget 17 = .ok (.aload_n 0, 1) := by decide +kernel
theorem dX4_readTarget_18 : decode cX4_readTarget 18 = .ok (.getfield 15, 3) := by decide +kernel
theorem dX4_readTarget_21 : decode cX4_readTarget 21 = .ok (.aload_n 0, 1) := by decide +kernel
theorem dX4_readTarget_22 : decode cX4_readTarget 22 = .ok (.getfield 86, 3) := by decide +kernel
theorem dX4_readTarget_25 : decode cX4_readTarget 25 = .ok (.invokevirtual 117, 3) := by decide +kernel
theorem dX4_readTarget_28 : decode cX4_readTarget 28 = .ok (.istore_n 2, 1) := by decide +kernel
theorem dX4_readTarget_29 : decode cX4_readTarget 29 = .ok (.aload_n 0, 1) := by decide +kernel
theorem dX4_readTarget_30 : decode cX4_readTarget 30 = .ok (.getfield 77, 3) := by decide +kernel
theorem dX4_readTarget_33 : decode cX4_readTarget 33 = .ok (.istore_n 3, 1) := by decide +kernel
theorem dX4_readTarget_34 : decode cX4_readTarget 34 = .ok (.aload_n 0, 1) := by decide +kernel
theorem dX4_readTarget_35 : decode cX4_readTarget 35 = .ok (.invokevirtual 64, 3) := by decide +kernel
theorem dX4_readTarget_38 : decode cX4_readTarget 38 = .ok (.aload_n 0, 1) := by decide +kernel
theorem dX4_readTarget_39 : decode cX4_readTarget 39 = .ok (.getfield 67, 3) := by decide +kernel
theorem dX4_readTarget_42 : decode cX4_readTarget 42 = .ok (.iconst 2, 1) := by decide +kernel
theorem dX4_readTarget_43 : decode cX4_readTarget 43 = .ok (.if_icmp .ne 7, 3) := by decide +kernel
theorem dX4_readTarget_46 : decode cX4_readTarget 46 = .ok (.iconst 1, 1) := by decide +kernel
theorem dX4_readTarget_47 : decode cX4_readTarget 47 = .ok (.goto 4, 3) := by decide +kernel
theorem dX4_readTarget_50 : decode cX4_readTarget 50 = .ok (.iconst 0, 1) := by decide +kernel
theorem dX4_readTarget_51 : decode cX4_readTarget 51 = .ok (.istore 4, 2) := by decide +kernel
theorem dX4_readTarget_53 : decode cX4_readTarget 53 = .ok (.iload 4, 2) := by decide +kernel
theorem dX4_readTarget_55 : decode cX4_readTarget 55 = .ok (.ifCond .ne 39, 3) := by decide +kernel
theorem dX4_readTarget_58 : decode cX4_readTarget 58 = .ok (.aload_n 0, 1) := by decide +kernel
theorem dX4_readTarget_59 : decode cX4_readTarget 59 = .ok (.getfield 15, 3) := by decide +kernel
theorem dX4_readTarget_62 : decode cX4_readTarget 62 = .ok (.getfield 80, 3) := by decide +kernel
theorem dX4_readTarget_65 : decode cX4_readTarget 65 = .ok (.iload_n 1, 1) := by decide +kernel
theorem dX4_readTarget_66 : decode cX4_readTarget 66 = .ok (.iaload, 1) := by decide +kernel
theorem dX4_readTarget_67 : decode cX4_readTarget 67 = .ok (.iconst 3, 1) := by decide +kernel
theorem dX4_readTarget_68 : decode cX4_readTarget 68 = .ok (.if_icmp .ne 26, 3) := by decide +kernel
theorem dX4_readTarget_71 : decode cX4_readTarget 71 = .ok (.aload_n 0, 1) := by decide +kernel
theorem dX4_readTarget_72 : decode cX4_readTarget 72 = .ok (.getfield 15, 3) := by decide +kernel
theorem dX4_readTarget_75 : decode cX4_readTarget 75 = .ok (.iload_n 1, 1) := by decide +kernel
theorem dX4_readTarget_76 : decode cX4_readTarget 76 = .ok (.invokevirtual 127, 3) := by decide +kernel
theorem dX4_readTarget_79 : decode cX4_readTarget 79 = .ok (.iconst 1, 1) := by decide +kernel
theorem dX4_readTarget_80 : decode cX4_readTarget 80 = .ok (.iadd, 1) := by decide +kernel
theorem dX4_readTarget_81 : decode cX4_readTarget 81 = .ok (.iconst 4, 1) := by decide +kernel
theorem dX4_readTarget_82 : decode cX4_readTarget 82 = .ok (.if_icmp .le 12, 3) := by decide +kernel
theorem dX4_readTarget_85 : decode cX4_readTarget 85 = .ok (.aload_n 0, 1) := by decide +kernel
theorem dX4_readTarget_86 : decode cX4_readTarget 86 = .ok (.iconst 2, 1) := by decide +kernel
theorem dX4_readTarget_87 : decode cX4_readTarget 87 = .ok (.iload_n 3, 1) := by decide +kernel
theorem dX4_readTarget_88 : decode cX4_readTarget 88 = .ok (.invokevirtual 57, 3) := by decide +kernel
theorem dX4_readTarget_91 : decode cX4_readTarget 91 = .ok (.goto 60, 3) := by decide +kernel
theorem dX4_readTarget_94 : decode cX4_readTarget 94 = .ok (.iload_n 2, 1) := by decide +kernel
theorem dX4_readTarget_95 : decode cX4_readTarget 95 = .ok (.iconst (-1), 1) := by decide +kernel
theorem dX4_readTarget_96 : decode cX4_readTarget 96 = .ok (.if_icmp .ne 12, 3) := by decide +kernel
theorem dX4_readTarget_99 : decode cX4_readTarget 99 = .ok (.aload_n 0, 1) := by decide +kernel
theorem dX4_readTarget_100 : decode cX4_readTarget 100 = .ok (.iconst 3, 1) := by decide +kernel
theorem dX4_readTarget_101 : decode cX4_readTarget 101 = .ok (.iload_n 3, 1) := by decide +kernel
theorem dX4_readTarget_102 : decode cX4_readTarget 102 = .ok (.invokevirtual 57, 3) := by decide +kernel
theorem dX4_readTarget_105 : decode cX4_readTarget 105 = .ok (.goto 46, 3) := by decide +kernel
theorem dX4_readTarget_108 : decode cX4_readTarget 108 = .ok (.iload 4, 2) := by decide +kernel
theorem dX4_readTarget_110 : decode cX4_readTarget 110 = .ok (.ifCond .eq 10, 3) := by decide +kernel
theorem dX4_readTarget_113 : decode cX4_readTarget 113 = .ok (.aload_n 0, 1) := by decide +kernel
theorem dX4_readTarget_114 : decode cX4_readTarget 114 = .ok (.getfield 86, 3) := by decide +kernel
theorem dX4_readTarget_117 : decode cX4_readTarget 117 = .ok (.goto 4, 3) := by decide +kernel
theorem dX4_readTarget_120 : decode cX4_readTarget 120 = .ok (.iconst 1, 1) := by decide +kernel
theorem dX4_readTarget_121 : decode cX4_readTarget 121 = .ok (.istore 5, 2) := by decide +kernel
theorem dX4_readTarget_123 : decode cX4_readTarget 123 = .ok (.iload 4, 2) := by decide +kernel
theorem dX4_readTarget_125 : decode cX4_readTarget 125 = .ok (.ifCond .eq 15, 3) := by decide +kernel
theorem dX4_readTarget_128 : decode cX4_readTarget 128 = .ok (.aload_n 0, 1) := by decide +kernel
theorem dX4_readTarget_129 : decode cX4_readTarget 129 = .ok (.iload_n 1, 1) := by decide +kernel
theorem dX4_readTarget_130 : decode cX4_readTarget 130 = .ok (.invokevirtual 130, 3) := by decide +kernel
theorem dX4_readTarget_133 : decode cX4_readTarget 133 = .ok (.ifCond .eq 7, 3) := by decide +kernel
theorem dX4_readTarget_136 : decode cX4_readTarget 136 = .ok (.aload_n 0, 1) := by decide +kernel
theorem dX4_readTarget_137 : decode cX4_readTarget 137 = .ok (.invokevirtual 64, 3) := by decide +kernel
theorem dX4_readTarget_140 : decode cX4_readTarget 140 = .ok (.aload_n 0, 1) := by decide +kernel
theorem dX4_readTarget_141 : decode cX4_readTarget 141 = .ok (.getfield 15, 3) := by decide +kernel
theorem dX4_readTarget_144 : decode cX4_readTarget 144 = .ok (.iload_n 1, 1) := by decide +kernel
theorem dX4_readTarget_145 : decode cX4_readTarget 145 = .ok (.iload_n 2, 1) := by decide +kernel
theorem dX4_readTarget_146 : decode cX4_readTarget 146 = .ok (.iload 5, 2) := by decide +kernel
theorem dX4_readTarget_148 : decode cX4_readTarget 148 = .ok (.invokevirtual 133, 3) := by decide +kernel
theorem dX4_readTarget_151 : decode cX4_readTarget 151 = .ok (.return_, 1) := by decide +kernel
theorem dX4_takeRun_0 : decode cX4_takeRun 0 = .ok (.iconst 0, 1) := by decide +kernel
theorem dX4_takeRun_1 : decode cX4_takeRun 1 = .ok (.istore_n 1, 1) := by decide +kernel
theorem dX4_takeRun_2 : decode cX4_takeRun 2 = .ok (.iconst 0, 1) := by decide +kernel
theorem dX4_takeRun_3 : decode cX4_takeRun 3 = .ok (.istore_n 2, 1) := by decide +kernel
theorem dX4_takeRun_4 : decode cX4_takeRun 4 = .ok (.aload_n 0, 1) := by decide +kernel
theorem dX4_takeRun_5 : decode cX4_takeRun 5 = .ok (.getfield 61, 3) := by decide +kernel
theorem dX4_takeRun_8 : decode cX4_takeRun 8 = .ok (.aload_n 0, 1) := by decide +kernel
theorem dX4_takeRun_9 : decode cX4_takeRun 9 = .ok (.getfield 9, 3) := by decide +kernel
theorem dX4_takeRun_12 : decode cX4_takeRun 12 = .ok (.getfield 52, 3) := by decide +kernel
theorem dX4_takeRun_15 : decode cX4_takeRun 15 = .ok (.if_icmp .ge 115, 3) := by decide +kernel
theorem dX4_takeRun_18 : decode cX4_takeRun 18 = .ok (.aload_n 0, 1) := by decide +kernel
theorem dX4_takeRun_19 : decode cX4_takeRun 19 = .ok (.getfield 9, 3) := by decide +kernel
theorem dX4_takeRun_22 : decode cX4_takeRun 22 = .ok (.getfield 136, 3) := by decide +kernel
theorem dX4_takeRun_25 : decode cX4_takeRun 25 = .ok (.aload_n 0, 1) := by decide +kernel
theorem dX4_takeRun_26 : decode cX4_takeRun 26 = .ok (.getfield 61, 3) := by decide +kernel
theorem dX4_takeRun_29 : decode cX4_takeRun 29 = .ok (.iaload, 1) := by decide +kernel
theorem dX4_takeRun_30 : decode cX4_takeRun 30 = .ok (.invokestatic 139, 3) := by decide +kernel
theorem dX4_takeRun_33 : decode cX4_takeRun 33 = .ok (.ifCond .ne 21, 3) := by decide +kernel
theorem dX4_takeRun_36 : decode cX4_takeRun 36 = .ok (.aload_n 0, 1) := by decide +kernel
theorem dX4_takeRun_37 : decode cX4_takeRun 37 = .ok (.getfield 9, 3) := by decide +kernel
theorem dX4_takeRun_40 : decode cX4_takeRun 40 = .ok (.getfield 136, 3) := by decide +kernel
theorem dX4_takeRun_43 : decode cX4_takeRun 43 = .ok (.aload_n 0, 1) := by decide +kernel
theorem dX4_takeRun_44 : decode cX4_takeRun 44 = .ok (.getfield 61, 3) := by decide +kernel
theorem dX4_takeRun_47 : decode cX4_takeRun 47 = .ok (.iaload, 1) := by decide +kernel
theorem dX4_takeRun_48 : decode cX4_takeRun 48 = .ok (.invokestatic 142, 3) := by decide +kernel
theorem dX4_takeRun_51 : decode cX4_takeRun 51 = .ok (.ifCond .eq 79, 3) := by decide +kernel
theorem dX4_takeRun_54 : decode cX4_takeRun 54 = .ok (.aload_n 0, 1) := by decide +kernel
theorem dX4_takeRun_55 : decode cX4_takeRun 55 = .ok (.getfield 9, 3) := by decide +kernel
theorem dX4_takeRun_58 : decode cX4_takeRun 58 = .ok (.getfield 136, 3) := by decide +kernel
theorem dX4_takeRun_61 : decode cX4_takeRun 61 = .ok (.aload_n 0, 1) := by decide +kernel
theorem dX4_takeRun_62 : decode cX4_takeRun 62 = .ok (.getfield 61, 3) := by decide +kernel
theorem dX4_takeRun_65 : decode cX4_takeRun 65 = .ok (.iaload, 1) := by decide +kernel
theorem dX4_takeRun_66 : decode cX4_takeRun 66 = .ok (.istore_n 3, 1) := by decide +kernel
theorem dX4_takeRun_67 : decode cX4_takeRun 67 = .ok (.iload_n 3, 1) := by decide +kernel
theorem dX4_takeRun_68 : decode cX4_takeRun 68 = .ok (.invokestatic 139, 3) := by decide +kernel
theorem dX4_takeRun_71 : decode cX4_takeRun 71 = .ok (.ifCond .eq 27, 3) := by decide +kernel
theorem dX4_takeRun_74 : decode cX4_takeRun 74 = .ok (.iinc 1 1, 3) := by decide +kernel
theorem dX4_takeRun_77 : decode cX4_takeRun 77 = .ok (.aload_n 0, 1) := by decide +kernel
theorem dX4_takeRun_78 : decode cX4_takeRun 78 = .ok (.aload_n 0, 1) := by decide +kernel
theorem dX4_takeRun_79 : decode cX4_takeRun 79 = .ok (.getfield 86, 3) := by decide +kernel
theorem dX4_takeRun_82 : decode cX4_takeRun 82 = .ok (.bipush 27, 2) := by decide +kernel
theorem dX4_takeRun_84 : decode cX4_takeRun 84 = .ok (.imul, 1) := by decide +kernel
theorem dX4_takeRun_85 : decode cX4_takeRun 85 = .ok (.iload_n 3, 1) := by decide +kernel
theorem dX4_takeRun_86 : decode cX4_takeRun 86 = .ok (.bipush 97, 2) := by decide +kernel
theorem dX4_takeRun_88 : decode cX4_takeRun 88 = .ok (.isub, 1) := by decide +kernel
theorem dX4_takeRun_89 : decode cX4_takeRun 89 = .ok (.iconst 1, 1) := by decide +kernel
theorem dX4_takeRun_90 : decode cX4_takeRun 90 = .ok (.iadd, 1) := by decide +kernel
theorem dX4_takeRun_91 : decode cX4_takeRun 91 = .ok (.iadd, 1) := by decide +kernel
theorem dX4_takeRun_92 : decode cX4_takeRun 92 = .ok (.putfield 86, 3) := by decide +kernel
theorem dX4_takeRun_95 : decode cX4_takeRun 95 = .ok (.goto 22, 3) := by decide +kernel
theorem dX4_takeRun_98 : decode cX4_takeRun 98 = .ok (.iinc 2 1, 3) := by decide +kernel
theorem dX4_takeRun_101 : decode cX4_takeRun 101 = .ok (.aload_n 0, 1) := by decide +kernel
theorem dX4_takeRun_102 : decode cX4_takeRun 102 = .ok (.aload_n 0, 1) := by decide +kernel
theorem dX4_takeRun_103 : decode cX4_takeRun 103 = .ok (.getfield 86, 3) := by decide +kernel
theorem dX4_takeRun_106 : decode cX4_takeRun 106 = .ok (.bipush 10, 2) := by decide +kernel
theorem dX4_takeRun_108 : decode cX4_takeRun 108 = .ok (.imul, 1) := by decide +kernel
theorem dX4_takeRun_109 : decode cX4_takeRun 109 = .ok (.iload_n 3, 1) := by decide +kernel
theorem dX4_takeRun_110 : decode cX4_takeRun 110 = .ok (.bipush 48, 2) := by decide +kernel
theorem dX4_takeRun_112 : decode cX4_takeRun 112 = .ok (.isub, 1) := by decide +kernel
theorem dX4_takeRun_113 : decode cX4_takeRun 113 = .ok (.iadd, 1) := by decide +kernel
theorem dX4_takeRun_114 : decode cX4_takeRun 114 = .ok (.putfield 86, 3) := by decide +kernel
theorem dX4_takeRun_117 : decode cX4_takeRun 117 = .ok (.aload_n 0, 1) := by decide +kernel
theorem dX4_takeRun_118 : decode cX4_takeRun 118 = .ok (.dup, 1) := by decide +kernel
theorem dX4_takeRun_119 : decode cX4_takeRun 119 = .ok (.getfield 61, 3) := by decide +kernel
theorem dX4_takeRun_122 : decode cX4_takeRun 122 = .ok (.iconst 1, 1) := by decide +kernel
theorem dX4_takeRun_123 : decode cX4_takeRun 123 = .ok (.iadd, 1) := by decide +kernel
theorem dX4_takeRun_124 : decode cX4_takeRun 124 = .ok (.putfield 61, 3) := by decide +kernel
theorem dX4_takeRun_127 : decode cX4_takeRun 127 = .ok (.goto (-123), 3) := by decide +kernel
theorem dX4_takeRun_130 : decode cX4_takeRun 130 = .ok (.iload_n 2, 1) := by decide +kernel
theorem dX4_takeRun_131 : decode cX4_takeRun 131 = .ok (.ifCond .ne 17, 3) := by decide +kernel
theorem dX4_takeRun_134 : decode cX4_takeRun 134 = .ok (.iload_n 1, 1) := by decide +kernel
theorem dX4_takeRun_135 : decode cX4_takeRun 135 = .ok (.bipush 6, 2) := by decide +kernel
theorem dX4_takeRun_137 : decode cX4_takeRun 137 = .ok (.if_icmp .gt 11, 3) := by decide +kernel
theorem dX4_takeRun_140 : decode cX4_takeRun 140 = .ok (.aload_n 0, 1) := by decide +kernel
theorem dX4_takeRun_141 : decode cX4_takeRun 141 = .ok (.iconst 1, 1) := by decide +kernel
theorem dX4_takeRun_142 : decode cX4_takeRun 142 = .ok (.putfield 67, 3) := by decide +kernel
theorem dX4_takeRun_145 : decode cX4_takeRun 145 = .ok (.goto 25, 3) := by decide +kernel
theorem dX4_takeRun_148 : decode cX4_takeRun 148 = .ok (.iload_n 1, 1) := by decide +kernel
theorem dX4_takeRun_149 : decode cX4_takeRun 149 = .ok (.ifCond .ne 16, 3) := by decide +kernel
theorem dX4_takeRun_152 : decode cX4_takeRun 152 = .ok (.iload_n 2, 1) := by decide +kernel
theorem dX4_takeRun_153 : decode cX4_takeRun 153 = .ok (.iconst 2, 1) := by decide +kernel
theorem dX4_takeRun_154 : decode cX4_takeRun 154 = .ok (.if_icmp .gt 11, 3) := by decide +kernel
theorem dX4_takeRun_157 : decode cX4_takeRun 157 = .ok (.aload_n 0, 1) := by decide +kernel
theorem dX4_takeRun_158 : decode cX4_takeRun 158 = .ok (.iconst 2, 1) := by decide +kernel
theorem dX4_takeRun_159 : decode cX4_takeRun 159 = .ok (.putfield 67, 3) := by decide +kernel
theorem dX4_takeRun_162 : decode cX4_takeRun 162 = .ok (.goto 8, 3) := by decide +kernel
theorem dX4_takeRun_165 : decode cX4_takeRun 165 = .ok (.aload_n 0, 1) := by decide +kernel
theorem dX4_takeRun_166 : decode cX4_takeRun 166 = .ok (.iconst 4, 1) := by decide +kernel
theorem dX4_takeRun_167 : decode cX4_takeRun 167 = .ok (.putfield 67, 3) := by decide +kernel
theorem dX4_takeRun_170 : decode cX4_takeRun 170 = .ok (.return_, 1) := by decide +kernel
set_option maxHeartbeats 4000000 in
set_option maxRecDepth 100000 in
theorem c_X4_isLetter (l : Launch) (D : va_G) (g : Nat → ClassId) (p0 : Int32) : Met l yX4_isLetter (.code yX4_isLetter cX4_isLetter 1 (some .boolean) :: wsL_law) ({ frames := 0, cells := 0, slots := 0, locals := 0 }) (va_Pc [.int p0] (fun U => va_P D vwCl [] U.heap ∧ va_K D vwCl (TY g) U)) (vp_Si (fun r => (0 ≤ (r : Int32).toInt ∧ (r : Int32).toInt ≤ 1) ∧ (Hide (¬ (r : Int32).toInt = 0 → 97 ≤ (p0 : Int32).toInt ∧ (p0 : Int32).toInt ≤ 122)) ∧ (Hide ((r : Int32).toInt = 0 → (p0 : Int32).toInt < 97 ∨ 122 < (p0 : Int32).toInt)))) 0 0 (fun _ => False) := by
  refine Met.ofW (cc := cX4_isLetter) (maxL := 1) (ret := (some .boolean)) (by decide) rfl ?_
  intro p e s m args below meth c s₁ B hml hv
  obtain ⟨ha, hP, hK⟩ := hv
  have hx := B.exec
  have hb := B.bytes
  have hr := B.returns
  have hts0 := atoms_spec (ws := (.code yX4_isLetter cX4_isLetter 1 (some .boolean) :: wsL_law)) B.pre
  have hts : ∀ w ∈ wsL_law, w.before args s = true := fun w h => hts0 w (List.mem_cons_of_mem _ h)
  have hown : s.vm.findClass RX4 = some m.cls := findClass_of_methodNamed B.named
  have hlocks := B.notSynchronized
  have hP : va_P D vwCl [] s.heap := hP
  refine W.eq (g2 := entryFrame m ([.int p0] : List Value).toArray 1) (by rw [ha]) ?_
  have hl := lv_entry ([.int p0]) (n := 1) (Nat.le_of_ble_eq_true rfl)
  rw [lg_entry_eq]
  generalize (lg_sl ([.int p0]) ++ List.replicate (1 - (lg_sl ([.int p0])).length) Slot.unset).toArray = ls at hl ⊢
  have hl : lv_has ls 1 [(0, .int p0)] := hl
  refine lv_iload_n hx hb dX4_isLetter_0 rfl (lv_at hl 0 rfl) ?_
  refine lv_bipush (v := 97) hx hb dX4_isLetter_1 (by decide) ?_
  refine lv_icmp_lt (tgt := 16) hx hb dX4_isLetter_3 (by decide) (fun c_71926 => ?_) (fun c_71926 => ?_)
  · skip
    have kk_97 := tk_97
    have c_71926_i := Int32.lt_iff_toInt_lt.mp c_71926
    have h_71927 : (-2147483648) ≤ (p0 : Int32).toInt ∧ (p0 : Int32).toInt ≤ 96 := nr_lt_l (tr_any p0) (⟨by decide, by decide⟩ : 97 ≤ (97 : Int32).toInt ∧ (97 : Int32).toInt ≤ 97) c_71926_i (by decide) (by decide)
    refine lv_iconst (v := 0) hx hb dX4_isLetter_16 (by decide) ?_
    exact W.zret (v := 0) hx hb hr (by decide) (fun t ht hW => ⟨0, rfl, ⟨(⟨by decide, by decide⟩ : 0 ≤ (0 : Int32).toInt ∧ (0 : Int32).toInt ≤ 1), (fun h9 => (by have z_0 := tk_0; have z_1 := tk_1; omega)), (fun h9 => (by have z_0 := tk_0; have z_1 := tk_1; omega))⟩, ht⟩) (fun _ h => nomatch h) dX4_isLetter_17
  · skip
    have kk_97 := tk_97
    have c_71926_i := Int32.le_iff_toInt_le.mp (Int32.not_lt.mp c_71926)
    have h_71928 : 97 ≤ (p0 : Int32).toInt ∧ (p0 : Int32).toInt ≤ 2147483647 := nr_le_r (⟨by decide, by decide⟩ : 97 ≤ (97 : Int32).toInt ∧ (97 : Int32).toInt ≤ 97) (tr_any p0) c_71926_i (by decide) (by decide)
    refine lv_iload_n hx hb dX4_isLetter_6 rfl (lv_at hl 0 rfl) ?_
    refine lv_bipush (v := 122) hx hb dX4_isLetter_7 (by decide) ?_
    refine lv_icmp_gt (tgt := 16) hx hb dX4_isLetter_9 (by decide) (fun c_71929 => ?_) (fun c_71929 => ?_)
    · skip
      have kk_122 := tk_122
      have c_71929_i := Int32.lt_iff_toInt_lt.mp c_71929
      have h_71930 : 123 ≤ (p0 : Int32).toInt ∧ (p0 : Int32).toInt ≤ 2147483647 := nr_lt_r (⟨by decide, by decide⟩ : 122 ≤ (122 : Int32).toInt ∧ (122 : Int32).toInt ≤ 122) h_71928 c_71929_i (by decide) (by decide)
      refine lv_iconst (v := 0) hx hb dX4_isLetter_16 (by decide) ?_
      exact W.zret (v := 0) hx hb hr (by decide) (fun t ht hW => ⟨0, rfl, ⟨(⟨by decide, by decide⟩ : 0 ≤ (0 : Int32).toInt ∧ (0 : Int32).toInt ≤ 1), (fun h9 => (by have z_0 := tk_0; have z_1 := tk_1; (first | (clear c_71926_i h_71928 c_71929_i h_71930; omega) | omega))), (fun h9 => (by have z_0 := tk_0; have z_1 := tk_1; (first | (clear c_71926_i h_71928 c_71929_i h_71930; omega) | omega)))⟩, ht⟩) (fun _ h => nomatch h) dX4_isLetter_17
    · skip
      have kk_122 := tk_122
      have c_71929_i := Int32.le_iff_toInt_le.mp (Int32.not_lt.mp c_71929)
      have h_71931 : 97 ≤ (p0 : Int32).toInt ∧ (p0 : Int32).toInt ≤ 122 := nr_le_l h_71928 (⟨by decide, by decide⟩ : 122 ≤ (122 : Int32).toInt ∧ (122 : Int32).toInt ≤ 122) c_71929_i (by decide) (by decide)
      refine lv_iconst (v := 1) hx hb dX4_isLetter_12 (by decide) ?_
      refine lv_goto (tgt := 17) hx hb dX4_isLetter_13 (by decide) ?_
      exact W.zret (v := 1) hx hb hr (by decide) (fun t ht hW => ⟨1, rfl, ⟨(⟨by decide, by decide⟩ : 0 ≤ (1 : Int32).toInt ∧ (1 : Int32).toInt ≤ 1), (fun h9 => (by have z_0 := tk_0; have z_1 := tk_1; (first | (clear c_71926_i h_71928 c_71929_i h_71931; omega) | omega))), (fun h9 => (by have z_0 := tk_0; have z_1 := tk_1; (first | (clear c_71926_i h_71928 c_71929_i h_71931; omega) | omega)))⟩, ht⟩) (fun _ h => nomatch h) dX4_isLetter_17
set_option maxHeartbeats 4000000 in
set_option maxRecDepth 100000 in
theorem c_X4_isDigit (l : Launch) (D : va_G) (g : Nat → ClassId) (p0 : Int32) : Met l yX4_isDigit (.code yX4_isDigit cX4_isDigit 1 (some .boolean) :: wsL_law) ({ frames := 0, cells := 0, slots := 0, locals := 0 }) (va_Pc [.int p0] (fun U => va_P D vwCl [] U.heap ∧ va_K D vwCl (TY g) U)) (vp_Si (fun r => (0 ≤ (r : Int32).toInt ∧ (r : Int32).toInt ≤ 1) ∧ (Hide (¬ (r : Int32).toInt = 0 → 48 ≤ (p0 : Int32).toInt ∧ (p0 : Int32).toInt ≤ 57)) ∧ (Hide ((r : Int32).toInt = 0 → (p0 : Int32).toInt < 48 ∨ 57 < (p0 : Int32).toInt)))) 0 0 (fun _ => False) := by
  refine Met.ofW (cc := cX4_isDigit) (maxL := 1) (ret := (some .boolean)) (by decide) rfl ?_
  intro p e s m args below meth c s₁ B hml hv
  obtain ⟨ha, hP, hK⟩ := hv
  have hx := B.exec
  have hb := B.bytes
  have hr := B.returns
  have hts0 := atoms_spec (ws := (.code yX4_isDigit cX4_isDigit 1 (some .boolean) :: wsL_law)) B.pre
  have hts : ∀ w ∈ wsL_law, w.before args s = true := fun w h => hts0 w (List.mem_cons_of_mem _ h)
  have hown : s.vm.findClass RX4 = some m.cls := findClass_of_methodNamed B.named
  have hlocks := B.notSynchronized
  have hP : va_P D vwCl [] s.heap := hP
  refine W.eq (g2 := entryFrame m ([.int p0] : List Value).toArray 1) (by rw [ha]) ?_
  have hl := lv_entry ([.int p0]) (n := 1) (Nat.le_of_ble_eq_true rfl)
  rw [lg_entry_eq]
  generalize (lg_sl ([.int p0]) ++ List.replicate (1 - (lg_sl ([.int p0])).length) Slot.unset).toArray = ls at hl ⊢
  have hl : lv_has ls 1 [(0, .int p0)] := hl
  refine lv_iload_n hx hb dX4_isDigit_0 rfl (lv_at hl 0 rfl) ?_
  refine lv_bipush (v := 48) hx hb dX4_isDigit_1 (by decide) ?_
  refine lv_icmp_lt (tgt := 16) hx hb dX4_isDigit_3 (by decide) (fun c_71932 => ?_) (fun c_71932 => ?_)
  · skip
    have kk_48 := tk_48
    have c_71932_i := Int32.lt_iff_toInt_lt.mp c_71932
    have h_71933 : (-2147483648) ≤ (p0 : Int32).toInt ∧ (p0 : Int32).toInt ≤ 47 := nr_lt_l (tr_any p0) (⟨by decide, by decide⟩ : 48 ≤ (48 : Int32).toInt ∧ (48 : Int32).toInt ≤ 48) c_71932_i (by decide) (by decide)
    refine lv_iconst (v := 0) hx hb dX4_isDigit_16 (by decide) ?_
    exact W.zret (v := 0) hx hb hr (by decide) (fun t ht hW => ⟨0, rfl, ⟨(⟨by decide, by decide⟩ : 0 ≤ (0 : Int32).toInt ∧ (0 : Int32).toInt ≤ 1), (fun h9 => (by have z_0 := tk_0; have z_1 := tk_1; omega)), (fun h9 => (by have z_0 := tk_0; have z_1 := tk_1; omega))⟩, ht⟩) (fun _ h => nomatch h) dX4_isDigit_17
  · skip
    have kk_48 := tk_48
    have c_71932_i := Int32.le_iff_toInt_le.mp (Int32.not_lt.mp c_71932)
    have h_71934 : 48 ≤ (p0 : Int32).toInt ∧ (p0 : Int32).toInt ≤ 2147483647 := nr_le_r (⟨by decide, by decide⟩ : 48 ≤ (48 : Int32).toInt ∧ (48 : Int32).toInt ≤ 48) (tr_any p0) c_71932_i (by decide) (by decide)
    refine lv_iload_n hx hb dX4_isDigit_6 rfl (lv_at hl 0 rfl) ?_
    refine lv_bipush (v := 57) hx hb dX4_isDigit_7 (by decide) ?_
    refine lv_icmp_gt (tgt := 16) hx hb dX4_isDigit_9 (by decide) (fun c_71935 => ?_) (fun c_71935 => ?_)
    · skip
      have kk_57 := tk_57
      have c_71935_i := Int32.lt_iff_toInt_lt.mp c_71935
      have h_71936 : 58 ≤ (p0 : Int32).toInt ∧ (p0 : Int32).toInt ≤ 2147483647 := nr_lt_r (⟨by decide, by decide⟩ : 57 ≤ (57 : Int32).toInt ∧ (57 : Int32).toInt ≤ 57) h_71934 c_71935_i (by decide) (by decide)
      refine lv_iconst (v := 0) hx hb dX4_isDigit_16 (by decide) ?_
      exact W.zret (v := 0) hx hb hr (by decide) (fun t ht hW => ⟨0, rfl, ⟨(⟨by decide, by decide⟩ : 0 ≤ (0 : Int32).toInt ∧ (0 : Int32).toInt ≤ 1), (fun h9 => (by have z_0 := tk_0; have z_1 := tk_1; (first | (clear c_71932_i h_71934 c_71935_i h_71936; omega) | omega))), (fun h9 => (by have z_0 := tk_0; have z_1 := tk_1; (first | (clear c_71932_i h_71934 c_71935_i h_71936; omega) | omega)))⟩, ht⟩) (fun _ h => nomatch h) dX4_isDigit_17
    · skip
      have kk_57 := tk_57
      have c_71935_i := Int32.le_iff_toInt_le.mp (Int32.not_lt.mp c_71935)
      have h_71937 : 48 ≤ (p0 : Int32).toInt ∧ (p0 : Int32).toInt ≤ 57 := nr_le_l h_71934 (⟨by decide, by decide⟩ : 57 ≤ (57 : Int32).toInt ∧ (57 : Int32).toInt ≤ 57) c_71935_i (by decide) (by decide)
      refine lv_iconst (v := 1) hx hb dX4_isDigit_12 (by decide) ?_
      refine lv_goto (tgt := 17) hx hb dX4_isDigit_13 (by decide) ?_
      exact W.zret (v := 1) hx hb hr (by decide) (fun t ht hW => ⟨1, rfl, ⟨(⟨by decide, by decide⟩ : 0 ≤ (1 : Int32).toInt ∧ (1 : Int32).toInt ≤ 1), (fun h9 => (by have z_0 := tk_0; have z_1 := tk_1; (first | (clear c_71932_i h_71934 c_71935_i h_71937; omega) | omega))), (fun h9 => (by have z_0 := tk_0; have z_1 := tk_1; (first | (clear c_71932_i h_71934 c_71935_i h_71937; omega) | omega)))⟩, ht⟩) (fun _ h => nomatch h) dX4_isDigit_17
set_option maxHeartbeats 4000000 in
set_option maxRecDepth 100000 in
theorem c_X4_failAt (l : Launch) (D : va_G) (g : Nat → ClassId) (sz : Nat) (rd : Nat) (p0 : Int32) (p1 : Int32) (tp : Nat) (n : Nat) (rd_kindWords : Nat) (ww : Int32) (fk : Int32) (fp : Int32) (nx : Int32) (tk : Int32) (tpl : Int32) (tv : Int32) (h_p0 : 0 ≤ (p0 : Int32).toInt ∧ (p0 : Int32).toInt ≤ 5) (h_p1 : 0 ≤ (p1 : Int32).toInt ∧ (p1 : Int32).toInt ≤ 440) (h_fk : 0 ≤ (fk : Int32).toInt ∧ (fk : Int32).toInt ≤ 5) (h_fp : 0 ≤ (fp : Int32).toInt ∧ (fp : Int32).toInt ≤ 440) (h_nx : 0 ≤ (nx : Int32).toInt ∧ (nx : Int32).toInt ≤ 440) (h_tk : 0 ≤ (tk : Int32).toInt ∧ (tk : Int32).toInt ≤ 4) (h_tpl : 0 ≤ (tpl : Int32).toInt ∧ (tpl : Int32).toInt ≤ 440) : Met l yX4_failAt (.code yX4_failAt cX4_failAt 3 none :: wsL_law) ({ frames := 0, cells := 0, slots := 0, locals := 0 }) (va_Pc [.ref rd, .int p0, .int p1] (fun U => U.heap.size = sz ∧ va_P D vwCl [(wO4 rd tp n rd_kindWords ww fk fp nx tk tpl tv)] U.heap ∧ va_K D vwCl (TY g) U ∧ va_D (fun _ => True) [(wO4 rd tp n rd_kindWords ww fk fp nx tk tpl tv)])) (va_Qv (fun (_ : Unit) => True) (fun _ t => va_P D vwCl [(wO4 rd tp n rd_kindWords ww p0 p1 nx tk tpl tv)] t.heap ∧ va_D (va_A [(wO4 rd tp n rd_kindWords ww fk fp nx tk tpl tv)] sz) [(wO4 rd tp n rd_kindWords ww p0 p1 nx tk tpl tv)]) (va_A [(wO4 rd tp n rd_kindWords ww fk fp nx tk tpl tv)] sz)) 0 0 (va_A [(wO4 rd tp n rd_kindWords ww fk fp nx tk tpl tv)] sz) := by
  refine Met.ofW (cc := cX4_failAt) (maxL := 3) (ret := none) (by decide) rfl ?_
  intro p e s m args below meth c s₁ B hml hv
  obtain ⟨ha, hsz, hP, hK, hD0⟩ := hv
  have hx := B.exec
  have hb := B.bytes
  have hr := B.returns
  have hts0 := atoms_spec (ws := (.code yX4_failAt cX4_failAt 3 none :: wsL_law)) B.pre
  have hts : ∀ w ∈ wsL_law, w.before args s = true := fun w h => hts0 w (List.mem_cons_of_mem _ h)
  have hown : s.vm.findClass RX4 = some m.cls := findClass_of_methodNamed B.named
  have hlocks := B.notSynchronized
  subst hsz
  have hD := hD0.self (sz := s.heap.size)
  generalize hAe : va_A [(wO4 rd tp n rd_kindWords ww fk fp nx tk tpl tv)] s.heap.size = A at hD ⊢
  have hA : ∀ q : Nat, s.heap.size ≤ q → A q := fun q h => by rw [← hAe]; exact Or.inr h
  have hS : va_S A s.heap s.heap [] := va_S.rf
  have hP : va_P D vwCl [(wO4 rd tp n rd_kindWords ww fk fp nx tk tpl tv)] s.heap := hP
  refine W.eq (g2 := entryFrame m ([.ref rd, .int p0, .int p1] : List Value).toArray 3) (by rw [ha]) ?_
  have hl := lv_entry ([.ref rd, .int p0, .int p1]) (n := 3) (Nat.le_of_ble_eq_true rfl)
  rw [lg_entry_eq]
  generalize (lg_sl ([.ref rd, .int p0, .int p1]) ++ List.replicate (3 - (lg_sl ([.ref rd, .int p0, .int p1])).length) Slot.unset).toArray = ls at hl ⊢
  have hl : lv_has ls 3 [(0, .ref rd), (1, .int p0), (2, .int p1)] := hl
  refine lv_aload_n hx hb dX4_failAt_0 rfl (lv_at hl 0 rfl) ?_
  refine lv_iload_n hx hb dX4_failAt_1 rfl (lv_at hl 1 rfl) ?_
  refine va_put (D := D) (ci := 4) (v := .int p0) (ty := .int) (C := RX4) (T := TX4) (N := 10) hx hb hts inlX4 tyX4 tyX4_ok nmX4 hown hK hP hD hS 0 rfl rfl 4 (by decide) (hts (Cond.fieldLink RX4 41 "ChanceRings$Reader" "faultKind" "I") qw_378) (fun _ h9 => h9) rfl (by decide +kernel) rfl rfl (Nat.le_of_ble_eq_true rfl) dX4_failAt_2 (fun H locs hP hD hS => ?_)
  have hP : va_P D vwCl [(wO4 rd tp n rd_kindWords ww p0 fp nx tk tpl tv)] H := hP
  have hD : va_D A [(wO4 rd tp n rd_kindWords ww p0 fp nx tk tpl tv)] := hD
  refine lv_aload_n hx hb dX4_failAt_5 rfl (lv_at hl 0 rfl) ?_
  refine lv_iload_n hx hb dX4_failAt_6 rfl (lv_at hl 2 rfl) ?_
  refine va_put (D := D) (ci := 4) (v := .int p1) (ty := .int) (C := RX4) (T := TX4) (N := 10) hx hb hts inlX4 tyX4 tyX4_ok nmX4 hown hK hP hD hS 0 rfl rfl 5 (by decide) (hts (Cond.fieldLink RX4 44 "ChanceRings$Reader" "faultPlace" "I") qw_379) (fun _ h9 => h9) rfl (by decide +kernel) rfl rfl (Nat.le_of_ble_eq_true rfl) dX4_failAt_7 (fun H locs hP hD hS => ?_)
  have hP : va_P D vwCl [(wO4 rd tp n rd_kindWords ww p0 p1 nx tk tpl tv)] H := hP
  have hD : va_D A [(wO4 rd tp n rd_kindWords ww p0 p1 nx tk tpl tv)] := hD
  have hP9 := hP.sub (ws' := [(wO4 rd tp n rd_kindWords ww p0 p1 nx tk tpl tv)]) [0] rfl
  have hD9 := hD.sub (ws' := [(wO4 rd tp n rd_kindWords ww p0 p1 nx tk tpl tv)]) [0] (by decide) rfl
  exact W.vret hx hb hr (fun t ht hW => ⟨⟨(), rfl, trivial, by rw [ht]; exact hP9, hD9⟩, hS.F ht⟩) hS.2.2 dX4_failAt_10
set_option maxHeartbeats 4000000 in
set_option maxRecDepth 100000 in
theorem c_X4_fail (l : Launch) (D : va_G) (g : Nat → ClassId) (sz : Nat) (rd : Nat) (p0 : Int32) (tp : Nat) (n : Nat) (rd_kindWords : Nat) (ww : Int32) (fk : Int32) (fp : Int32) (nx : Int32) (tk : Int32) (tpl : Int32) (tv : Int32) (h_p0 : 0 ≤ (p0 : Int32).toInt ∧ (p0 : Int32).toInt ≤ 5) (h_fk : 0 ≤ (fk : Int32).toInt ∧ (fk : Int32).toInt ≤ 5) (h_fp : 0 ≤ (fp : Int32).toInt ∧ (fp : Int32).toInt ≤ 440) (h_nx : 0 ≤ (nx : Int32).toInt ∧ (nx : Int32).toInt ≤ 440) (h_tk : 0 ≤ (tk : Int32).toInt ∧ (tk : Int32).toInt ≤ 4) (h_tpl : 0 ≤ (tpl : Int32).toInt ∧ (tpl : Int32).toInt ≤ 440) : Met l yX4_fail (.code yX4_fail cX4_fail 2 none :: wsL_law) ({ frames := 1, cells := 0, slots := 0, locals := 22 }) (va_Pc [.ref rd, .int p0] (fun U => U.heap.size = sz ∧ va_P D vwCl [(wO4 rd tp n rd_kindWords ww fk fp nx tk tpl tv)] U.heap ∧ va_K D vwCl (TY g) U ∧ va_D (fun _ => True) [(wO4 rd tp n rd_kindWords ww fk fp nx tk tpl tv)])) (va_Qv (fun (_ : Unit) => True) (fun _ t => va_P D vwCl [(wO4 rd tp n rd_kindWords ww p0 tpl nx tk tpl tv)] t.heap ∧ va_D (va_A [(wO4 rd tp n rd_kindWords ww fk fp nx tk tpl tv)] sz) [(wO4 rd tp n rd_kindWords ww p0 tpl nx tk tpl tv)]) (va_A [(wO4 rd tp n rd_kindWords ww fk fp nx tk tpl tv)] sz)) 0 0 (va_A [(wO4 rd tp n rd_kindWords ww fk fp nx tk tpl tv)] sz) := by
  refine Met.ofW (cc := cX4_fail) (maxL := 2) (ret := none) (by decide) rfl ?_
  intro p e s m args below meth c s₁ B hml hv
  obtain ⟨ha, hsz, hP, hK, hD0⟩ := hv
  have hx := B.exec
  have hb := B.bytes
  have hr := B.returns
  have hts0 := atoms_spec (ws := (.code yX4_fail cX4_fail 2 none :: wsL_law)) B.pre
  have hts : ∀ w ∈ wsL_law, w.before args s = true := fun w h => hts0 w (List.mem_cons_of_mem _ h)
  have hown : s.vm.findClass RX4 = some m.cls := findClass_of_methodNamed B.named
  have hlocks := B.notSynchronized
  subst hsz
  have hD := hD0.self (sz := s.heap.size)
  generalize hAe : va_A [(wO4 rd tp n rd_kindWords ww fk fp nx tk tpl tv)] s.heap.size = A at hD ⊢
  have hA : ∀ q : Nat, s.heap.size ≤ q → A q := fun q h => by rw [← hAe]; exact Or.inr h
  have hS : va_S A s.heap s.heap [] := va_S.rf
  have hP : va_P D vwCl [(wO4 rd tp n rd_kindWords ww fk fp nx tk tpl tv)] s.heap := hP
  refine W.eq (g2 := entryFrame m ([.ref rd, .int p0] : List Value).toArray 2) (by rw [ha]) ?_
  have hl := lv_entry ([.ref rd, .int p0]) (n := 2) (Nat.le_of_ble_eq_true rfl)
  rw [lg_entry_eq]
  generalize (lg_sl ([.ref rd, .int p0]) ++ List.replicate (2 - (lg_sl ([.ref rd, .int p0])).length) Slot.unset).toArray = ls at hl ⊢
  have hl : lv_has ls 2 [(0, .ref rd), (1, .int p0)] := hl
  refine lv_aload_n hx hb dX4_fail_0 rfl (lv_at hl 0 rfl) ?_
  refine lv_iload_n hx hb dX4_fail_1 rfl (lv_at hl 1 rfl) ?_
  refine lv_aload_n hx hb dX4_fail_2 rfl (lv_at hl 0 rfl) ?_
  refine va_get (D := D) (ci := 4) (v := .int tpl) (C := RX4) (T := TX4) (N := 10) hx hb hts inlX4 hown hK hP 0 rfl rfl 8 (by decide) (hts (Cond.fieldLink RX4 77 "ChanceRings$Reader" "tokenPlace" "I") qw_380) (fun _ h9 => h9) rfl dX4_fail_3 ?_
  have hPc := hP.sub (ws' := [(wO4 rd tp n rd_kindWords ww fk fp nx tk tpl tv)]) [0] rfl
  have hDc := hD.sub (ws' := [(wO4 rd tp n rd_kindWords ww fk fp nx tk tpl tv)]) [0] (by decide) rfl
  have hFc := va_free (wc := [(wO4 rd tp n rd_kindWords ww fk fp nx tk tpl tv)]) hD hS hA [0] rfl
  refine va_callv (va_runV (As := [.int p0, .int tpl]) (rest := []) ⟨hx, hb, hml, hown, hts⟩ (c_X4_failAt l D g s.heap.size rd p0 tpl tp n rd_kindWords ww fk fp nx tk tpl tv (tr_w h_p0 (by decide) (by decide)) (tr_w h_tpl (by decide) (by decide)) (tr_w h_fk (by decide) (by decide)) (tr_w h_fp (by decide) (by decide)) (tr_w h_nx (by decide) (by decide)) (tr_w h_tk (by decide) (by decide)) (tr_w h_tpl (by decide) (by decide))) (cwV 2 hts (tz_gV qw_381 qw_382 qw_383 qw_384 qw_385) rfl rfl rfl (by decide +kernel) ⟨Nat.le_of_ble_eq_true rfl, Nat.le_of_ble_eq_true rfl⟩) ⟨tz_blQ, va_recv hK hPc (ci := 4) (q0 := 0) rfl rfl, tz_preQ hPc hK hDc⟩ rfl rfl hl.1 rfl (lv_room (Nat.le_of_ble_eq_true rfl)) dX4_fail_6 ⟨Nat.le_of_ble_eq_true rfl, Nat.le_of_ble_eq_true rfl⟩) hS (fun q _ h => hFc q h) hFc (fun u t H1 locs ht hvm hw hB hz1 hk1 hS => ?_)
  obtain ⟨hP1, hD1⟩ := hB
  rw [ht] at hP1
  obtain ⟨hP, hD⟩ := va_join (wr := []) (w1 := [(wO4 rd tp n rd_kindWords ww p0 tpl nx tk tpl tv)]) hP hD [0] [] rfl rfl (by decide) (by decide) hk1 hFc hP1 hD1
  generalize H1 = H at hP hS ⊢
  have hP : va_P D vwCl [(wO4 rd tp n rd_kindWords ww p0 tpl nx tk tpl tv)] H := hP
  have hD : va_D A [(wO4 rd tp n rd_kindWords ww p0 tpl nx tk tpl tv)] := hD
  have hP9 := hP.sub (ws' := [(wO4 rd tp n rd_kindWords ww p0 tpl nx tk tpl tv)]) [0] rfl
  have hD9 := hD.sub (ws' := [(wO4 rd tp n rd_kindWords ww p0 tpl nx tk tpl tv)]) [0] (by decide) rfl
  exact W.vret hx hb hr (fun t ht hW => ⟨⟨(), rfl, trivial, by rw [ht]; exact hP9, hD9⟩, hS.F ht⟩) hS.2.2 dX4_fail_9
set_option maxHeartbeats 4000000 in
set_option maxRecDepth 100000 in
theorem c_X4_takeRun (l : Launch) (D : va_G) (g : Nat → ClassId) (sz : Nat) (rd : Nat) (tp : Nat) (n : Nat) (rd_kindWords : Nat) (ww : Int32) (fk : Int32) (fp : Int32) (nx : Int32) (tk : Int32) (tpl : Int32) (tv : Int32) (tp_bytes : Nat) (tl : Int32) (tf : Nat → Int32) (h_fk : 0 ≤ (fk : Int32).toInt ∧ (fk : Int32).toInt ≤ 5) (h_fp : 0 ≤ (fp : Int32).toInt ∧ (fp : Int32).toInt ≤ 440) (h_nx : 0 ≤ (nx : Int32).toInt ∧ (nx : Int32).toInt ≤ 440) (h_tk : 0 ≤ (tk : Int32).toInt ∧ (tk : Int32).toInt ≤ 4) (h_tpl : 0 ≤ (tpl : Int32).toInt ∧ (tpl : Int32).toInt ≤ 440) (h_tl : 0 ≤ (tl : Int32).toInt ∧ (tl : Int32).toInt ≤ 440) (h_tf : ∀ j : Nat, 0 ≤ (tf j).toInt ∧ (tf j).toInt ≤ 255) (htv : (tv : Int32).toInt = 0) : Met l yX4_takeRun (.code yX4_takeRun cX4_takeRun 4 none :: wsL_law) ({ frames := 1, cells := 0, slots := 0, locals := 20 }) (va_Pc [.ref rd] (fun U => U.heap.size = sz ∧ va_P D vwCl [(wO4 rd tp n rd_kindWords ww fk fp nx tk tpl tv), (wO8 tp tp_bytes tl), (wI g tp_bytes 0 440 tf)] U.heap ∧ va_K D vwCl (TY g) U ∧ va_D (fun _ => True) [(wO4 rd tp n rd_kindWords ww fk fp nx tk tpl tv), (wO8 tp tp_bytes tl), (wI g tp_bytes 0 440 tf)])) (va_Qv (fun (_ : Unit) => True) (fun _ t => ∃ onx : Int32, ∃ otk : Int32, ∃ otv : Int32, (0 ≤ (onx : Int32).toInt ∧ (onx : Int32).toInt ≤ 440) ∧ (0 ≤ (otk : Int32).toInt ∧ (otk : Int32).toInt ≤ 4) ∧ (RUT (bg tf (tl : Int32).toInt) (nx : Int32).toInt.toNat (otk : Int32).toInt (onx : Int32).toInt.toNat (otv : Int32).toInt) ∧ va_P D vwCl [(wO4 rd tp n rd_kindWords ww fk fp onx otk tpl otv), (wO8 tp tp_bytes tl), (wI g tp_bytes 0 440 tf)] t.heap ∧ va_D (va_A [(wO4 rd tp n rd_kindWords ww fk fp nx tk tpl tv), (wO8 tp tp_bytes tl), (wI g tp_bytes 0 440 tf)] sz) [(wO4 rd tp n rd_kindWords ww fk fp onx otk tpl otv), (wO8 tp tp_bytes tl), (wI g tp_bytes 0 440 tf)]) (va_A [(wO4 rd tp n rd_kindWords ww fk fp nx tk tpl tv), (wO8 tp tp_bytes tl), (wI g tp_bytes 0 440 tf)] sz)) 0 0 (va_A [(wO4 rd tp n rd_kindWords ww fk fp nx tk tpl tv), (wO8 tp tp_bytes tl), (wI g tp_bytes 0 440 tf)] sz) := by
  refine Met.ofW (cc := cX4_takeRun) (maxL := 4) (ret := none) (by decide) rfl ?_
  intro p e s m args below meth c s₁ B hml hv
  obtain ⟨ha, hsz, hP, hK, hD0⟩ := hv
  have hx := B.exec
  have hb := B.bytes
  have hr := B.returns
  have hts0 := atoms_spec (ws := (.code yX4_takeRun cX4_takeRun 4 none :: wsL_law)) B.pre
  have hts : ∀ w ∈ wsL_law, w.before args s = true := fun w h => hts0 w (List.mem_cons_of_mem _ h)
  have hown : s.vm.findClass RX4 = some m.cls := findClass_of_methodNamed B.named
  have hlocks := B.notSynchronized
  subst hsz
  have hD := hD0.self (sz := s.heap.size)
  generalize hAe : va_A [(wO4 rd tp n rd_kindWords ww fk fp nx tk tpl tv), (wO8 tp tp_bytes tl), (wI g tp_bytes 0 440 tf)] s.heap.size = A at hD ⊢
  have hA : ∀ q : Nat, s.heap.size ≤ q → A q := fun q h => by rw [← hAe]; exact Or.inr h
  have hS : va_S A s.heap s.heap [] := va_S.rf
  have hP : va_P D vwCl [(wO4 rd tp n rd_kindWords ww fk fp nx tk tpl tv), (wO8 tp tp_bytes tl), (wI g tp_bytes 0 440 tf)] s.heap := hP
  refine W.eq (g2 := entryFrame m ([.ref rd] : List Value).toArray 4) (by rw [ha]) ?_
  have hl := lv_entry ([.ref rd]) (n := 4) (Nat.le_of_ble_eq_true rfl)
  rw [lg_entry_eq]
  generalize (lg_sl ([.ref rd]) ++ List.replicate (4 - (lg_sl ([.ref rd])).length) Slot.unset).toArray = ls at hl ⊢
  have hl : lv_has ls 4 [(0, .ref rd)] := hl
  refine lv_iconst (v := 0) hx hb dX4_takeRun_0 (by decide) ?_
  refine lv_istore_n (lv' := [(1, .int 0), (0, .ref rd)]) hx hb dX4_takeRun_1 rfl hl (by decide) rfl (fun ls hl => ?_)
  refine lv_iconst (v := 0) hx hb dX4_takeRun_2 (by decide) ?_
  refine lv_istore_n (lv' := [(2, .int 0), (1, .int 0), (0, .ref rd)]) hx hb dX4_takeRun_3 rfl hl (by decide) rfl (fun ls hl => ?_)
  have lp_72094 : ∀ (n_72094 : Nat) (x_72090 : Int32) (x_72091 : Int32) (x_72092 : Int32) (x_72093 : Int32) (H : Heap) (locs : List Loc) (ls : Array Slot), (0 ≤ (x_72090 : Int32).toInt ∧ (x_72090 : Int32).toInt ≤ 440) → (0 ≤ (x_72091 : Int32).toInt ∧ (x_72091 : Int32).toInt ≤ 440) → (0 ≤ (x_72092 : Int32).toInt ∧ (x_72092 : Int32).toInt ≤ 440) → (RNI (bg tf (tl : Int32).toInt) (nx : Int32).toInt.toNat x_72090.toInt.toNat x_72091.toInt x_72092.toInt x_72093.toInt) → (440 - x_72090.toInt < (n_72094 : Int)) → va_P D vwCl [(wO4 rd tp n rd_kindWords ww fk fp x_72090 tk tpl x_72093), (wO8 tp tp_bytes tl), (wI g tp_bytes 0 440 tf)] H → va_D A [(wO4 rd tp n rd_kindWords ww fk fp x_72090 tk tpl x_72093), (wO8 tp tp_bytes tl), (wI g tp_bytes 0 440 tf)] → va_S A s.heap H locs → lv_has ls 4 [(2, .int x_72092), (1, .int x_72091), (0, .ref rd)] → W p l e (headSpec (.code yX4_takeRun cX4_takeRun 4 none :: wsL_law) ({ frames := 1, cells := 0, slots := 0, locals := 20 })).room s m args below meth c H locs 0 0 (MQ below (va_Qv (fun (_ : Unit) => True) (fun _ t => ∃ onx : Int32, ∃ otk : Int32, ∃ otv : Int32, (0 ≤ (onx : Int32).toInt ∧ (onx : Int32).toInt ≤ 440) ∧ (0 ≤ (otk : Int32).toInt ∧ (otk : Int32).toInt ≤ 4) ∧ (RUT (bg tf (tl : Int32).toInt) (nx : Int32).toInt.toNat (otk : Int32).toInt (onx : Int32).toInt.toNat (otv : Int32).toInt) ∧ va_P D vwCl [(wO4 rd tp n rd_kindWords ww fk fp onx otk tpl otv), (wO8 tp tp_bytes tl), (wI g tp_bytes 0 440 tf)] t.heap ∧ va_D A [(wO4 rd tp n rd_kindWords ww fk fp onx otk tpl otv), (wO8 tp tp_bytes tl), (wI g tp_bytes 0 440 tf)]) A) args s 0 0 A) (F0 m 4 ls []) := by
    intro n_72094
    induction n_72094 with
    | zero =>
      intro x_72090 x_72091 x_72092 x_72093 H locs ls h_x_72090 h_x_72091 h_x_72092 hr72094_0 hm_72094 hP hD hS hl
      exfalso; omega
    | succ n_72094 ih_72094 =>
      intro x_72090 x_72091 x_72092 x_72093 H locs ls h_x_72090 h_x_72091 h_x_72092 hr72094_0 hm_72094 hP hD hS hl
      refine lv_aload_n hx hb dX4_takeRun_4 rfl (lv_at hl 2 rfl) ?_
      refine va_get (D := D) (ci := 4) (v := .int x_72090) (C := RX4) (T := TX4) (N := 10) hx hb hts inlX4 hown hK hP 0 rfl rfl 6 (by decide) (hts (Cond.fieldLink RX4 61 "ChanceRings$Reader" "next" "I") qw_386) (fun _ h9 => h9) rfl dX4_takeRun_5 ?_
      refine lv_aload_n hx hb dX4_takeRun_8 rfl (lv_at hl 2 rfl) ?_
      refine va_get (D := D) (ci := 4) (v := .ref tp) (C := RX4) (T := TX4) (N := 10) hx hb hts inlX4 hown hK hP 0 rfl rfl 0 (by decide) (hts (Cond.fieldLink RX4 9 "ChanceRings$Reader" "tape" "LChanceRings$Tape;") qw_387) (fun _ h9 => h9) rfl dX4_takeRun_9 ?_
      refine va_get (D := D) (ci := 8) (v := .int tl) (C := RX8) (T := TX8) (N := 2) hx hb hts inlX8 hown hK hP 1 rfl rfl 1 (by decide) (hts (Cond.fieldLink RX4 52 "ChanceRings$Tape" "length" "I") qw_388) (fun _ h9 => h9) rfl dX4_takeRun_12 ?_
      refine lv_icmp_ge (tgt := 130) hx hb dX4_takeRun_15 (by decide) (fun c_72095 => ?_) (fun c_72095 => ?_)
      · skip
        have c_72095_i := Int32.le_iff_toInt_le.mp c_72095
        have hst : ¬ (ltr (bg tf (tl : Int32).toInt x_72090.toInt.toNat) ∨ dgt (bg tf (tl : Int32).toInt x_72090.toInt.toNat)) := by rw [bg_out (by (first | (clear h_fk h_fp h_nx h_tk h_tpl htv h_x_72091 h_x_72092; omega) | omega))]; unfold ltr dgt; (first | (clear h_fk h_fp h_nx h_tk h_tpl htv h_x_72091 h_x_72092; omega) | omega)
        have rr_8 := RNI.rng hr72094_0
        refine lv_iload_n hx hb dX4_takeRun_130 rfl (lv_at hl 0 rfl) ?_
        refine lv_if_ne (tgt := 148) hx hb dX4_takeRun_131 (by decide) (fun c_72098 => ?_) (fun c_72098 => ?_)
        · skip
          have kk_0 := tk_0
          have c_72098_i : ¬ (x_72092 : Int32).toInt = (0 : Int32).toInt := (fun q => c_72098 (Int32.toInt_inj.mp q))
          have h_72099 : 1 ≤ (x_72092 : Int32).toInt ∧ (x_72092 : Int32).toInt ≤ 440 := nr_ne_l h_x_72092 (⟨by decide, by decide⟩ : 0 ≤ (0 : Int32).toInt ∧ (0 : Int32).toInt ≤ 0) c_72098_i (by decide) (by decide)
          refine lv_iload_n hx hb dX4_takeRun_148 rfl (lv_at hl 1 rfl) ?_
          refine lv_if_ne (tgt := 165) hx hb dX4_takeRun_149 (by decide) (fun c_72101 => ?_) (fun c_72101 => ?_)
          · skip
            have c_72101_i : ¬ (x_72091 : Int32).toInt = (0 : Int32).toInt := (fun q => c_72101 (Int32.toInt_inj.mp q))
            have h_72102 : 1 ≤ (x_72091 : Int32).toInt ∧ (x_72091 : Int32).toInt ≤ 440 := nr_ne_l h_x_72091 (⟨by decide, by decide⟩ : 0 ≤ (0 : Int32).toInt ∧ (0 : Int32).toInt ≤ 0) c_72101_i (by decide) (by decide)
            refine lv_aload_n hx hb dX4_takeRun_165 rfl (lv_at hl 2 rfl) ?_
            refine lv_iconst (v := 4) hx hb dX4_takeRun_166 (by decide) ?_
            refine va_put (D := D) (ci := 4) (v := .int 4) (ty := .int) (C := RX4) (T := TX4) (N := 10) hx hb hts inlX4 tyX4 tyX4_ok nmX4 hown hK hP hD hS 0 rfl rfl 7 (by decide) (hts (Cond.fieldLink RX4 67 "ChanceRings$Reader" "token" "I") qw_389) (fun _ h9 => h9) rfl (by decide +kernel) rfl rfl (Nat.le_of_ble_eq_true rfl) dX4_takeRun_167 (fun H locs hP hD hS => ?_)
            have hP : va_P D vwCl [(wO4 rd tp n rd_kindWords ww fk fp x_72090 4 tpl x_72093), (wO8 tp tp_bytes tl), (wI g tp_bytes 0 440 tf)] H := hP
            have hD : va_D A [(wO4 rd tp n rd_kindWords ww fk fp x_72090 4 tpl x_72093), (wO8 tp tp_bytes tl), (wI g tp_bytes 0 440 tf)] := hD
            have hP9 := hP.sub (ws' := [(wO4 rd tp n rd_kindWords ww fk fp x_72090 4 tpl x_72093), (wO8 tp tp_bytes tl), (wI g tp_bytes 0 440 tf)]) [0, 1, 2] rfl
            have hD9 := hD.sub (ws' := [(wO4 rd tp n rd_kindWords ww fk fp x_72090 4 tpl x_72093), (wO8 tp tp_bytes tl), (wI g tp_bytes 0 440 tf)]) [0, 1, 2] (by decide) rfl
            exact W.vret hx hb hr (fun t ht hW => ⟨⟨(), rfl, trivial, x_72090, 4, x_72093, (tr_w h_x_72090 (by decide) (by decide)), (⟨by decide, by decide⟩ : 0 ≤ (4 : Int32).toInt ∧ (4 : Int32).toInt ≤ 4), (RNI.wrong hr72094_0 hst (by (first | (clear h_fk h_fp h_nx h_tk h_tpl htv h_x_72091 h_x_72092 c_72098_i h_72099 c_72101_i h_72102; omega) | omega)) (by (first | (clear h_fk h_fp h_nx h_tk h_tpl htv h_x_72091 h_x_72092 c_72098_i h_72099 c_72101_i h_72102; omega) | omega)) (by decide)), by rw [ht]; exact hP9, hD9⟩, hS.F ht⟩) hS.2.2 dX4_takeRun_170
          · skip
            have c_72101_i : (x_72091 : Int32).toInt = (0 : Int32).toInt := congrArg Int32.toInt c_72101
            have h_72103 : 0 ≤ (x_72091 : Int32).toInt ∧ (x_72091 : Int32).toInt ≤ 0 := nr_eq_l h_x_72091 (⟨by decide, by decide⟩ : 0 ≤ (0 : Int32).toInt ∧ (0 : Int32).toInt ≤ 0) c_72101_i (by decide) (by decide)
            refine lv_iload_n hx hb dX4_takeRun_152 rfl (lv_at hl 0 rfl) ?_
            refine lv_iconst (v := 2) hx hb dX4_takeRun_153 (by decide) ?_
            refine lv_icmp_gt (tgt := 165) hx hb dX4_takeRun_154 (by decide) (fun c_72104 => ?_) (fun c_72104 => ?_)
            · skip
              have kk_2 := tk_2
              have c_72104_i := Int32.lt_iff_toInt_lt.mp c_72104
              have h_72105 : 3 ≤ (x_72092 : Int32).toInt ∧ (x_72092 : Int32).toInt ≤ 440 := nr_lt_r (⟨by decide, by decide⟩ : 2 ≤ (2 : Int32).toInt ∧ (2 : Int32).toInt ≤ 2) h_72099 c_72104_i (by decide) (by decide)
              refine lv_aload_n hx hb dX4_takeRun_165 rfl (lv_at hl 2 rfl) ?_
              refine lv_iconst (v := 4) hx hb dX4_takeRun_166 (by decide) ?_
              refine va_put (D := D) (ci := 4) (v := .int 4) (ty := .int) (C := RX4) (T := TX4) (N := 10) hx hb hts inlX4 tyX4 tyX4_ok nmX4 hown hK hP hD hS 0 rfl rfl 7 (by decide) (hts (Cond.fieldLink RX4 67 "ChanceRings$Reader" "token" "I") qw_389) (fun _ h9 => h9) rfl (by decide +kernel) rfl rfl (Nat.le_of_ble_eq_true rfl) dX4_takeRun_167 (fun H locs hP hD hS => ?_)
              have hP : va_P D vwCl [(wO4 rd tp n rd_kindWords ww fk fp x_72090 4 tpl x_72093), (wO8 tp tp_bytes tl), (wI g tp_bytes 0 440 tf)] H := hP
              have hD : va_D A [(wO4 rd tp n rd_kindWords ww fk fp x_72090 4 tpl x_72093), (wO8 tp tp_bytes tl), (wI g tp_bytes 0 440 tf)] := hD
              have hP9 := hP.sub (ws' := [(wO4 rd tp n rd_kindWords ww fk fp x_72090 4 tpl x_72093), (wO8 tp tp_bytes tl), (wI g tp_bytes 0 440 tf)]) [0, 1, 2] rfl
              have hD9 := hD.sub (ws' := [(wO4 rd tp n rd_kindWords ww fk fp x_72090 4 tpl x_72093), (wO8 tp tp_bytes tl), (wI g tp_bytes 0 440 tf)]) [0, 1, 2] (by decide) rfl
              exact W.vret hx hb hr (fun t ht hW => ⟨⟨(), rfl, trivial, x_72090, 4, x_72093, (tr_w h_x_72090 (by decide) (by decide)), (⟨by decide, by decide⟩ : 0 ≤ (4 : Int32).toInt ∧ (4 : Int32).toInt ≤ 4), (RNI.wrong hr72094_0 hst (by (first | (clear h_fk h_fp h_nx h_tk h_tpl htv h_x_72091 h_x_72092 c_72098_i h_72099 c_72101_i h_72103 c_72104_i h_72105; omega) | omega)) (by (first | (clear h_fk h_fp h_nx h_tk h_tpl htv h_x_72091 h_x_72092 c_72098_i h_72099 c_72101_i h_72103 c_72104_i h_72105; omega) | omega)) (by decide)), by rw [ht]; exact hP9, hD9⟩, hS.F ht⟩) hS.2.2 dX4_takeRun_170
            · skip
              have kk_2 := tk_2
              have c_72104_i := Int32.le_iff_toInt_le.mp (Int32.not_lt.mp c_72104)
              have h_72106 : 1 ≤ (x_72092 : Int32).toInt ∧ (x_72092 : Int32).toInt ≤ 2 := nr_le_l h_72099 (⟨by decide, by decide⟩ : 2 ≤ (2 : Int32).toInt ∧ (2 : Int32).toInt ≤ 2) c_72104_i (by decide) (by decide)
              refine lv_aload_n hx hb dX4_takeRun_157 rfl (lv_at hl 2 rfl) ?_
              refine lv_iconst (v := 2) hx hb dX4_takeRun_158 (by decide) ?_
              refine va_put (D := D) (ci := 4) (v := .int 2) (ty := .int) (C := RX4) (T := TX4) (N := 10) hx hb hts inlX4 tyX4 tyX4_ok nmX4 hown hK hP hD hS 0 rfl rfl 7 (by decide) (hts (Cond.fieldLink RX4 67 "ChanceRings$Reader" "token" "I") qw_389) (fun _ h9 => h9) rfl (by decide +kernel) rfl rfl (Nat.le_of_ble_eq_true rfl) dX4_takeRun_159 (fun H locs hP hD hS => ?_)
              have hP : va_P D vwCl [(wO4 rd tp n rd_kindWords ww fk fp x_72090 2 tpl x_72093), (wO8 tp tp_bytes tl), (wI g tp_bytes 0 440 tf)] H := hP
              have hD : va_D A [(wO4 rd tp n rd_kindWords ww fk fp x_72090 2 tpl x_72093), (wO8 tp tp_bytes tl), (wI g tp_bytes 0 440 tf)] := hD
              refine lv_goto (tgt := 170) hx hb dX4_takeRun_162 (by decide) ?_
              have hP9 := hP.sub (ws' := [(wO4 rd tp n rd_kindWords ww fk fp x_72090 2 tpl x_72093), (wO8 tp tp_bytes tl), (wI g tp_bytes 0 440 tf)]) [0, 1, 2] rfl
              have hD9 := hD.sub (ws' := [(wO4 rd tp n rd_kindWords ww fk fp x_72090 2 tpl x_72093), (wO8 tp tp_bytes tl), (wI g tp_bytes 0 440 tf)]) [0, 1, 2] (by decide) rfl
              exact W.vret hx hb hr (fun t ht hW => ⟨⟨(), rfl, trivial, x_72090, 2, x_72093, (tr_w h_x_72090 (by decide) (by decide)), (⟨by decide, by decide⟩ : 0 ≤ (2 : Int32).toInt ∧ (2 : Int32).toInt ≤ 4), (RNI.number hr72094_0 hst (by (first | (clear h_fk h_fp h_nx h_tk h_tpl htv h_x_72091 h_x_72092 c_72098_i h_72099 c_72101_i h_72103 c_72104_i h_72106; omega) | omega)) (by (first | (clear h_fk h_fp h_nx h_tk h_tpl htv h_x_72091 h_x_72092 c_72098_i h_72099 c_72101_i h_72103 c_72104_i h_72106; omega) | omega)) (by decide)), by rw [ht]; exact hP9, hD9⟩, hS.F ht⟩) hS.2.2 dX4_takeRun_170
        · skip
          have kk_0 := tk_0
          have c_72098_i : (x_72092 : Int32).toInt = (0 : Int32).toInt := congrArg Int32.toInt c_72098
          have h_72100 : 0 ≤ (x_72092 : Int32).toInt ∧ (x_72092 : Int32).toInt ≤ 0 := nr_eq_l h_x_72092 (⟨by decide, by decide⟩ : 0 ≤ (0 : Int32).toInt ∧ (0 : Int32).toInt ≤ 0) c_72098_i (by decide) (by decide)
          refine lv_iload_n hx hb dX4_takeRun_134 rfl (lv_at hl 1 rfl) ?_
          refine lv_bipush (v := 6) hx hb dX4_takeRun_135 (by decide) ?_
          refine lv_icmp_gt (tgt := 148) hx hb dX4_takeRun_137 (by decide) (fun c_72107 => ?_) (fun c_72107 => ?_)
          · skip
            have kk_6 := tk_6
            have c_72107_i := Int32.lt_iff_toInt_lt.mp c_72107
            have h_72108 : 7 ≤ (x_72091 : Int32).toInt ∧ (x_72091 : Int32).toInt ≤ 440 := nr_lt_r (⟨by decide, by decide⟩ : 6 ≤ (6 : Int32).toInt ∧ (6 : Int32).toInt ≤ 6) h_x_72091 c_72107_i (by decide) (by decide)
            refine lv_iload_n hx hb dX4_takeRun_148 rfl (lv_at hl 1 rfl) ?_
            refine lv_if_ne (tgt := 165) hx hb dX4_takeRun_149 (by decide) (fun c_72110 => ?_) (fun h9 => (nr_x_eq h_72108 (⟨by decide, by decide⟩ : 0 ≤ (0 : Int32).toInt ∧ (0 : Int32).toInt ≤ 0) (congrArg Int32.toInt h9) (by decide)).elim)
            have c_72110_i : ¬ (x_72091 : Int32).toInt = (0 : Int32).toInt := (fun q => c_72110 (Int32.toInt_inj.mp q))
            refine lv_aload_n hx hb dX4_takeRun_165 rfl (lv_at hl 2 rfl) ?_
            refine lv_iconst (v := 4) hx hb dX4_takeRun_166 (by decide) ?_
            refine va_put (D := D) (ci := 4) (v := .int 4) (ty := .int) (C := RX4) (T := TX4) (N := 10) hx hb hts inlX4 tyX4 tyX4_ok nmX4 hown hK hP hD hS 0 rfl rfl 7 (by decide) (hts (Cond.fieldLink RX4 67 "ChanceRings$Reader" "token" "I") qw_389) (fun _ h9 => h9) rfl (by decide +kernel) rfl rfl (Nat.le_of_ble_eq_true rfl) dX4_takeRun_167 (fun H locs hP hD hS => ?_)
            have hP : va_P D vwCl [(wO4 rd tp n rd_kindWords ww fk fp x_72090 4 tpl x_72093), (wO8 tp tp_bytes tl), (wI g tp_bytes 0 440 tf)] H := hP
            have hD : va_D A [(wO4 rd tp n rd_kindWords ww fk fp x_72090 4 tpl x_72093), (wO8 tp tp_bytes tl), (wI g tp_bytes 0 440 tf)] := hD
            have hP9 := hP.sub (ws' := [(wO4 rd tp n rd_kindWords ww fk fp x_72090 4 tpl x_72093), (wO8 tp tp_bytes tl), (wI g tp_bytes 0 440 tf)]) [0, 1, 2] rfl
            have hD9 := hD.sub (ws' := [(wO4 rd tp n rd_kindWords ww fk fp x_72090 4 tpl x_72093), (wO8 tp tp_bytes tl), (wI g tp_bytes 0 440 tf)]) [0, 1, 2] (by decide) rfl
            exact W.vret hx hb hr (fun t ht hW => ⟨⟨(), rfl, trivial, x_72090, 4, x_72093, (tr_w h_x_72090 (by decide) (by decide)), (⟨by decide, by decide⟩ : 0 ≤ (4 : Int32).toInt ∧ (4 : Int32).toInt ≤ 4), (RNI.wrong hr72094_0 hst (by (first | (clear h_fk h_fp h_nx h_tk h_tpl htv h_x_72091 h_x_72092 c_72098_i h_72100 c_72107_i h_72108 c_72110_i; omega) | omega)) (by (first | (clear h_fk h_fp h_nx h_tk h_tpl htv h_x_72091 h_x_72092 c_72098_i h_72100 c_72107_i h_72108 c_72110_i; omega) | omega)) (by decide)), by rw [ht]; exact hP9, hD9⟩, hS.F ht⟩) hS.2.2 dX4_takeRun_170
          · skip
            have kk_6 := tk_6
            have c_72107_i := Int32.le_iff_toInt_le.mp (Int32.not_lt.mp c_72107)
            have h_72109 : 0 ≤ (x_72091 : Int32).toInt ∧ (x_72091 : Int32).toInt ≤ 6 := nr_le_l h_x_72091 (⟨by decide, by decide⟩ : 6 ≤ (6 : Int32).toInt ∧ (6 : Int32).toInt ≤ 6) c_72107_i (by decide) (by decide)
            refine lv_aload_n hx hb dX4_takeRun_140 rfl (lv_at hl 2 rfl) ?_
            refine lv_iconst (v := 1) hx hb dX4_takeRun_141 (by decide) ?_
            refine va_put (D := D) (ci := 4) (v := .int 1) (ty := .int) (C := RX4) (T := TX4) (N := 10) hx hb hts inlX4 tyX4 tyX4_ok nmX4 hown hK hP hD hS 0 rfl rfl 7 (by decide) (hts (Cond.fieldLink RX4 67 "ChanceRings$Reader" "token" "I") qw_389) (fun _ h9 => h9) rfl (by decide +kernel) rfl rfl (Nat.le_of_ble_eq_true rfl) dX4_takeRun_142 (fun H locs hP hD hS => ?_)
            have hP : va_P D vwCl [(wO4 rd tp n rd_kindWords ww fk fp x_72090 1 tpl x_72093), (wO8 tp tp_bytes tl), (wI g tp_bytes 0 440 tf)] H := hP
            have hD : va_D A [(wO4 rd tp n rd_kindWords ww fk fp x_72090 1 tpl x_72093), (wO8 tp tp_bytes tl), (wI g tp_bytes 0 440 tf)] := hD
            refine lv_goto (tgt := 170) hx hb dX4_takeRun_145 (by decide) ?_
            have hP9 := hP.sub (ws' := [(wO4 rd tp n rd_kindWords ww fk fp x_72090 1 tpl x_72093), (wO8 tp tp_bytes tl), (wI g tp_bytes 0 440 tf)]) [0, 1, 2] rfl
            have hD9 := hD.sub (ws' := [(wO4 rd tp n rd_kindWords ww fk fp x_72090 1 tpl x_72093), (wO8 tp tp_bytes tl), (wI g tp_bytes 0 440 tf)]) [0, 1, 2] (by decide) rfl
            exact W.vret hx hb hr (fun t ht hW => ⟨⟨(), rfl, trivial, x_72090, 1, x_72093, (tr_w h_x_72090 (by decide) (by decide)), (⟨by decide, by decide⟩ : 0 ≤ (1 : Int32).toInt ∧ (1 : Int32).toInt ≤ 4), (RNI.word hr72094_0 hst (by (first | (clear h_fk h_fp h_nx h_tk h_tpl htv h_x_72091 h_x_72092 c_72098_i h_72100 c_72107_i h_72109; omega) | omega)) (by (first | (clear h_fk h_fp h_nx h_tk h_tpl htv h_x_72091 h_x_72092 c_72098_i h_72100 c_72107_i h_72109; omega) | omega)) (by decide)), by rw [ht]; exact hP9, hD9⟩, hS.F ht⟩) hS.2.2 dX4_takeRun_170
      · skip
        have c_72095_i := Int32.lt_iff_toInt_lt.mp (Int32.not_le.mp c_72095)
        have h_72096 : 0 ≤ (x_72090 : Int32).toInt ∧ (x_72090 : Int32).toInt ≤ 439 := nr_lt_l h_x_72090 h_tl c_72095_i (by decide) (by decide)
        have h_72097 : 1 ≤ (tl : Int32).toInt ∧ (tl : Int32).toInt ≤ 440 := nr_lt_r h_x_72090 h_tl c_72095_i (by decide) (by decide)
        refine lv_aload_n hx hb dX4_takeRun_18 rfl (lv_at hl 2 rfl) ?_
        refine va_get (D := D) (ci := 4) (v := .ref tp) (C := RX4) (T := TX4) (N := 10) hx hb hts inlX4 hown hK hP 0 rfl rfl 0 (by decide) (hts (Cond.fieldLink RX4 9 "ChanceRings$Reader" "tape" "LChanceRings$Tape;") qw_387) (fun _ h9 => h9) rfl dX4_takeRun_19 ?_
        refine va_get (D := D) (ci := 8) (v := .ref tp_bytes) (C := RX8) (T := TX8) (N := 2) hx hb hts inlX8 hown hK hP 1 rfl rfl 0 (by decide) (hts (Cond.fieldLink RX4 136 "ChanceRings$Tape" "bytes" "[I") qw_390) (fun _ h9 => h9) rfl dX4_takeRun_22 ?_
        refine lv_aload_n hx hb dX4_takeRun_25 rfl (lv_at hl 2 rfl) ?_
        refine va_get (D := D) (ci := 4) (v := .int x_72090) (C := RX4) (T := TX4) (N := 10) hx hb hts inlX4 hown hK hP 0 rfl rfl 6 (by decide) (hts (Cond.fieldLink RX4 61 "ChanceRings$Reader" "next" "I") qw_386) (fun _ h9 => h9) rfl dX4_takeRun_26 ?_
        refine va_iald hx hb hK hP 2 0 rfl rfl (tr_in h_72096 (by decide) (by decide)) dX4_takeRun_29 ?_
        refine lv_topi (fun v_72111 v_72111_e => ?_)
        have h_v_72111 : 0 ≤ (v_72111 : Int32).toInt ∧ (v_72111 : Int32).toInt ≤ 255 := by rw [v_72111_e]; exact h_tf _
        have g_v_72111 : v_72111 = tf (x_72090.toInt.toNat) := v_72111_e.trans (congrArg tf rfl)
        have gi_v_72111 := congrArg Int32.toInt g_v_72111
        have rr_9 := RNI.rng hr72094_0
        have gb_v_72111 : bg tf (tl : Int32).toInt x_72090.toInt.toNat = v_72111.toInt := bg_cl h_tf gi_v_72111 (by (first | (clear h_fk h_fp h_nx h_tk h_tpl htv h_x_72091 h_x_72092; omega) | omega))
        have hPc := hP.sub (ws' := []) [] rfl
        refine vp_callSi (va_Run.run (va_runS (As := [.int v_72111]) (rest := []) ⟨hx, hb, hml, hown, hts⟩ (c_X4_isLetter l D g v_72111) (va_cwS 1 hts (tz_gS qw_391 qw_392 qw_384 qw_393) rfl rfl rfl (by decide +kernel) ⟨Nat.le_of_ble_eq_true rfl, Nat.le_of_ble_eq_true rfl⟩) ⟨tz_blS, tz_preS hPc hK⟩ rfl rfl hl.1 rfl (lv_room (Nat.le_of_ble_eq_true rfl)) dX4_takeRun_30 ⟨Nat.le_of_ble_eq_true rfl, Nat.le_of_ble_eq_true rfl⟩)) (fun r_72112 hw => ?_)
        have hw_72113 : 0 ≤ (r_72112 : Int32).toInt ∧ (r_72112 : Int32).toInt ≤ 1 := hw.1
        have hw_72113_p0 : Hide (¬ (r_72112 : Int32).toInt = 0 → 97 ≤ (v_72111 : Int32).toInt ∧ (v_72111 : Int32).toInt ≤ 122) := hw.2.1
        have hw_72113_p1 : Hide ((r_72112 : Int32).toInt = 0 → (v_72111 : Int32).toInt < 97 ∨ 122 < (v_72111 : Int32).toInt) := hw.2.2
        refine lv_if_ne (tgt := 54) hx hb dX4_takeRun_33 (by decide) (fun c_72114 => ?_) (fun c_72114 => ?_)
        · skip
          have kk_0 := tk_0
          have c_72114_i : ¬ (r_72112 : Int32).toInt = (0 : Int32).toInt := (fun q => c_72114 (Int32.toInt_inj.mp q))
          have hw_72113_p0_u := (hw_72113_p0).get (fun q => c_72114_i (q.trans tk_0.symm))
          have h_72115 : 1 ≤ (r_72112 : Int32).toInt ∧ (r_72112 : Int32).toInt ≤ 1 := nr_ne_l hw_72113 (⟨by decide, by decide⟩ : 0 ≤ (0 : Int32).toInt ∧ (0 : Int32).toInt ≤ 0) c_72114_i (by decide) (by decide)
          refine lv_aload_n hx hb dX4_takeRun_54 rfl (lv_at hl 2 rfl) ?_
          refine va_get (D := D) (ci := 4) (v := .ref tp) (C := RX4) (T := TX4) (N := 10) hx hb hts inlX4 hown hK hP 0 rfl rfl 0 (by decide) (hts (Cond.fieldLink RX4 9 "ChanceRings$Reader" "tape" "LChanceRings$Tape;") qw_387) (fun _ h9 => h9) rfl dX4_takeRun_55 ?_
          refine va_get (D := D) (ci := 8) (v := .ref tp_bytes) (C := RX8) (T := TX8) (N := 2) hx hb hts inlX8 hown hK hP 1 rfl rfl 0 (by decide) (hts (Cond.fieldLink RX4 136 "ChanceRings$Tape" "bytes" "[I") qw_390) (fun _ h9 => h9) rfl dX4_takeRun_58 ?_
          refine lv_aload_n hx hb dX4_takeRun_61 rfl (lv_at hl 2 rfl) ?_
          refine va_get (D := D) (ci := 4) (v := .int x_72090) (C := RX4) (T := TX4) (N := 10) hx hb hts inlX4 hown hK hP 0 rfl rfl 6 (by decide) (hts (Cond.fieldLink RX4 61 "ChanceRings$Reader" "next" "I") qw_386) (fun _ h9 => h9) rfl dX4_takeRun_62 ?_
          refine va_iald hx hb hK hP 2 0 rfl rfl (tr_in h_72096 (by decide) (by decide)) dX4_takeRun_65 ?_
          refine tz_i (y := v_72111) ((congrArg tf rfl).trans g_v_72111.symm) ?_
          refine lv_istore_n (lv' := [(3, .int v_72111), (2, .int x_72092), (1, .int x_72091), (0, .ref rd)]) hx hb dX4_takeRun_66 rfl hl (by decide) rfl (fun ls hl => ?_)
          refine lv_iload_n hx hb dX4_takeRun_67 rfl (lv_at hl 0 rfl) ?_
          have hPc := hP.sub (ws' := []) [] rfl
          refine vp_callSi (va_Run.run (va_runS (As := [.int v_72111]) (rest := []) ⟨hx, hb, hml, hown, hts⟩ (c_X4_isLetter l D g v_72111) (va_cwS 1 hts (tz_gS qw_391 qw_392 qw_384 qw_393) rfl rfl rfl (by decide +kernel) ⟨Nat.le_of_ble_eq_true rfl, Nat.le_of_ble_eq_true rfl⟩) ⟨tz_blS, tz_preS hPc hK⟩ rfl rfl hl.1 rfl (lv_room (Nat.le_of_ble_eq_true rfl)) dX4_takeRun_68 ⟨Nat.le_of_ble_eq_true rfl, Nat.le_of_ble_eq_true rfl⟩)) (fun r_72117 hw => ?_)
          have hw_72118 : 0 ≤ (r_72117 : Int32).toInt ∧ (r_72117 : Int32).toInt ≤ 1 := hw.1
          have hw_72118_p0 : Hide (¬ (r_72117 : Int32).toInt = 0 → 97 ≤ (v_72111 : Int32).toInt ∧ (v_72111 : Int32).toInt ≤ 122) := hw.2.1
          have hw_72118_p1 : Hide ((r_72117 : Int32).toInt = 0 → (v_72111 : Int32).toInt < 97 ∨ 122 < (v_72111 : Int32).toInt) := hw.2.2
          refine lv_if_eq (tgt := 98) hx hb dX4_takeRun_71 (by decide) (fun c_72119 => ?_) (fun c_72119 => ?_)
          · skip
            have c_72119_i : (r_72117 : Int32).toInt = (0 : Int32).toInt := congrArg Int32.toInt c_72119
            have hw_72118_p1_u := (hw_72118_p1).get (c_72119_i.trans tk_0)
            have h_72120 : 0 ≤ (r_72117 : Int32).toInt ∧ (r_72117 : Int32).toInt ≤ 0 := nr_eq_l hw_72118 (⟨by decide, by decide⟩ : 0 ≤ (0 : Int32).toInt ∧ (0 : Int32).toInt ≤ 0) c_72119_i (by decide) (by decide)
            obtain ⟨v_72122, v_72122_e⟩ : ∃ y : Int32, y = x_72092 + Int32.ofInt 1 := ⟨_, rfl⟩
            have h_v_72122 : 1 ≤ (v_72122 : Int32).toInt ∧ (v_72122 : Int32).toInt ≤ 441 := by rw [v_72122_e]; exact tr_add h_x_72092 (⟨by decide, by decide⟩ : 1 ≤ (Int32.ofInt 1 : Int32).toInt ∧ (Int32.ofInt 1 : Int32).toInt ≤ 1) (by decide) (by decide) (by decide) (by decide)
            have q_v_72122 : v_72122.toInt = x_72092.toInt + 1 := by rw [v_72122_e]; exact tr_addE h_x_72092 (⟨by decide, by decide⟩ : 1 ≤ (Int32.ofInt 1 : Int32).toInt ∧ (Int32.ofInt 1 : Int32).toInt ≤ 1) (by decide) (by decide)
            refine lv_iinc (v := v_72122) (lv' := [(2, .int v_72122), (3, .int v_72111), (1, .int x_72091), (0, .ref rd)]) hx hb dX4_takeRun_98 hl (k := 1) rfl v_72122_e.symm (by decide) rfl (fun ls hl => ?_)
            refine lv_aload_n hx hb dX4_takeRun_101 rfl (lv_at hl 3 rfl) ?_
            refine lv_aload_n hx hb dX4_takeRun_102 rfl (lv_at hl 3 rfl) ?_
            refine va_get (D := D) (ci := 4) (v := .int x_72093) (C := RX4) (T := TX4) (N := 10) hx hb hts inlX4 hown hK hP 0 rfl rfl 9 (by decide) (hts (Cond.fieldLink RX4 86 "ChanceRings$Reader" "tokenValue" "I") qw_394) (fun _ h9 => h9) rfl dX4_takeRun_103 ?_
            refine lv_bipush (v := 10) hx hb dX4_takeRun_106 (by decide) ?_
            refine lv_imul hx hb dX4_takeRun_108 ?_
            refine lv_topi (fun v_72123 v_72123_e => ?_)
            refine lv_iload_n hx hb dX4_takeRun_109 rfl (lv_at hl 1 rfl) ?_
            refine lv_bipush (v := 48) hx hb dX4_takeRun_110 (by decide) ?_
            refine lv_isub hx hb dX4_takeRun_112 ?_
            refine lv_topi (fun v_72124 v_72124_e => ?_)
            have h_v_72124 : (-48) ≤ (v_72124 : Int32).toInt ∧ (v_72124 : Int32).toInt ≤ 207 := by rw [v_72124_e]; exact tr_sub h_v_72111 (⟨by decide, by decide⟩ : 48 ≤ (48 : Int32).toInt ∧ (48 : Int32).toInt ≤ 48) (by decide) (by decide) (by decide) (by decide)
            have q_v_72124 : v_72124.toInt = v_72111.toInt - 48 := by rw [v_72124_e]; exact tr_subE h_v_72111 (⟨by decide, by decide⟩ : 48 ≤ (48 : Int32).toInt ∧ (48 : Int32).toInt ≤ 48) (by decide) (by decide)
            refine lv_iadd hx hb dX4_takeRun_113 ?_
            refine lv_topi (fun v_72125 v_72125_e => ?_)
            refine va_put (D := D) (ci := 4) (v := .int v_72125) (ty := .int) (C := RX4) (T := TX4) (N := 10) hx hb hts inlX4 tyX4 tyX4_ok nmX4 hown hK hP hD hS 0 rfl rfl 9 (by decide) (hts (Cond.fieldLink RX4 86 "ChanceRings$Reader" "tokenValue" "I") qw_394) (fun _ h9 => h9) rfl (by decide +kernel) rfl rfl (Nat.le_of_ble_eq_true rfl) dX4_takeRun_114 (fun H locs hP hD hS => ?_)
            have hP : va_P D vwCl [(wO4 rd tp n rd_kindWords ww fk fp x_72090 tk tpl v_72125), (wO8 tp tp_bytes tl), (wI g tp_bytes 0 440 tf)] H := hP
            have hD : va_D A [(wO4 rd tp n rd_kindWords ww fk fp x_72090 tk tpl v_72125), (wO8 tp tp_bytes tl), (wI g tp_bytes 0 440 tf)] := hD
            refine lv_aload_n hx hb dX4_takeRun_117 rfl (lv_at hl 3 rfl) ?_
            refine lv_dup hx hb dX4_takeRun_118 rfl ?_
            refine va_get (D := D) (ci := 4) (v := .int x_72090) (C := RX4) (T := TX4) (N := 10) hx hb hts inlX4 hown hK hP 0 rfl rfl 6 (by decide) (hts (Cond.fieldLink RX4 61 "ChanceRings$Reader" "next" "I") qw_386) (fun _ h9 => h9) rfl dX4_takeRun_119 ?_
            refine lv_iconst (v := 1) hx hb dX4_takeRun_122 (by decide) ?_
            refine lv_iadd hx hb dX4_takeRun_123 ?_
            refine lv_topi (fun v_72126 v_72126_e => ?_)
            have h_v_72126 : 1 ≤ (v_72126 : Int32).toInt ∧ (v_72126 : Int32).toInt ≤ 440 := by rw [v_72126_e]; exact tr_add h_72096 (⟨by decide, by decide⟩ : 1 ≤ (1 : Int32).toInt ∧ (1 : Int32).toInt ≤ 1) (by decide) (by decide) (by decide) (by decide)
            have q_v_72126 : v_72126.toInt = x_72090.toInt + 1 := by rw [v_72126_e]; exact tr_addE h_72096 (⟨by decide, by decide⟩ : 1 ≤ (1 : Int32).toInt ∧ (1 : Int32).toInt ≤ 1) (by decide) (by decide)
            refine va_put (D := D) (ci := 4) (v := .int v_72126) (ty := .int) (C := RX4) (T := TX4) (N := 10) hx hb hts inlX4 tyX4 tyX4_ok nmX4 hown hK hP hD hS 0 rfl rfl 6 (by decide) (hts (Cond.fieldLink RX4 61 "ChanceRings$Reader" "next" "I") qw_386) (fun _ h9 => h9) rfl (by decide +kernel) rfl rfl (Nat.le_of_ble_eq_true rfl) dX4_takeRun_124 (fun H locs hP hD hS => ?_)
            have hP : va_P D vwCl [(wO4 rd tp n rd_kindWords ww fk fp v_72126 tk tpl v_72125), (wO8 tp tp_bytes tl), (wI g tp_bytes 0 440 tf)] H := hP
            have hD : va_D A [(wO4 rd tp n rd_kindWords ww fk fp v_72126 tk tpl v_72125), (wO8 tp tp_bytes tl), (wI g tp_bytes 0 440 tf)] := hD
            refine lv_goto (tgt := 4) hx hb dX4_takeRun_127 (by decide) ?_
            exact ih_72094 v_72126 x_72091 v_72122 v_72125 H _ ls (tr_w h_v_72126 (by decide) (by decide)) (tr_w h_x_72091 (by decide) (by decide)) (by (first | (clear h_fk h_fp h_nx h_tk h_tpl htv hw_72113 c_72114_i h_72115 hw_72118 c_72119_i h_72120; omega) | omega)) (RNI.digit hr72094_0 (by (first | (clear h_fk h_fp h_nx h_tk h_tpl htv hw_72113 c_72114_i h_72115 hw_72118 c_72119_i h_72120; omega) | omega)) (by rw [gb_v_72111]; unfold dgt; (first | (clear h_fk h_fp h_nx h_tk h_tpl htv hw_72113 c_72114_i h_72115 hw_72118 c_72119_i h_72120; omega) | omega)) (by (first | (clear h_fk h_fp h_nx h_tk h_tpl htv hw_72113 c_72114_i h_72115 hw_72118 c_72119_i h_72120; omega) | omega)) (fun q9 q8 => by rw [gb_v_72111]; have b9 := RNI.bd2 hr72094_0 q9 (by (first | (clear h_fk h_fp h_nx h_tk h_tpl htv hw_72113 c_72114_i h_72115 hw_72118 c_72119_i h_72120; omega) | omega)); have b8 := tv10 v_72123_e v_72125_e b9.1 (by (first | (clear h_fk h_fp h_nx h_tk h_tpl htv hw_72113 c_72114_i h_72115 hw_72118 c_72119_i h_72120; omega) | omega)) (by (first | (clear h_fk h_fp h_nx h_tk h_tpl htv hw_72113 c_72114_i h_72115 hw_72118 c_72119_i h_72120; omega) | omega)) (by (first | (clear h_fk h_fp h_nx h_tk h_tpl htv hw_72113 c_72114_i h_72115 hw_72118 c_72119_i h_72120; omega) | omega)); (first | (clear h_fk h_fp h_nx h_tk h_tpl htv hw_72113 c_72114_i h_72115 hw_72118 c_72119_i h_72120; omega) | omega))) (by (first | (clear h_fk h_fp h_nx h_tk h_tpl htv hw_72113 c_72114_i h_72115 hw_72118 c_72119_i h_72120; omega) | omega)) (hP.sub [0, 1, 2] rfl) (hD.sub [0, 1, 2] (by decide) rfl) hS (lv_sub hl [0, 2, 3] rfl)
          · skip
            have c_72119_i : ¬ (r_72117 : Int32).toInt = (0 : Int32).toInt := (fun q => c_72119 (Int32.toInt_inj.mp q))
            have hw_72118_p0_u := (hw_72118_p0).get (fun q => c_72119_i (q.trans tk_0.symm))
            have h_72121 : 1 ≤ (r_72117 : Int32).toInt ∧ (r_72117 : Int32).toInt ≤ 1 := nr_ne_l hw_72118 (⟨by decide, by decide⟩ : 0 ≤ (0 : Int32).toInt ∧ (0 : Int32).toInt ≤ 0) c_72119_i (by decide) (by decide)
            obtain ⟨v_72127, v_72127_e⟩ : ∃ y : Int32, y = x_72091 + Int32.ofInt 1 := ⟨_, rfl⟩
            have h_v_72127 : 1 ≤ (v_72127 : Int32).toInt ∧ (v_72127 : Int32).toInt ≤ 441 := by rw [v_72127_e]; exact tr_add h_x_72091 (⟨by decide, by decide⟩ : 1 ≤ (Int32.ofInt 1 : Int32).toInt ∧ (Int32.ofInt 1 : Int32).toInt ≤ 1) (by decide) (by decide) (by decide) (by decide)
            have q_v_72127 : v_72127.toInt = x_72091.toInt + 1 := by rw [v_72127_e]; exact tr_addE h_x_72091 (⟨by decide, by decide⟩ : 1 ≤ (Int32.ofInt 1 : Int32).toInt ∧ (Int32.ofInt 1 : Int32).toInt ≤ 1) (by decide) (by decide)
            refine lv_iinc (v := v_72127) (lv' := [(1, .int v_72127), (3, .int v_72111), (2, .int x_72092), (0, .ref rd)]) hx hb dX4_takeRun_74 hl (k := 2) rfl v_72127_e.symm (by decide) rfl (fun ls hl => ?_)
            refine lv_aload_n hx hb dX4_takeRun_77 rfl (lv_at hl 3 rfl) ?_
            refine lv_aload_n hx hb dX4_takeRun_78 rfl (lv_at hl 3 rfl) ?_
            refine va_get (D := D) (ci := 4) (v := .int x_72093) (C := RX4) (T := TX4) (N := 10) hx hb hts inlX4 hown hK hP 0 rfl rfl 9 (by decide) (hts (Cond.fieldLink RX4 86 "ChanceRings$Reader" "tokenValue" "I") qw_394) (fun _ h9 => h9) rfl dX4_takeRun_79 ?_
            refine lv_bipush (v := 27) hx hb dX4_takeRun_82 (by decide) ?_
            refine lv_imul hx hb dX4_takeRun_84 ?_
            refine lv_topi (fun v_72128 v_72128_e => ?_)
            refine lv_iload_n hx hb dX4_takeRun_85 rfl (lv_at hl 1 rfl) ?_
            refine lv_bipush (v := 97) hx hb dX4_takeRun_86 (by decide) ?_
            refine lv_isub hx hb dX4_takeRun_88 ?_
            refine lv_topi (fun v_72129 v_72129_e => ?_)
            have h_v_72129 : (-97) ≤ (v_72129 : Int32).toInt ∧ (v_72129 : Int32).toInt ≤ 158 := by rw [v_72129_e]; exact tr_sub h_v_72111 (⟨by decide, by decide⟩ : 97 ≤ (97 : Int32).toInt ∧ (97 : Int32).toInt ≤ 97) (by decide) (by decide) (by decide) (by decide)
            have q_v_72129 : v_72129.toInt = v_72111.toInt - 97 := by rw [v_72129_e]; exact tr_subE h_v_72111 (⟨by decide, by decide⟩ : 97 ≤ (97 : Int32).toInt ∧ (97 : Int32).toInt ≤ 97) (by decide) (by decide)
            refine lv_iconst (v := 1) hx hb dX4_takeRun_89 (by decide) ?_
            refine lv_iadd hx hb dX4_takeRun_90 ?_
            refine lv_topi (fun v_72130 v_72130_e => ?_)
            have h_v_72130 : (-96) ≤ (v_72130 : Int32).toInt ∧ (v_72130 : Int32).toInt ≤ 159 := by rw [v_72130_e]; exact tr_add h_v_72129 (⟨by decide, by decide⟩ : 1 ≤ (1 : Int32).toInt ∧ (1 : Int32).toInt ≤ 1) (by decide) (by decide) (by decide) (by decide)
            have q_v_72130 : v_72130.toInt = v_72129.toInt + 1 := by rw [v_72130_e]; exact tr_addE h_v_72129 (⟨by decide, by decide⟩ : 1 ≤ (1 : Int32).toInt ∧ (1 : Int32).toInt ≤ 1) (by decide) (by decide)
            refine lv_iadd hx hb dX4_takeRun_91 ?_
            refine lv_topi (fun v_72131 v_72131_e => ?_)
            refine va_put (D := D) (ci := 4) (v := .int v_72131) (ty := .int) (C := RX4) (T := TX4) (N := 10) hx hb hts inlX4 tyX4 tyX4_ok nmX4 hown hK hP hD hS 0 rfl rfl 9 (by decide) (hts (Cond.fieldLink RX4 86 "ChanceRings$Reader" "tokenValue" "I") qw_394) (fun _ h9 => h9) rfl (by decide +kernel) rfl rfl (Nat.le_of_ble_eq_true rfl) dX4_takeRun_92 (fun H locs hP hD hS => ?_)
            have hP : va_P D vwCl [(wO4 rd tp n rd_kindWords ww fk fp x_72090 tk tpl v_72131), (wO8 tp tp_bytes tl), (wI g tp_bytes 0 440 tf)] H := hP
            have hD : va_D A [(wO4 rd tp n rd_kindWords ww fk fp x_72090 tk tpl v_72131), (wO8 tp tp_bytes tl), (wI g tp_bytes 0 440 tf)] := hD
            refine lv_goto (tgt := 117) hx hb dX4_takeRun_95 (by decide) ?_
            refine lv_aload_n hx hb dX4_takeRun_117 rfl (lv_at hl 3 rfl) ?_
            refine lv_dup hx hb dX4_takeRun_118 rfl ?_
            refine va_get (D := D) (ci := 4) (v := .int x_72090) (C := RX4) (T := TX4) (N := 10) hx hb hts inlX4 hown hK hP 0 rfl rfl 6 (by decide) (hts (Cond.fieldLink RX4 61 "ChanceRings$Reader" "next" "I") qw_386) (fun _ h9 => h9) rfl dX4_takeRun_119 ?_
            refine lv_iconst (v := 1) hx hb dX4_takeRun_122 (by decide) ?_
            refine lv_iadd hx hb dX4_takeRun_123 ?_
            refine lv_topi (fun v_72132 v_72132_e => ?_)
            have h_v_72132 : 1 ≤ (v_72132 : Int32).toInt ∧ (v_72132 : Int32).toInt ≤ 440 := by rw [v_72132_e]; exact tr_add h_72096 (⟨by decide, by decide⟩ : 1 ≤ (1 : Int32).toInt ∧ (1 : Int32).toInt ≤ 1) (by decide) (by decide) (by decide) (by decide)
            have q_v_72132 : v_72132.toInt = x_72090.toInt + 1 := by rw [v_72132_e]; exact tr_addE h_72096 (⟨by decide, by decide⟩ : 1 ≤ (1 : Int32).toInt ∧ (1 : Int32).toInt ≤ 1) (by decide) (by decide)
            refine va_put (D := D) (ci := 4) (v := .int v_72132) (ty := .int) (C := RX4) (T := TX4) (N := 10) hx hb hts inlX4 tyX4 tyX4_ok nmX4 hown hK hP hD hS 0 rfl rfl 6 (by decide) (hts (Cond.fieldLink RX4 61 "ChanceRings$Reader" "next" "I") qw_386) (fun _ h9 => h9) rfl (by decide +kernel) rfl rfl (Nat.le_of_ble_eq_true rfl) dX4_takeRun_124 (fun H locs hP hD hS => ?_)
            have hP : va_P D vwCl [(wO4 rd tp n rd_kindWords ww fk fp v_72132 tk tpl v_72131), (wO8 tp tp_bytes tl), (wI g tp_bytes 0 440 tf)] H := hP
            have hD : va_D A [(wO4 rd tp n rd_kindWords ww fk fp v_72132 tk tpl v_72131), (wO8 tp tp_bytes tl), (wI g tp_bytes 0 440 tf)] := hD
            refine lv_goto (tgt := 4) hx hb dX4_takeRun_127 (by decide) ?_
            exact ih_72094 v_72132 v_72127 x_72092 v_72131 H _ ls (tr_w h_v_72132 (by decide) (by decide)) (by (first | (clear h_fk h_fp h_nx h_tk h_tpl htv hw_72113 c_72114_i h_72115 hw_72118 c_72119_i h_72121; omega) | omega)) (tr_w h_x_72092 (by decide) (by decide)) (RNI.letter hr72094_0 (by (first | (clear h_fk h_fp h_nx h_tk h_tpl htv hw_72113 c_72114_i h_72115 hw_72118 c_72119_i h_72121; omega) | omega)) (by rw [gb_v_72111]; unfold ltr; (first | (clear h_fk h_fp h_nx h_tk h_tpl htv hw_72113 c_72114_i h_72115 hw_72118 c_72119_i h_72121; omega) | omega)) (by (first | (clear h_fk h_fp h_nx h_tk h_tpl htv hw_72113 c_72114_i h_72115 hw_72118 c_72119_i h_72121; omega) | omega)) (fun q9 q8 => by rw [gb_v_72111]; have b9 := RNI.bd hr72094_0 q9 (by (first | (clear h_fk h_fp h_nx h_tk h_tpl htv hw_72113 c_72114_i h_72115 hw_72118 c_72119_i h_72121; omega) | omega)); have b8 := tv27 v_72128_e v_72131_e b9.1 b9.2 (by (first | (clear h_fk h_fp h_nx h_tk h_tpl htv hw_72113 c_72114_i h_72115 hw_72118 c_72119_i h_72121; omega) | omega)) (by (first | (clear h_fk h_fp h_nx h_tk h_tpl htv hw_72113 c_72114_i h_72115 hw_72118 c_72119_i h_72121; omega) | omega)); (first | (clear h_fk h_fp h_nx h_tk h_tpl htv hw_72113 c_72114_i h_72115 hw_72118 c_72119_i h_72121; omega) | omega))) (by (first | (clear h_fk h_fp h_nx h_tk h_tpl htv hw_72113 c_72114_i h_72115 hw_72118 c_72119_i h_72121; omega) | omega)) (hP.sub [0, 1, 2] rfl) (hD.sub [0, 1, 2] (by decide) rfl) hS (lv_sub hl [2, 0, 3] rfl)
        · skip
          have kk_0 := tk_0
          have c_72114_i : (r_72112 : Int32).toInt = (0 : Int32).toInt := congrArg Int32.toInt c_72114
          have hw_72113_p1_u := (hw_72113_p1).get (c_72114_i.trans tk_0)
          have h_72116 : 0 ≤ (r_72112 : Int32).toInt ∧ (r_72112 : Int32).toInt ≤ 0 := nr_eq_l hw_72113 (⟨by decide, by decide⟩ : 0 ≤ (0 : Int32).toInt ∧ (0 : Int32).toInt ≤ 0) c_72114_i (by decide) (by decide)
          refine lv_aload_n hx hb dX4_takeRun_36 rfl (lv_at hl 2 rfl) ?_
          refine va_get (D := D) (ci := 4) (v := .ref tp) (C := RX4) (T := TX4) (N := 10) hx hb hts inlX4 hown hK hP 0 rfl rfl 0 (by decide) (hts (Cond.fieldLink RX4 9 "ChanceRings$Reader" "tape" "LChanceRings$Tape;") qw_387) (fun _ h9 => h9) rfl dX4_takeRun_37 ?_
          refine va_get (D := D) (ci := 8) (v := .ref tp_bytes) (C := RX8) (T := TX8) (N := 2) hx hb hts inlX8 hown hK hP 1 rfl rfl 0 (by decide) (hts (Cond.fieldLink RX4 136 "ChanceRings$Tape" "bytes" "[I") qw_390) (fun _ h9 => h9) rfl dX4_takeRun_40 ?_
          refine lv_aload_n hx hb dX4_takeRun_43 rfl (lv_at hl 2 rfl) ?_
          refine va_get (D := D) (ci := 4) (v := .int x_72090) (C := RX4) (T := TX4) (N := 10) hx hb hts inlX4 hown hK hP 0 rfl rfl 6 (by decide) (hts (Cond.fieldLink RX4 61 "ChanceRings$Reader" "next" "I") qw_386) (fun _ h9 => h9) rfl dX4_takeRun_44 ?_
          refine va_iald hx hb hK hP 2 0 rfl rfl (tr_in h_72096 (by decide) (by decide)) dX4_takeRun_47 ?_
          refine tz_i (y := v_72111) ((congrArg tf rfl).trans g_v_72111.symm) ?_
          have hPc := hP.sub (ws' := []) [] rfl
          refine vp_callSi (va_Run.run (va_runS (As := [.int v_72111]) (rest := []) ⟨hx, hb, hml, hown, hts⟩ (c_X4_isDigit l D g v_72111) (va_cwS 1 hts (tz_gS qw_395 qw_396 qw_384 qw_397) rfl rfl rfl (by decide +kernel) ⟨Nat.le_of_ble_eq_true rfl, Nat.le_of_ble_eq_true rfl⟩) ⟨tz_blS, tz_preS hPc hK⟩ rfl rfl hl.1 rfl (lv_room (Nat.le_of_ble_eq_true rfl)) dX4_takeRun_48 ⟨Nat.le_of_ble_eq_true rfl, Nat.le_of_ble_eq_true rfl⟩)) (fun r_72133 hw => ?_)
          have hw_72134 : 0 ≤ (r_72133 : Int32).toInt ∧ (r_72133 : Int32).toInt ≤ 1 := hw.1
          have hw_72134_p0 : Hide (¬ (r_72133 : Int32).toInt = 0 → 48 ≤ (v_72111 : Int32).toInt ∧ (v_72111 : Int32).toInt ≤ 57) := hw.2.1
          have hw_72134_p1 : Hide ((r_72133 : Int32).toInt = 0 → (v_72111 : Int32).toInt < 48 ∨ 57 < (v_72111 : Int32).toInt) := hw.2.2
          refine lv_if_eq (tgt := 130) hx hb dX4_takeRun_51 (by decide) (fun c_72135 => ?_) (fun c_72135 => ?_)
          · skip
            have c_72135_i : (r_72133 : Int32).toInt = (0 : Int32).toInt := congrArg Int32.toInt c_72135
            have hw_72134_p1_u := (hw_72134_p1).get (c_72135_i.trans tk_0)
            have h_72136 : 0 ≤ (r_72133 : Int32).toInt ∧ (r_72133 : Int32).toInt ≤ 0 := nr_eq_l hw_72134 (⟨by decide, by decide⟩ : 0 ≤ (0 : Int32).toInt ∧ (0 : Int32).toInt ≤ 0) c_72135_i (by decide) (by decide)
            have hst : ¬ (ltr (bg tf (tl : Int32).toInt x_72090.toInt.toNat) ∨ dgt (bg tf (tl : Int32).toInt x_72090.toInt.toNat)) := by rw [gb_v_72111]; unfold ltr dgt; (first | (clear h_fk h_fp h_nx h_tk h_tpl htv h_x_72091 h_x_72092 hw_72113 c_72114_i h_72116 hw_72134 c_72135_i h_72136; omega) | omega)
            have rr_8 := RNI.rng hr72094_0
            refine lv_iload_n hx hb dX4_takeRun_130 rfl (lv_at hl 0 rfl) ?_
            refine lv_if_ne (tgt := 148) hx hb dX4_takeRun_131 (by decide) (fun c_72138 => ?_) (fun c_72138 => ?_)
            · skip
              have c_72138_i : ¬ (x_72092 : Int32).toInt = (0 : Int32).toInt := (fun q => c_72138 (Int32.toInt_inj.mp q))
              have h_72139 : 1 ≤ (x_72092 : Int32).toInt ∧ (x_72092 : Int32).toInt ≤ 440 := nr_ne_l h_x_72092 (⟨by decide, by decide⟩ : 0 ≤ (0 : Int32).toInt ∧ (0 : Int32).toInt ≤ 0) c_72138_i (by decide) (by decide)
              refine lv_iload_n hx hb dX4_takeRun_148 rfl (lv_at hl 1 rfl) ?_
              refine lv_if_ne (tgt := 165) hx hb dX4_takeRun_149 (by decide) (fun c_72141 => ?_) (fun c_72141 => ?_)
              · skip
                have c_72141_i : ¬ (x_72091 : Int32).toInt = (0 : Int32).toInt := (fun q => c_72141 (Int32.toInt_inj.mp q))
                have h_72142 : 1 ≤ (x_72091 : Int32).toInt ∧ (x_72091 : Int32).toInt ≤ 440 := nr_ne_l h_x_72091 (⟨by decide, by decide⟩ : 0 ≤ (0 : Int32).toInt ∧ (0 : Int32).toInt ≤ 0) c_72141_i (by decide) (by decide)
                refine lv_aload_n hx hb dX4_takeRun_165 rfl (lv_at hl 2 rfl) ?_
                refine lv_iconst (v := 4) hx hb dX4_takeRun_166 (by decide) ?_
                refine va_put (D := D) (ci := 4) (v := .int 4) (ty := .int) (C := RX4) (T := TX4) (N := 10) hx hb hts inlX4 tyX4 tyX4_ok nmX4 hown hK hP hD hS 0 rfl rfl 7 (by decide) (hts (Cond.fieldLink RX4 67 "ChanceRings$Reader" "token" "I") qw_389) (fun _ h9 => h9) rfl (by decide +kernel) rfl rfl (Nat.le_of_ble_eq_true rfl) dX4_takeRun_167 (fun H locs hP hD hS => ?_)
                have hP : va_P D vwCl [(wO4 rd tp n rd_kindWords ww fk fp x_72090 4 tpl x_72093), (wO8 tp tp_bytes tl), (wI g tp_bytes 0 440 tf)] H := hP
                have hD : va_D A [(wO4 rd tp n rd_kindWords ww fk fp x_72090 4 tpl x_72093), (wO8 tp tp_bytes tl), (wI g tp_bytes 0 440 tf)] := hD
                have hP9 := hP.sub (ws' := [(wO4 rd tp n rd_kindWords ww fk fp x_72090 4 tpl x_72093), (wO8 tp tp_bytes tl), (wI g tp_bytes 0 440 tf)]) [0, 1, 2] rfl
                have hD9 := hD.sub (ws' := [(wO4 rd tp n rd_kindWords ww fk fp x_72090 4 tpl x_72093), (wO8 tp tp_bytes tl), (wI g tp_bytes 0 440 tf)]) [0, 1, 2] (by decide) rfl
                exact W.vret hx hb hr (fun t ht hW => ⟨⟨(), rfl, trivial, x_72090, 4, x_72093, (tr_w h_72096 (by decide) (by decide)), (⟨by decide, by decide⟩ : 0 ≤ (4 : Int32).toInt ∧ (4 : Int32).toInt ≤ 4), (RNI.wrong hr72094_0 hst (by (first | (clear h_fk h_fp h_nx h_tk h_tpl htv h_x_72091 h_x_72092 hw_72113 c_72114_i h_72116 hw_72134 c_72135_i h_72136 c_72138_i h_72139 c_72141_i h_72142; omega) | omega)) (by (first | (clear h_fk h_fp h_nx h_tk h_tpl htv h_x_72091 h_x_72092 hw_72113 c_72114_i h_72116 hw_72134 c_72135_i h_72136 c_72138_i h_72139 c_72141_i h_72142; omega) | omega)) (by decide)), by rw [ht]; exact hP9, hD9⟩, hS.F ht⟩) hS.2.2 dX4_takeRun_170
              · skip
                have c_72141_i : (x_72091 : Int32).toInt = (0 : Int32).toInt := congrArg Int32.toInt c_72141
                have h_72143 : 0 ≤ (x_72091 : Int32).toInt ∧ (x_72091 : Int32).toInt ≤ 0 := nr_eq_l h_x_72091 (⟨by decide, by decide⟩ : 0 ≤ (0 : Int32).toInt ∧ (0 : Int32).toInt ≤ 0) c_72141_i (by decide) (by decide)
                refine lv_iload_n hx hb dX4_takeRun_152 rfl (lv_at hl 0 rfl) ?_
                refine lv_iconst (v := 2) hx hb dX4_takeRun_153 (by decide) ?_
                refine lv_icmp_gt (tgt := 165) hx hb dX4_takeRun_154 (by decide) (fun c_72144 => ?_) (fun c_72144 => ?_)
                · skip
                  have kk_2 := tk_2
                  have c_72144_i := Int32.lt_iff_toInt_lt.mp c_72144
                  have h_72145 : 3 ≤ (x_72092 : Int32).toInt ∧ (x_72092 : Int32).toInt ≤ 440 := nr_lt_r (⟨by decide, by decide⟩ : 2 ≤ (2 : Int32).toInt ∧ (2 : Int32).toInt ≤ 2) h_72139 c_72144_i (by decide) (by decide)
                  refine lv_aload_n hx hb dX4_takeRun_165 rfl (lv_at hl 2 rfl) ?_
                  refine lv_iconst (v := 4) hx hb dX4_takeRun_166 (by decide) ?_
                  refine va_put (D := D) (ci := 4) (v := .int 4) (ty := .int) (C := RX4) (T := TX4) (N := 10) hx hb hts inlX4 tyX4 tyX4_ok nmX4 hown hK hP hD hS 0 rfl rfl 7 (by decide) (hts (Cond.fieldLink RX4 67 "ChanceRings$Reader" "token" "I") qw_389) (fun _ h9 => h9) rfl (by decide +kernel) rfl rfl (Nat.le_of_ble_eq_true rfl) dX4_takeRun_167 (fun H locs hP hD hS => ?_)
                  have hP : va_P D vwCl [(wO4 rd tp n rd_kindWords ww fk fp x_72090 4 tpl x_72093), (wO8 tp tp_bytes tl), (wI g tp_bytes 0 440 tf)] H := hP
                  have hD : va_D A [(wO4 rd tp n rd_kindWords ww fk fp x_72090 4 tpl x_72093), (wO8 tp tp_bytes tl), (wI g tp_bytes 0 440 tf)] := hD
                  have hP9 := hP.sub (ws' := [(wO4 rd tp n rd_kindWords ww fk fp x_72090 4 tpl x_72093), (wO8 tp tp_bytes tl), (wI g tp_bytes 0 440 tf)]) [0, 1, 2] rfl
                  have hD9 := hD.sub (ws' := [(wO4 rd tp n rd_kindWords ww fk fp x_72090 4 tpl x_72093), (wO8 tp tp_bytes tl), (wI g tp_bytes 0 440 tf)]) [0, 1, 2] (by decide) rfl
                  exact W.vret hx hb hr (fun t ht hW => ⟨⟨(), rfl, trivial, x_72090, 4, x_72093, (tr_w h_72096 (by decide) (by decide)), (⟨by decide, by decide⟩ : 0 ≤ (4 : Int32).toInt ∧ (4 : Int32).toInt ≤ 4), (RNI.wrong hr72094_0 hst (by (first | (clear h_fk h_fp h_nx h_tk h_tpl htv h_x_72091 h_x_72092 hw_72113 c_72114_i h_72116 hw_72134 c_72135_i h_72136 c_72138_i h_72139 c_72141_i h_72143 c_72144_i h_72145; omega) | omega)) (by (first | (clear h_fk h_fp h_nx h_tk h_tpl htv h_x_72091 h_x_72092 hw_72113 c_72114_i h_72116 hw_72134 c_72135_i h_72136 c_72138_i h_72139 c_72141_i h_72143 c_72144_i h_72145; omega) | omega)) (by decide)), by rw [ht]; exact hP9, hD9⟩, hS.F ht⟩) hS.2.2 dX4_takeRun_170
                · skip
                  have kk_2 := tk_2
                  have c_72144_i := Int32.le_iff_toInt_le.mp (Int32.not_lt.mp c_72144)
                  have h_72146 : 1 ≤ (x_72092 : Int32).toInt ∧ (x_72092 : Int32).toInt ≤ 2 := nr_le_l h_72139 (⟨by decide, by decide⟩ : 2 ≤ (2 : Int32).toInt ∧ (2 : Int32).toInt ≤ 2) c_72144_i (by decide) (by decide)
                  refine lv_aload_n hx hb dX4_takeRun_157 rfl (lv_at hl 2 rfl) ?_
                  refine lv_iconst (v := 2) hx hb dX4_takeRun_158 (by decide) ?_
                  refine va_put (D := D) (ci := 4) (v := .int 2) (ty := .int) (C := RX4) (T := TX4) (N := 10) hx hb hts inlX4 tyX4 tyX4_ok nmX4 hown hK hP hD hS 0 rfl rfl 7 (by decide) (hts (Cond.fieldLink RX4 67 "ChanceRings$Reader" "token" "I") qw_389) (fun _ h9 => h9) rfl (by decide +kernel) rfl rfl (Nat.le_of_ble_eq_true rfl) dX4_takeRun_159 (fun H locs hP hD hS => ?_)
                  have hP : va_P D vwCl [(wO4 rd tp n rd_kindWords ww fk fp x_72090 2 tpl x_72093), (wO8 tp tp_bytes tl), (wI g tp_bytes 0 440 tf)] H := hP
                  have hD : va_D A [(wO4 rd tp n rd_kindWords ww fk fp x_72090 2 tpl x_72093), (wO8 tp tp_bytes tl), (wI g tp_bytes 0 440 tf)] := hD
                  refine lv_goto (tgt := 170) hx hb dX4_takeRun_162 (by decide) ?_
                  have hP9 := hP.sub (ws' := [(wO4 rd tp n rd_kindWords ww fk fp x_72090 2 tpl x_72093), (wO8 tp tp_bytes tl), (wI g tp_bytes 0 440 tf)]) [0, 1, 2] rfl
                  have hD9 := hD.sub (ws' := [(wO4 rd tp n rd_kindWords ww fk fp x_72090 2 tpl x_72093), (wO8 tp tp_bytes tl), (wI g tp_bytes 0 440 tf)]) [0, 1, 2] (by decide) rfl
                  exact W.vret hx hb hr (fun t ht hW => ⟨⟨(), rfl, trivial, x_72090, 2, x_72093, (tr_w h_72096 (by decide) (by decide)), (⟨by decide, by decide⟩ : 0 ≤ (2 : Int32).toInt ∧ (2 : Int32).toInt ≤ 4), (RNI.number hr72094_0 hst (by (first | (clear h_fk h_fp h_nx h_tk h_tpl htv h_x_72091 h_x_72092 hw_72113 c_72114_i h_72116 hw_72134 c_72135_i h_72136 c_72138_i h_72139 c_72141_i h_72143 c_72144_i h_72146; omega) | omega)) (by (first | (clear h_fk h_fp h_nx h_tk h_tpl htv h_x_72091 h_x_72092 hw_72113 c_72114_i h_72116 hw_72134 c_72135_i h_72136 c_72138_i h_72139 c_72141_i h_72143 c_72144_i h_72146; omega) | omega)) (by decide)), by rw [ht]; exact hP9, hD9⟩, hS.F ht⟩) hS.2.2 dX4_takeRun_170
            · skip
              have c_72138_i : (x_72092 : Int32).toInt = (0 : Int32).toInt := congrArg Int32.toInt c_72138
              have h_72140 : 0 ≤ (x_72092 : Int32).toInt ∧ (x_72092 : Int32).toInt ≤ 0 := nr_eq_l h_x_72092 (⟨by decide, by decide⟩ : 0 ≤ (0 : Int32).toInt ∧ (0 : Int32).toInt ≤ 0) c_72138_i (by decide) (by decide)
              refine lv_iload_n hx hb dX4_takeRun_134 rfl (lv_at hl 1 rfl) ?_
              refine lv_bipush (v := 6) hx hb dX4_takeRun_135 (by decide) ?_
              refine lv_icmp_gt (tgt := 148) hx hb dX4_takeRun_137 (by decide) (fun c_72147 => ?_) (fun c_72147 => ?_)
              · skip
                have kk_6 := tk_6
                have c_72147_i := Int32.lt_iff_toInt_lt.mp c_72147
                have h_72148 : 7 ≤ (x_72091 : Int32).toInt ∧ (x_72091 : Int32).toInt ≤ 440 := nr_lt_r (⟨by decide, by decide⟩ : 6 ≤ (6 : Int32).toInt ∧ (6 : Int32).toInt ≤ 6) h_x_72091 c_72147_i (by decide) (by decide)
                refine lv_iload_n hx hb dX4_takeRun_148 rfl (lv_at hl 1 rfl) ?_
                refine lv_if_ne (tgt := 165) hx hb dX4_takeRun_149 (by decide) (fun c_72150 => ?_) (fun h9 => (nr_x_eq h_72148 (⟨by decide, by decide⟩ : 0 ≤ (0 : Int32).toInt ∧ (0 : Int32).toInt ≤ 0) (congrArg Int32.toInt h9) (by decide)).elim)
                have c_72150_i : ¬ (x_72091 : Int32).toInt = (0 : Int32).toInt := (fun q => c_72150 (Int32.toInt_inj.mp q))
                refine lv_aload_n hx hb dX4_takeRun_165 rfl (lv_at hl 2 rfl) ?_
                refine lv_iconst (v := 4) hx hb dX4_takeRun_166 (by decide) ?_
                refine va_put (D := D) (ci := 4) (v := .int 4) (ty := .int) (C := RX4) (T := TX4) (N := 10) hx hb hts inlX4 tyX4 tyX4_ok nmX4 hown hK hP hD hS 0 rfl rfl 7 (by decide) (hts (Cond.fieldLink RX4 67 "ChanceRings$Reader" "token" "I") qw_389) (fun _ h9 => h9) rfl (by decide +kernel) rfl rfl (Nat.le_of_ble_eq_true rfl) dX4_takeRun_167 (fun H locs hP hD hS => ?_)
                have hP : va_P D vwCl [(wO4 rd tp n rd_kindWords ww fk fp x_72090 4 tpl x_72093), (wO8 tp tp_bytes tl), (wI g tp_bytes 0 440 tf)] H := hP
                have hD : va_D A [(wO4 rd tp n rd_kindWords ww fk fp x_72090 4 tpl x_72093), (wO8 tp tp_bytes tl), (wI g tp_bytes 0 440 tf)] := hD
                have hP9 := hP.sub (ws' := [(wO4 rd tp n rd_kindWords ww fk fp x_72090 4 tpl x_72093), (wO8 tp tp_bytes tl), (wI g tp_bytes 0 440 tf)]) [0, 1, 2] rfl
                have hD9 := hD.sub (ws' := [(wO4 rd tp n rd_kindWords ww fk fp x_72090 4 tpl x_72093), (wO8 tp tp_bytes tl), (wI g tp_bytes 0 440 tf)]) [0, 1, 2] (by decide) rfl
                exact W.vret hx hb hr (fun t ht hW => ⟨⟨(), rfl, trivial, x_72090, 4, x_72093, (tr_w h_72096 (by decide) (by decide)), (⟨by decide, by decide⟩ : 0 ≤ (4 : Int32).toInt ∧ (4 : Int32).toInt ≤ 4), (RNI.wrong hr72094_0 hst (by (first | (clear h_fk h_fp h_nx h_tk h_tpl htv h_x_72091 h_x_72092 hw_72113 c_72114_i h_72116 hw_72134 c_72135_i h_72136 c_72138_i h_72140 c_72147_i h_72148 c_72150_i; omega) | omega)) (by (first | (clear h_fk h_fp h_nx h_tk h_tpl htv h_x_72091 h_x_72092 hw_72113 c_72114_i h_72116 hw_72134 c_72135_i h_72136 c_72138_i h_72140 c_72147_i h_72148 c_72150_i; omega) | omega)) (by decide)), by rw [ht]; exact hP9, hD9⟩, hS.F ht⟩) hS.2.2 dX4_takeRun_170
              · skip
                have kk_6 := tk_6
                have c_72147_i := Int32.le_iff_toInt_le.mp (Int32.not_lt.mp c_72147)
                have h_72149 : 0 ≤ (x_72091 : Int32).toInt ∧ (x_72091 : Int32).toInt ≤ 6 := nr_le_l h_x_72091 (⟨by decide, by decide⟩ : 6 ≤ (6 : Int32).toInt ∧ (6 : Int32).toInt ≤ 6) c_72147_i (by decide) (by decide)
                refine lv_aload_n hx hb dX4_takeRun_140 rfl (lv_at hl 2 rfl) ?_
                refine lv_iconst (v := 1) hx hb dX4_takeRun_141 (by decide) ?_
                refine va_put (D := D) (ci := 4) (v := .int 1) (ty := .int) (C := RX4) (T := TX4) (N := 10) hx hb hts inlX4 tyX4 tyX4_ok nmX4 hown hK hP hD hS 0 rfl rfl 7 (by decide) (hts (Cond.fieldLink RX4 67 "ChanceRings$Reader" "token" "I") qw_389) (fun _ h9 => h9) rfl (by decide +kernel) rfl rfl (Nat.le_of_ble_eq_true rfl) dX4_takeRun_142 (fun H locs hP hD hS => ?_)
                have hP : va_P D vwCl [(wO4 rd tp n rd_kindWords ww fk fp x_72090 1 tpl x_72093), (wO8 tp tp_bytes tl), (wI g tp_bytes 0 440 tf)] H := hP
                have hD : va_D A [(wO4 rd tp n rd_kindWords ww fk fp x_72090 1 tpl x_72093), (wO8 tp tp_bytes tl), (wI g tp_bytes 0 440 tf)] := hD
                refine lv_goto (tgt := 170) hx hb dX4_takeRun_145 (by decide) ?_
                have hP9 := hP.sub (ws' := [(wO4 rd tp n rd_kindWords ww fk fp x_72090 1 tpl x_72093), (wO8 tp tp_bytes tl), (wI g tp_bytes 0 440 tf)]) [0, 1, 2] rfl
                have hD9 := hD.sub (ws' := [(wO4 rd tp n rd_kindWords ww fk fp x_72090 1 tpl x_72093), (wO8 tp tp_bytes tl), (wI g tp_bytes 0 440 tf)]) [0, 1, 2] (by decide) rfl
                exact W.vret hx hb hr (fun t ht hW => ⟨⟨(), rfl, trivial, x_72090, 1, x_72093, (tr_w h_72096 (by decide) (by decide)), (⟨by decide, by decide⟩ : 0 ≤ (1 : Int32).toInt ∧ (1 : Int32).toInt ≤ 4), (RNI.word hr72094_0 hst (by (first | (clear h_fk h_fp h_nx h_tk h_tpl htv h_x_72091 h_x_72092 hw_72113 c_72114_i h_72116 hw_72134 c_72135_i h_72136 c_72138_i h_72140 c_72147_i h_72149; omega) | omega)) (by (first | (clear h_fk h_fp h_nx h_tk h_tpl htv h_x_72091 h_x_72092 hw_72113 c_72114_i h_72116 hw_72134 c_72135_i h_72136 c_72138_i h_72140 c_72147_i h_72149; omega) | omega)) (by decide)), by rw [ht]; exact hP9, hD9⟩, hS.F ht⟩) hS.2.2 dX4_takeRun_170
          · skip
            have c_72135_i : ¬ (r_72133 : Int32).toInt = (0 : Int32).toInt := (fun q => c_72135 (Int32.toInt_inj.mp q))
            have hw_72134_p0_u := (hw_72134_p0).get (fun q => c_72135_i (q.trans tk_0.symm))
            have h_72137 : 1 ≤ (r_72133 : Int32).toInt ∧ (r_72133 : Int32).toInt ≤ 1 := nr_ne_l hw_72134 (⟨by decide, by decide⟩ : 0 ≤ (0 : Int32).toInt ∧ (0 : Int32).toInt ≤ 0) c_72135_i (by decide) (by decide)
            refine lv_aload_n hx hb dX4_takeRun_54 rfl (lv_at hl 2 rfl) ?_
            refine va_get (D := D) (ci := 4) (v := .ref tp) (C := RX4) (T := TX4) (N := 10) hx hb hts inlX4 hown hK hP 0 rfl rfl 0 (by decide) (hts (Cond.fieldLink RX4 9 "ChanceRings$Reader" "tape" "LChanceRings$Tape;") qw_387) (fun _ h9 => h9) rfl dX4_takeRun_55 ?_
            refine va_get (D := D) (ci := 8) (v := .ref tp_bytes) (C := RX8) (T := TX8) (N := 2) hx hb hts inlX8 hown hK hP 1 rfl rfl 0 (by decide) (hts (Cond.fieldLink RX4 136 "ChanceRings$Tape" "bytes" "[I") qw_390) (fun _ h9 => h9) rfl dX4_takeRun_58 ?_
            refine lv_aload_n hx hb dX4_takeRun_61 rfl (lv_at hl 2 rfl) ?_
            refine va_get (D := D) (ci := 4) (v := .int x_72090) (C := RX4) (T := TX4) (N := 10) hx hb hts inlX4 hown hK hP 0 rfl rfl 6 (by decide) (hts (Cond.fieldLink RX4 61 "ChanceRings$Reader" "next" "I") qw_386) (fun _ h9 => h9) rfl dX4_takeRun_62 ?_
            refine va_iald hx hb hK hP 2 0 rfl rfl (tr_in h_72096 (by decide) (by decide)) dX4_takeRun_65 ?_
            refine tz_i (y := v_72111) ((congrArg tf rfl).trans g_v_72111.symm) ?_
            refine lv_istore_n (lv' := [(3, .int v_72111), (2, .int x_72092), (1, .int x_72091), (0, .ref rd)]) hx hb dX4_takeRun_66 rfl hl (by decide) rfl (fun ls hl => ?_)
            refine lv_iload_n hx hb dX4_takeRun_67 rfl (lv_at hl 0 rfl) ?_
            have hPc := hP.sub (ws' := []) [] rfl
            refine vp_callSi (va_Run.run (va_runS (As := [.int v_72111]) (rest := []) ⟨hx, hb, hml, hown, hts⟩ (c_X4_isLetter l D g v_72111) (va_cwS 1 hts (tz_gS qw_391 qw_392 qw_384 qw_393) rfl rfl rfl (by decide +kernel) ⟨Nat.le_of_ble_eq_true rfl, Nat.le_of_ble_eq_true rfl⟩) ⟨tz_blS, tz_preS hPc hK⟩ rfl rfl hl.1 rfl (lv_room (Nat.le_of_ble_eq_true rfl)) dX4_takeRun_68 ⟨Nat.le_of_ble_eq_true rfl, Nat.le_of_ble_eq_true rfl⟩)) (fun r_72151 hw => ?_)
            have hw_72152 : 0 ≤ (r_72151 : Int32).toInt ∧ (r_72151 : Int32).toInt ≤ 1 := hw.1
            have hw_72152_p0 : Hide (¬ (r_72151 : Int32).toInt = 0 → 97 ≤ (v_72111 : Int32).toInt ∧ (v_72111 : Int32).toInt ≤ 122) := hw.2.1
            have hw_72152_p1 : Hide ((r_72151 : Int32).toInt = 0 → (v_72111 : Int32).toInt < 97 ∨ 122 < (v_72111 : Int32).toInt) := hw.2.2
            refine lv_if_eq (tgt := 98) hx hb dX4_takeRun_71 (by decide) (fun c_72153 => ?_) (fun c_72153 => ?_)
            · skip
              have c_72153_i : (r_72151 : Int32).toInt = (0 : Int32).toInt := congrArg Int32.toInt c_72153
              have hw_72152_p1_u := (hw_72152_p1).get (c_72153_i.trans tk_0)
              have h_72154 : 0 ≤ (r_72151 : Int32).toInt ∧ (r_72151 : Int32).toInt ≤ 0 := nr_eq_l hw_72152 (⟨by decide, by decide⟩ : 0 ≤ (0 : Int32).toInt ∧ (0 : Int32).toInt ≤ 0) c_72153_i (by decide) (by decide)
              obtain ⟨v_72156, v_72156_e⟩ : ∃ y : Int32, y = x_72092 + Int32.ofInt 1 := ⟨_, rfl⟩
              have h_v_72156 : 1 ≤ (v_72156 : Int32).toInt ∧ (v_72156 : Int32).toInt ≤ 441 := by rw [v_72156_e]; exact tr_add h_x_72092 (⟨by decide, by decide⟩ : 1 ≤ (Int32.ofInt 1 : Int32).toInt ∧ (Int32.ofInt 1 : Int32).toInt ≤ 1) (by decide) (by decide) (by decide) (by decide)
              have q_v_72156 : v_72156.toInt = x_72092.toInt + 1 := by rw [v_72156_e]; exact tr_addE h_x_72092 (⟨by decide, by decide⟩ : 1 ≤ (Int32.ofInt 1 : Int32).toInt ∧ (Int32.ofInt 1 : Int32).toInt ≤ 1) (by decide) (by decide)
              refine lv_iinc (v := v_72156) (lv' := [(2, .int v_72156), (3, .int v_72111), (1, .int x_72091), (0, .ref rd)]) hx hb dX4_takeRun_98 hl (k := 1) rfl v_72156_e.symm (by decide) rfl (fun ls hl => ?_)
              refine lv_aload_n hx hb dX4_takeRun_101 rfl (lv_at hl 3 rfl) ?_
              refine lv_aload_n hx hb dX4_takeRun_102 rfl (lv_at hl 3 rfl) ?_
              refine va_get (D := D) (ci := 4) (v := .int x_72093) (C := RX4) (T := TX4) (N := 10) hx hb hts inlX4 hown hK hP 0 rfl rfl 9 (by decide) (hts (Cond.fieldLink RX4 86 "ChanceRings$Reader" "tokenValue" "I") qw_394) (fun _ h9 => h9) rfl dX4_takeRun_103 ?_
              refine lv_bipush (v := 10) hx hb dX4_takeRun_106 (by decide) ?_
              refine lv_imul hx hb dX4_takeRun_108 ?_
              refine lv_topi (fun v_72157 v_72157_e => ?_)
              refine lv_iload_n hx hb dX4_takeRun_109 rfl (lv_at hl 1 rfl) ?_
              refine lv_bipush (v := 48) hx hb dX4_takeRun_110 (by decide) ?_
              refine lv_isub hx hb dX4_takeRun_112 ?_
              refine lv_topi (fun v_72158 v_72158_e => ?_)
              have h_v_72158 : (-48) ≤ (v_72158 : Int32).toInt ∧ (v_72158 : Int32).toInt ≤ 207 := by rw [v_72158_e]; exact tr_sub h_v_72111 (⟨by decide, by decide⟩ : 48 ≤ (48 : Int32).toInt ∧ (48 : Int32).toInt ≤ 48) (by decide) (by decide) (by decide) (by decide)
              have q_v_72158 : v_72158.toInt = v_72111.toInt - 48 := by rw [v_72158_e]; exact tr_subE h_v_72111 (⟨by decide, by decide⟩ : 48 ≤ (48 : Int32).toInt ∧ (48 : Int32).toInt ≤ 48) (by decide) (by decide)
              refine lv_iadd hx hb dX4_takeRun_113 ?_
              refine lv_topi (fun v_72159 v_72159_e => ?_)
              refine va_put (D := D) (ci := 4) (v := .int v_72159) (ty := .int) (C := RX4) (T := TX4) (N := 10) hx hb hts inlX4 tyX4 tyX4_ok nmX4 hown hK hP hD hS 0 rfl rfl 9 (by decide) (hts (Cond.fieldLink RX4 86 "ChanceRings$Reader" "tokenValue" "I") qw_394) (fun _ h9 => h9) rfl (by decide +kernel) rfl rfl (Nat.le_of_ble_eq_true rfl) dX4_takeRun_114 (fun H locs hP hD hS => ?_)
              have hP : va_P D vwCl [(wO4 rd tp n rd_kindWords ww fk fp x_72090 tk tpl v_72159), (wO8 tp tp_bytes tl), (wI g tp_bytes 0 440 tf)] H := hP
              have hD : va_D A [(wO4 rd tp n rd_kindWords ww fk fp x_72090 tk tpl v_72159), (wO8 tp tp_bytes tl), (wI g tp_bytes 0 440 tf)] := hD
              refine lv_aload_n hx hb dX4_takeRun_117 rfl (lv_at hl 3 rfl) ?_
              refine lv_dup hx hb dX4_takeRun_118 rfl ?_
              refine va_get (D := D) (ci := 4) (v := .int x_72090) (C := RX4) (T := TX4) (N := 10) hx hb hts inlX4 hown hK hP 0 rfl rfl 6 (by decide) (hts (Cond.fieldLink RX4 61 "ChanceRings$Reader" "next" "I") qw_386) (fun _ h9 => h9) rfl dX4_takeRun_119 ?_
              refine lv_iconst (v := 1) hx hb dX4_takeRun_122 (by decide) ?_
              refine lv_iadd hx hb dX4_takeRun_123 ?_
              refine lv_topi (fun v_72160 v_72160_e => ?_)
              have h_v_72160 : 1 ≤ (v_72160 : Int32).toInt ∧ (v_72160 : Int32).toInt ≤ 440 := by rw [v_72160_e]; exact tr_add h_72096 (⟨by decide, by decide⟩ : 1 ≤ (1 : Int32).toInt ∧ (1 : Int32).toInt ≤ 1) (by decide) (by decide) (by decide) (by decide)
              have q_v_72160 : v_72160.toInt = x_72090.toInt + 1 := by rw [v_72160_e]; exact tr_addE h_72096 (⟨by decide, by decide⟩ : 1 ≤ (1 : Int32).toInt ∧ (1 : Int32).toInt ≤ 1) (by decide) (by decide)
              refine va_put (D := D) (ci := 4) (v := .int v_72160) (ty := .int) (C := RX4) (T := TX4) (N := 10) hx hb hts inlX4 tyX4 tyX4_ok nmX4 hown hK hP hD hS 0 rfl rfl 6 (by decide) (hts (Cond.fieldLink RX4 61 "ChanceRings$Reader" "next" "I") qw_386) (fun _ h9 => h9) rfl (by decide +kernel) rfl rfl (Nat.le_of_ble_eq_true rfl) dX4_takeRun_124 (fun H locs hP hD hS => ?_)
              have hP : va_P D vwCl [(wO4 rd tp n rd_kindWords ww fk fp v_72160 tk tpl v_72159), (wO8 tp tp_bytes tl), (wI g tp_bytes 0 440 tf)] H := hP
              have hD : va_D A [(wO4 rd tp n rd_kindWords ww fk fp v_72160 tk tpl v_72159), (wO8 tp tp_bytes tl), (wI g tp_bytes 0 440 tf)] := hD
              refine lv_goto (tgt := 4) hx hb dX4_takeRun_127 (by decide) ?_
              exact ih_72094 v_72160 x_72091 v_72156 v_72159 H _ ls (tr_w h_v_72160 (by decide) (by decide)) (tr_w h_x_72091 (by decide) (by decide)) (by (first | (clear h_fk h_fp h_nx h_tk h_tpl htv hw_72113 c_72114_i h_72116 hw_72134 c_72135_i h_72137 hw_72152 c_72153_i h_72154; omega) | omega)) (RNI.digit hr72094_0 (by (first | (clear h_fk h_fp h_nx h_tk h_tpl htv hw_72113 c_72114_i h_72116 hw_72134 c_72135_i h_72137 hw_72152 c_72153_i h_72154; omega) | omega)) (by rw [gb_v_72111]; unfold dgt; (first | (clear h_fk h_fp h_nx h_tk h_tpl htv hw_72113 c_72114_i h_72116 hw_72134 c_72135_i h_72137 hw_72152 c_72153_i h_72154; omega) | omega)) (by (first | (clear h_fk h_fp h_nx h_tk h_tpl htv hw_72113 c_72114_i h_72116 hw_72134 c_72135_i h_72137 hw_72152 c_72153_i h_72154; omega) | omega)) (fun q9 q8 => by rw [gb_v_72111]; have b9 := RNI.bd2 hr72094_0 q9 (by (first | (clear h_fk h_fp h_nx h_tk h_tpl htv hw_72113 c_72114_i h_72116 hw_72134 c_72135_i h_72137 hw_72152 c_72153_i h_72154; omega) | omega)); have b8 := tv10 v_72157_e v_72159_e b9.1 (by (first | (clear h_fk h_fp h_nx h_tk h_tpl htv hw_72113 c_72114_i h_72116 hw_72134 c_72135_i h_72137 hw_72152 c_72153_i h_72154; omega) | omega)) (by (first | (clear h_fk h_fp h_nx h_tk h_tpl htv hw_72113 c_72114_i h_72116 hw_72134 c_72135_i h_72137 hw_72152 c_72153_i h_72154; omega) | omega)) (by (first | (clear h_fk h_fp h_nx h_tk h_tpl htv hw_72113 c_72114_i h_72116 hw_72134 c_72135_i h_72137 hw_72152 c_72153_i h_72154; omega) | omega)); (first | (clear h_fk h_fp h_nx h_tk h_tpl htv hw_72113 c_72114_i h_72116 hw_72134 c_72135_i h_72137 hw_72152 c_72153_i h_72154; omega) | omega))) (by (first | (clear h_fk h_fp h_nx h_tk h_tpl htv hw_72113 c_72114_i h_72116 hw_72134 c_72135_i h_72137 hw_72152 c_72153_i h_72154; omega) | omega)) (hP.sub [0, 1, 2] rfl) (hD.sub [0, 1, 2] (by decide) rfl) hS (lv_sub hl [0, 2, 3] rfl)
            · skip
              have c_72153_i : ¬ (r_72151 : Int32).toInt = (0 : Int32).toInt := (fun q => c_72153 (Int32.toInt_inj.mp q))
              have hw_72152_p0_u := (hw_72152_p0).get (fun q => c_72153_i (q.trans tk_0.symm))
              have h_72155 : 1 ≤ (r_72151 : Int32).toInt ∧ (r_72151 : Int32).toInt ≤ 1 := nr_ne_l hw_72152 (⟨by decide, by decide⟩ : 0 ≤ (0 : Int32).toInt ∧ (0 : Int32).toInt ≤ 0) c_72153_i (by decide) (by decide)
              obtain ⟨v_72161, v_72161_e⟩ : ∃ y : Int32, y = x_72091 + Int32.ofInt 1 := ⟨_, rfl⟩
              have h_v_72161 : 1 ≤ (v_72161 : Int32).toInt ∧ (v_72161 : Int32).toInt ≤ 441 := by rw [v_72161_e]; exact tr_add h_x_72091 (⟨by decide, by decide⟩ : 1 ≤ (Int32.ofInt 1 : Int32).toInt ∧ (Int32.ofInt 1 : Int32).toInt ≤ 1) (by decide) (by decide) (by decide) (by decide)
              have q_v_72161 : v_72161.toInt = x_72091.toInt + 1 := by rw [v_72161_e]; exact tr_addE h_x_72091 (⟨by decide, by decide⟩ : 1 ≤ (Int32.ofInt 1 : Int32).toInt ∧ (Int32.ofInt 1 : Int32).toInt ≤ 1) (by decide) (by decide)
              refine lv_iinc (v := v_72161) (lv' := [(1, .int v_72161), (3, .int v_72111), (2, .int x_72092), (0, .ref rd)]) hx hb dX4_takeRun_74 hl (k := 2) rfl v_72161_e.symm (by decide) rfl (fun ls hl => ?_)
              refine lv_aload_n hx hb dX4_takeRun_77 rfl (lv_at hl 3 rfl) ?_
              refine lv_aload_n hx hb dX4_takeRun_78 rfl (lv_at hl 3 rfl) ?_
              refine va_get (D := D) (ci := 4) (v := .int x_72093) (C := RX4) (T := TX4) (N := 10) hx hb hts inlX4 hown hK hP 0 rfl rfl 9 (by decide) (hts (Cond.fieldLink RX4 86 "ChanceRings$Reader" "tokenValue" "I") qw_394) (fun _ h9 => h9) rfl dX4_takeRun_79 ?_
              refine lv_bipush (v := 27) hx hb dX4_takeRun_82 (by decide) ?_
              refine lv_imul hx hb dX4_takeRun_84 ?_
              refine lv_topi (fun v_72162 v_72162_e => ?_)
              refine lv_iload_n hx hb dX4_takeRun_85 rfl (lv_at hl 1 rfl) ?_
              refine lv_bipush (v := 97) hx hb dX4_takeRun_86 (by decide) ?_
              refine lv_isub hx hb dX4_takeRun_88 ?_
              refine lv_topi (fun v_72163 v_72163_e => ?_)
              have h_v_72163 : (-97) ≤ (v_72163 : Int32).toInt ∧ (v_72163 : Int32).toInt ≤ 158 := by rw [v_72163_e]; exact tr_sub h_v_72111 (⟨by decide, by decide⟩ : 97 ≤ (97 : Int32).toInt ∧ (97 : Int32).toInt ≤ 97) (by decide) (by decide) (by decide) (by decide)
              have q_v_72163 : v_72163.toInt = v_72111.toInt - 97 := by rw [v_72163_e]; exact tr_subE h_v_72111 (⟨by decide, by decide⟩ : 97 ≤ (97 : Int32).toInt ∧ (97 : Int32).toInt ≤ 97) (by decide) (by decide)
              refine lv_iconst (v := 1) hx hb dX4_takeRun_89 (by decide) ?_
              refine lv_iadd hx hb dX4_takeRun_90 ?_
              refine lv_topi (fun v_72164 v_72164_e => ?_)
              have h_v_72164 : (-96) ≤ (v_72164 : Int32).toInt ∧ (v_72164 : Int32).toInt ≤ 159 := by rw [v_72164_e]; exact tr_add h_v_72163 (⟨by decide, by decide⟩ : 1 ≤ (1 : Int32).toInt ∧ (1 : Int32).toInt ≤ 1) (by decide) (by decide) (by decide) (by decide)
              have q_v_72164 : v_72164.toInt = v_72163.toInt + 1 := by rw [v_72164_e]; exact tr_addE h_v_72163 (⟨by decide, by decide⟩ : 1 ≤ (1 : Int32).toInt ∧ (1 : Int32).toInt ≤ 1) (by decide) (by decide)
              refine lv_iadd hx hb dX4_takeRun_91 ?_
              refine lv_topi (fun v_72165 v_72165_e => ?_)
              refine va_put (D := D) (ci := 4) (v := .int v_72165) (ty := .int) (C := RX4) (T := TX4) (N := 10) hx hb hts inlX4 tyX4 tyX4_ok nmX4 hown hK hP hD hS 0 rfl rfl 9 (by decide) (hts (Cond.fieldLink RX4 86 "ChanceRings$Reader" "tokenValue" "I") qw_394) (fun _ h9 => h9) rfl (by decide +kernel) rfl rfl (Nat.le_of_ble_eq_true rfl) dX4_takeRun_92 (fun H locs hP hD hS => ?_)
              have hP : va_P D vwCl [(wO4 rd tp n rd_kindWords ww fk fp x_72090 tk tpl v_72165), (wO8 tp tp_bytes tl), (wI g tp_bytes 0 440 tf)] H := hP
              have hD : va_D A [(wO4 rd tp n rd_kindWords ww fk fp x_72090 tk tpl v_72165), (wO8 tp tp_bytes tl), (wI g tp_bytes 0 440 tf)] := hD
              refine lv_goto (tgt := 117) hx hb dX4_takeRun_95 (by decide) ?_
              refine lv_aload_n hx hb dX4_takeRun_117 rfl (lv_at hl 3 rfl) ?_
              refine lv_dup hx hb dX4_takeRun_118 rfl ?_
              refine va_get (D := D) (ci := 4) (v := .int x_72090) (C := RX4) (T := TX4) (N := 10) hx hb hts inlX4 hown hK hP 0 rfl rfl 6 (by decide) (hts (Cond.fieldLink RX4 61 "ChanceRings$Reader" "next" "I") qw_386) (fun _ h9 => h9) rfl dX4_takeRun_119 ?_
              refine lv_iconst (v := 1) hx hb dX4_takeRun_122 (by decide) ?_
              refine lv_iadd hx hb dX4_takeRun_123 ?_
              refine lv_topi (fun v_72166 v_72166_e => ?_)
              have h_v_72166 : 1 ≤ (v_72166 : Int32).toInt ∧ (v_72166 : Int32).toInt ≤ 440 := by rw [v_72166_e]; exact tr_add h_72096 (⟨by decide, by decide⟩ : 1 ≤ (1 : Int32).toInt ∧ (1 : Int32).toInt ≤ 1) (by decide) (by decide) (by decide) (by decide)
              have q_v_72166 : v_72166.toInt = x_72090.toInt + 1 := by rw [v_72166_e]; exact tr_addE h_72096 (⟨by decide, by decide⟩ : 1 ≤ (1 : Int32).toInt ∧ (1 : Int32).toInt ≤ 1) (by decide) (by decide)
              refine va_put (D := D) (ci := 4) (v := .int v_72166) (ty := .int) (C := RX4) (T := TX4) (N := 10) hx hb hts inlX4 tyX4 tyX4_ok nmX4 hown hK hP hD hS 0 rfl rfl 6 (by decide) (hts (Cond.fieldLink RX4 61 "ChanceRings$Reader" "next" "I") qw_386) (fun _ h9 => h9) rfl (by decide +kernel) rfl rfl (Nat.le_of_ble_eq_true rfl) dX4_takeRun_124 (fun H locs hP hD hS => ?_)
              have hP : va_P D vwCl [(wO4 rd tp n rd_kindWords ww fk fp v_72166 tk tpl v_72165), (wO8 tp tp_bytes tl), (wI g tp_bytes 0 440 tf)] H := hP
              have hD : va_D A [(wO4 rd tp n rd_kindWords ww fk fp v_72166 tk tpl v_72165), (wO8 tp tp_bytes tl), (wI g tp_bytes 0 440 tf)] := hD
              refine lv_goto (tgt := 4) hx hb dX4_takeRun_127 (by decide) ?_
              exact ih_72094 v_72166 v_72161 x_72092 v_72165 H _ ls (tr_w h_v_72166 (by decide) (by decide)) (by (first | (clear h_fk h_fp h_nx h_tk h_tpl htv hw_72113 c_72114_i h_72116 hw_72134 c_72135_i h_72137 hw_72152 c_72153_i h_72155; omega) | omega)) (tr_w h_x_72092 (by decide) (by decide)) (RNI.letter hr72094_0 (by (first | (clear h_fk h_fp h_nx h_tk h_tpl htv hw_72113 c_72114_i h_72116 hw_72134 c_72135_i h_72137 hw_72152 c_72153_i h_72155; omega) | omega)) (by rw [gb_v_72111]; unfold ltr; (first | (clear h_fk h_fp h_nx h_tk h_tpl htv hw_72113 c_72114_i h_72116 hw_72134 c_72135_i h_72137 hw_72152 c_72153_i h_72155; omega) | omega)) (by (first | (clear h_fk h_fp h_nx h_tk h_tpl htv hw_72113 c_72114_i h_72116 hw_72134 c_72135_i h_72137 hw_72152 c_72153_i h_72155; omega) | omega)) (fun q9 q8 => by rw [gb_v_72111]; have b9 := RNI.bd hr72094_0 q9 (by (first | (clear h_fk h_fp h_nx h_tk h_tpl htv hw_72113 c_72114_i h_72116 hw_72134 c_72135_i h_72137 hw_72152 c_72153_i h_72155; omega) | omega)); have b8 := tv27 v_72162_e v_72165_e b9.1 b9.2 (by (first | (clear h_fk h_fp h_nx h_tk h_tpl htv hw_72113 c_72114_i h_72116 hw_72134 c_72135_i h_72137 hw_72152 c_72153_i h_72155; omega) | omega)) (by (first | (clear h_fk h_fp h_nx h_tk h_tpl htv hw_72113 c_72114_i h_72116 hw_72134 c_72135_i h_72137 hw_72152 c_72153_i h_72155; omega) | omega)); (first | (clear h_fk h_fp h_nx h_tk h_tpl htv hw_72113 c_72114_i h_72116 hw_72134 c_72135_i h_72137 hw_72152 c_72153_i h_72155; omega) | omega))) (by (first | (clear h_fk h_fp h_nx h_tk h_tpl htv hw_72113 c_72114_i h_72116 hw_72134 c_72135_i h_72137 hw_72152 c_72153_i h_72155; omega) | omega)) (hP.sub [0, 1, 2] rfl) (hD.sub [0, 1, 2] (by decide) rfl) hS (lv_sub hl [2, 0, 3] rfl)
  exact lp_72094 441 nx 0 0 tv s.heap _ ls (tr_w h_nx (by decide) (by decide)) (⟨by decide, by decide⟩ : 0 ≤ (0 : Int32).toInt ∧ (0 : Int32).toInt ≤ 440) (⟨by decide, by decide⟩ : 0 ≤ (0 : Int32).toInt ∧ (0 : Int32).toInt ≤ 440) (RNI.zero rfl rfl rfl htv) (by (first | (clear h_fk h_fp h_tk h_tpl h_tl; omega) | omega)) (hP.sub [0, 1, 2] rfl) (hD.sub [0, 1, 2] (by decide) rfl) hS (lv_sub hl [0, 1, 2] rfl)
set_option maxHeartbeats 4000000 in
set_option maxRecDepth 100000 in
theorem c_X4_advance (l : Launch) (D : va_G) (g : Nat → ClassId) (sz : Nat) (rd : Nat) (tp : Nat) (n : Nat) (rd_kindWords : Nat) (ww : Int32) (fk : Int32) (fp : Int32) (nx : Int32) (tk : Int32) (tpl : Int32) (tv : Int32) (tp_bytes : Nat) (tl : Int32) (tf : Nat → Int32) (h_fk : 0 ≤ (fk : Int32).toInt ∧ (fk : Int32).toInt ≤ 5) (h_fp : 0 ≤ (fp : Int32).toInt ∧ (fp : Int32).toInt ≤ 440) (h_nx : 0 ≤ (nx : Int32).toInt ∧ (nx : Int32).toInt ≤ 440) (h_tk : 0 ≤ (tk : Int32).toInt ∧ (tk : Int32).toInt ≤ 4) (h_tpl : 0 ≤ (tpl : Int32).toInt ∧ (tpl : Int32).toInt ≤ 440) (h_tl : 0 ≤ (tl : Int32).toInt ∧ (tl : Int32).toInt ≤ 440) (h_tf : ∀ j : Nat, 0 ≤ (tf j).toInt ∧ (tf j).toInt ≤ 255) : Met l yX4_advance (.code yX4_advance cX4_advance 1 none :: wsL_law) ({ frames := 2, cells := 0, slots := 0, locals := 43 }) (va_Pc [.ref rd] (fun U => U.heap.size = sz ∧ va_P D vwCl [(wO4 rd tp n rd_kindWords ww fk fp nx tk tpl tv), (wO8 tp tp_bytes tl), (wI g tp_bytes 0 440 tf)] U.heap ∧ va_K D vwCl (TY g) U ∧ va_D (fun _ => True) [(wO4 rd tp n rd_kindWords ww fk fp nx tk tpl tv), (wO8 tp tp_bytes tl), (wI g tp_bytes 0 440 tf)])) (va_Qv (fun (_ : Unit) => True) (fun _ t => ∃ onx : Int32, ∃ otk : Int32, ∃ otpl : Int32, ∃ otv : Int32, (0 ≤ (onx : Int32).toInt ∧ (onx : Int32).toInt ≤ 440) ∧ (0 ≤ (otk : Int32).toInt ∧ (otk : Int32).toInt ≤ 4) ∧ (0 ≤ (otpl : Int32).toInt ∧ (otpl : Int32).toInt ≤ 440) ∧ (TK (bg tf (tl : Int32).toInt) (nx : Int32).toInt.toNat (otk : Int32).toInt (otpl : Int32).toInt.toNat (onx : Int32).toInt.toNat (otv : Int32).toInt) ∧ va_P D vwCl [(wO4 rd tp n rd_kindWords ww fk fp onx otk otpl otv), (wO8 tp tp_bytes tl), (wI g tp_bytes 0 440 tf)] t.heap ∧ va_D (va_A [(wO4 rd tp n rd_kindWords ww fk fp nx tk tpl tv), (wO8 tp tp_bytes tl), (wI g tp_bytes 0 440 tf)] sz) [(wO4 rd tp n rd_kindWords ww fk fp onx otk otpl otv), (wO8 tp tp_bytes tl), (wI g tp_bytes 0 440 tf)]) (va_A [(wO4 rd tp n rd_kindWords ww fk fp nx tk tpl tv), (wO8 tp tp_bytes tl), (wI g tp_bytes 0 440 tf)] sz)) 0 0 (va_A [(wO4 rd tp n rd_kindWords ww fk fp nx tk tpl tv), (wO8 tp tp_bytes tl), (wI g tp_bytes 0 440 tf)] sz) := by
  refine Met.ofW (cc := cX4_advance) (maxL := 1) (ret := none) (by decide) rfl ?_
  intro p e s m args below meth c s₁ B hml hv
  obtain ⟨ha, hsz, hP, hK, hD0⟩ := hv
  have hx := B.exec
  have hb := B.bytes
  have hr := B.returns
  have hts0 := atoms_spec (ws := (.code yX4_advance cX4_advance 1 none :: wsL_law)) B.pre
  have hts : ∀ w ∈ wsL_law, w.before args s = true := fun w h => hts0 w (List.mem_cons_of_mem _ h)
  have hown : s.vm.findClass RX4 = some m.cls := findClass_of_methodNamed B.named
  have hlocks := B.notSynchronized
  subst hsz
  have hD := hD0.self (sz := s.heap.size)
  generalize hAe : va_A [(wO4 rd tp n rd_kindWords ww fk fp nx tk tpl tv), (wO8 tp tp_bytes tl), (wI g tp_bytes 0 440 tf)] s.heap.size = A at hD ⊢
  have hA : ∀ q : Nat, s.heap.size ≤ q → A q := fun q h => by rw [← hAe]; exact Or.inr h
  have hS : va_S A s.heap s.heap [] := va_S.rf
  have hP : va_P D vwCl [(wO4 rd tp n rd_kindWords ww fk fp nx tk tpl tv), (wO8 tp tp_bytes tl), (wI g tp_bytes 0 440 tf)] s.heap := hP
  refine W.eq (g2 := entryFrame m ([.ref rd] : List Value).toArray 1) (by rw [ha]) ?_
  have hl := lv_entry ([.ref rd]) (n := 1) (Nat.le_of_ble_eq_true rfl)
  rw [lg_entry_eq]
  generalize (lg_sl ([.ref rd]) ++ List.replicate (1 - (lg_sl ([.ref rd])).length) Slot.unset).toArray = ls at hl ⊢
  have hl : lv_has ls 1 [(0, .ref rd)] := hl
  have lp_72237 : ∀ (n_72237 : Nat) (x_72236 : Int32) (H : Heap) (locs : List Loc) (ls : Array Slot), (0 ≤ (x_72236 : Int32).toInt ∧ (x_72236 : Int32).toInt ≤ 440) → (SKI (bg tf (tl : Int32).toInt) (nx : Int32).toInt.toNat x_72236.toInt.toNat) → (440 - x_72236.toInt < (n_72237 : Int)) → va_P D vwCl [(wO4 rd tp n rd_kindWords ww fk fp x_72236 tk tpl tv), (wO8 tp tp_bytes tl), (wI g tp_bytes 0 440 tf)] H → va_D A [(wO4 rd tp n rd_kindWords ww fk fp x_72236 tk tpl tv), (wO8 tp tp_bytes tl), (wI g tp_bytes 0 440 tf)] → va_S A s.heap H locs → lv_has ls 1 [(0, .ref rd)] → W p l e (headSpec (.code yX4_advance cX4_advance 1 none :: wsL_law) ({ frames := 2, cells := 0, slots := 0, locals := 43 })).room s m args below meth c H locs 0 0 (MQ below (va_Qv (fun (_ : Unit) => True) (fun _ t => ∃ onx : Int32, ∃ otk : Int32, ∃ otpl : Int32, ∃ otv : Int32, (0 ≤ (onx : Int32).toInt ∧ (onx : Int32).toInt ≤ 440) ∧ (0 ≤ (otk : Int32).toInt ∧ (otk : Int32).toInt ≤ 4) ∧ (0 ≤ (otpl : Int32).toInt ∧ (otpl : Int32).toInt ≤ 440) ∧ (TK (bg tf (tl : Int32).toInt) (nx : Int32).toInt.toNat (otk : Int32).toInt (otpl : Int32).toInt.toNat (onx : Int32).toInt.toNat (otv : Int32).toInt) ∧ va_P D vwCl [(wO4 rd tp n rd_kindWords ww fk fp onx otk otpl otv), (wO8 tp tp_bytes tl), (wI g tp_bytes 0 440 tf)] t.heap ∧ va_D A [(wO4 rd tp n rd_kindWords ww fk fp onx otk otpl otv), (wO8 tp tp_bytes tl), (wI g tp_bytes 0 440 tf)]) A) args s 0 0 A) (F0 m 0 ls []) := by
    intro n_72237
    induction n_72237 with
    | zero =>
      intro x_72236 H locs ls h_x_72236 hr72237_0 hm_72237 hP hD hS hl
      exfalso; omega
    | succ n_72237 ih_72237 =>
      intro x_72236 H locs ls h_x_72236 hr72237_0 hm_72237 hP hD hS hl
      refine lv_aload_n hx hb dX4_advance_0 rfl (lv_at hl 0 rfl) ?_
      refine va_get (D := D) (ci := 4) (v := .int x_72236) (C := RX4) (T := TX4) (N := 10) hx hb hts inlX4 hown hK hP 0 rfl rfl 6 (by decide) (hts (Cond.fieldLink RX4 61 "ChanceRings$Reader" "next" "I") qw_386) (fun _ h9 => h9) rfl dX4_advance_1 ?_
      refine lv_aload_n hx hb dX4_advance_4 rfl (lv_at hl 0 rfl) ?_
      refine va_get (D := D) (ci := 4) (v := .ref tp) (C := RX4) (T := TX4) (N := 10) hx hb hts inlX4 hown hK hP 0 rfl rfl 0 (by decide) (hts (Cond.fieldLink RX4 9 "ChanceRings$Reader" "tape" "LChanceRings$Tape;") qw_387) (fun _ h9 => h9) rfl dX4_advance_5 ?_
      refine va_get (D := D) (ci := 8) (v := .int tl) (C := RX8) (T := TX8) (N := 2) hx hb hts inlX8 hown hK hP 1 rfl rfl 1 (by decide) (hts (Cond.fieldLink RX4 52 "ChanceRings$Tape" "length" "I") qw_388) (fun _ h9 => h9) rfl dX4_advance_8 ?_
      refine lv_icmp_ge (tgt := 44) hx hb dX4_advance_11 (by decide) (fun c_72238 => ?_) (fun c_72238 => ?_)
      · skip
        have c_72238_i := Int32.le_iff_toInt_le.mp c_72238
        have skp_9 : SKp (bg tf (tl : Int32).toInt) (nx : Int32).toInt.toNat x_72236.toInt.toNat := SKI.fin hr72237_0 (by rw [bg_out (by (first | (clear h_fk h_fp h_tk h_tpl; omega) | omega))]; (first | (clear h_fk h_fp h_tk h_tpl; omega) | omega))
        refine lv_aload_n hx hb dX4_advance_44 rfl (lv_at hl 0 rfl) ?_
        refine lv_aload_n hx hb dX4_advance_45 rfl (lv_at hl 0 rfl) ?_
        refine va_get (D := D) (ci := 4) (v := .int x_72236) (C := RX4) (T := TX4) (N := 10) hx hb hts inlX4 hown hK hP 0 rfl rfl 6 (by decide) (hts (Cond.fieldLink RX4 61 "ChanceRings$Reader" "next" "I") qw_386) (fun _ h9 => h9) rfl dX4_advance_46 ?_
        refine va_put (D := D) (ci := 4) (v := .int x_72236) (ty := .int) (C := RX4) (T := TX4) (N := 10) hx hb hts inlX4 tyX4 tyX4_ok nmX4 hown hK hP hD hS 0 rfl rfl 8 (by decide) (hts (Cond.fieldLink RX4 77 "ChanceRings$Reader" "tokenPlace" "I") qw_380) (fun _ h9 => h9) rfl (by decide +kernel) rfl rfl (Nat.le_of_ble_eq_true rfl) dX4_advance_49 (fun H locs hP hD hS => ?_)
        have hP : va_P D vwCl [(wO4 rd tp n rd_kindWords ww fk fp x_72236 tk x_72236 tv), (wO8 tp tp_bytes tl), (wI g tp_bytes 0 440 tf)] H := hP
        have hD : va_D A [(wO4 rd tp n rd_kindWords ww fk fp x_72236 tk x_72236 tv), (wO8 tp tp_bytes tl), (wI g tp_bytes 0 440 tf)] := hD
        refine lv_aload_n hx hb dX4_advance_52 rfl (lv_at hl 0 rfl) ?_
        refine lv_iconst (v := 0) hx hb dX4_advance_53 (by decide) ?_
        refine va_put (D := D) (ci := 4) (v := .int 0) (ty := .int) (C := RX4) (T := TX4) (N := 10) hx hb hts inlX4 tyX4 tyX4_ok nmX4 hown hK hP hD hS 0 rfl rfl 9 (by decide) (hts (Cond.fieldLink RX4 86 "ChanceRings$Reader" "tokenValue" "I") qw_394) (fun _ h9 => h9) rfl (by decide +kernel) rfl rfl (Nat.le_of_ble_eq_true rfl) dX4_advance_54 (fun H locs hP hD hS => ?_)
        have hP : va_P D vwCl [(wO4 rd tp n rd_kindWords ww fk fp x_72236 tk x_72236 0), (wO8 tp tp_bytes tl), (wI g tp_bytes 0 440 tf)] H := hP
        have hD : va_D A [(wO4 rd tp n rd_kindWords ww fk fp x_72236 tk x_72236 0), (wO8 tp tp_bytes tl), (wI g tp_bytes 0 440 tf)] := hD
        refine lv_aload_n hx hb dX4_advance_57 rfl (lv_at hl 0 rfl) ?_
        refine va_get (D := D) (ci := 4) (v := .int x_72236) (C := RX4) (T := TX4) (N := 10) hx hb hts inlX4 hown hK hP 0 rfl rfl 6 (by decide) (hts (Cond.fieldLink RX4 61 "ChanceRings$Reader" "next" "I") qw_386) (fun _ h9 => h9) rfl dX4_advance_58 ?_
        refine lv_aload_n hx hb dX4_advance_61 rfl (lv_at hl 0 rfl) ?_
        refine va_get (D := D) (ci := 4) (v := .ref tp) (C := RX4) (T := TX4) (N := 10) hx hb hts inlX4 hown hK hP 0 rfl rfl 0 (by decide) (hts (Cond.fieldLink RX4 9 "ChanceRings$Reader" "tape" "LChanceRings$Tape;") qw_387) (fun _ h9 => h9) rfl dX4_advance_62 ?_
        refine va_get (D := D) (ci := 8) (v := .int tl) (C := RX8) (T := TX8) (N := 2) hx hb hts inlX8 hown hK hP 1 rfl rfl 1 (by decide) (hts (Cond.fieldLink RX4 52 "ChanceRings$Tape" "length" "I") qw_388) (fun _ h9 => h9) rfl dX4_advance_65 ?_
        refine lv_icmp_lt (tgt := 79) hx hb dX4_advance_68 (by decide) (fun c_72241 => ?_) (fun c_72241 => ?_)
        · skip
          have c_72241_i := Int32.lt_iff_toInt_lt.mp c_72241
          have h_72242 : 0 ≤ (x_72236 : Int32).toInt ∧ (x_72236 : Int32).toInt ≤ 439 := nr_lt_l h_x_72236 h_tl c_72241_i (by decide) (by decide)
          have h_72243 : 1 ≤ (tl : Int32).toInt ∧ (tl : Int32).toInt ≤ 440 := nr_lt_r h_x_72236 h_tl c_72241_i (by decide) (by decide)
          refine lv_aload_n hx hb dX4_advance_79 rfl (lv_at hl 0 rfl) ?_
          refine va_get (D := D) (ci := 4) (v := .ref tp) (C := RX4) (T := TX4) (N := 10) hx hb hts inlX4 hown hK hP 0 rfl rfl 0 (by decide) (hts (Cond.fieldLink RX4 9 "ChanceRings$Reader" "tape" "LChanceRings$Tape;") qw_387) (fun _ h9 => h9) rfl dX4_advance_80 ?_
          refine va_get (D := D) (ci := 8) (v := .ref tp_bytes) (C := RX8) (T := TX8) (N := 2) hx hb hts inlX8 hown hK hP 1 rfl rfl 0 (by decide) (hts (Cond.fieldLink RX4 136 "ChanceRings$Tape" "bytes" "[I") qw_390) (fun _ h9 => h9) rfl dX4_advance_83 ?_
          refine lv_aload_n hx hb dX4_advance_86 rfl (lv_at hl 0 rfl) ?_
          refine va_get (D := D) (ci := 4) (v := .int x_72236) (C := RX4) (T := TX4) (N := 10) hx hb hts inlX4 hown hK hP 0 rfl rfl 6 (by decide) (hts (Cond.fieldLink RX4 61 "ChanceRings$Reader" "next" "I") qw_386) (fun _ h9 => h9) rfl dX4_advance_87 ?_
          refine va_iald hx hb hK hP 2 0 rfl rfl (tr_in h_72242 (by decide) (by decide)) dX4_advance_90 ?_
          refine lv_topi (fun v_72244 v_72244_e => ?_)
          have h_v_72244 : 0 ≤ (v_72244 : Int32).toInt ∧ (v_72244 : Int32).toInt ≤ 255 := by rw [v_72244_e]; exact h_tf _
          have g_v_72244 : v_72244 = tf (x_72236.toInt.toNat) := v_72244_e.trans (congrArg tf rfl)
          have gi_v_72244 := congrArg Int32.toInt g_v_72244
          have gb_v_72244 : bg tf (tl : Int32).toInt x_72236.toInt.toNat = v_72244.toInt := bg_cl h_tf gi_v_72244 (by (first | (clear h_fk h_fp h_nx h_tk h_tpl; omega) | omega))
          refine lv_bipush (v := 59) hx hb dX4_advance_91 (by decide) ?_
          refine lv_icmp_ne (tgt := 114) hx hb dX4_advance_93 (by decide) (fun c_72245 => ?_) (fun c_72245 => ?_)
          · skip
            have kk_59 := tk_59
            have c_72245_i : ¬ (v_72244 : Int32).toInt = (59 : Int32).toInt := (fun q => c_72245 (Int32.toInt_inj.mp q))
            refine lv_aload_n hx hb dX4_advance_114 rfl (lv_at hl 0 rfl) ?_
            refine va_get (D := D) (ci := 4) (v := .ref tp) (C := RX4) (T := TX4) (N := 10) hx hb hts inlX4 hown hK hP 0 rfl rfl 0 (by decide) (hts (Cond.fieldLink RX4 9 "ChanceRings$Reader" "tape" "LChanceRings$Tape;") qw_387) (fun _ h9 => h9) rfl dX4_advance_115 ?_
            refine va_get (D := D) (ci := 8) (v := .ref tp_bytes) (C := RX8) (T := TX8) (N := 2) hx hb hts inlX8 hown hK hP 1 rfl rfl 0 (by decide) (hts (Cond.fieldLink RX4 136 "ChanceRings$Tape" "bytes" "[I") qw_390) (fun _ h9 => h9) rfl dX4_advance_118 ?_
            refine lv_aload_n hx hb dX4_advance_121 rfl (lv_at hl 0 rfl) ?_
            refine va_get (D := D) (ci := 4) (v := .int x_72236) (C := RX4) (T := TX4) (N := 10) hx hb hts inlX4 hown hK hP 0 rfl rfl 6 (by decide) (hts (Cond.fieldLink RX4 61 "ChanceRings$Reader" "next" "I") qw_386) (fun _ h9 => h9) rfl dX4_advance_122 ?_
            refine va_iald hx hb hK hP 2 0 rfl rfl (tr_in h_72242 (by decide) (by decide)) dX4_advance_125 ?_
            refine tz_i (y := v_72244) ((congrArg tf rfl).trans g_v_72244.symm) ?_
            have hPc := hP.sub (ws' := []) [] rfl
            refine vp_callSi (va_Run.run (va_runS (As := [.int v_72244]) (rest := []) ⟨hx, hb, hml, hown, hts⟩ (c_X4_isLetter l D g v_72244) (va_cwS 1 hts (tz_gS qw_391 qw_392 qw_384 qw_393) rfl rfl rfl (by decide +kernel) ⟨Nat.le_of_ble_eq_true rfl, Nat.le_of_ble_eq_true rfl⟩) ⟨tz_blS, tz_preS hPc hK⟩ rfl rfl hl.1 rfl (lv_room (Nat.le_of_ble_eq_true rfl)) dX4_advance_126 ⟨Nat.le_of_ble_eq_true rfl, Nat.le_of_ble_eq_true rfl⟩)) (fun r_72247 hw => ?_)
            have hw_72248 : 0 ≤ (r_72247 : Int32).toInt ∧ (r_72247 : Int32).toInt ≤ 1 := hw.1
            have hw_72248_p0 : Hide (¬ (r_72247 : Int32).toInt = 0 → 97 ≤ (v_72244 : Int32).toInt ∧ (v_72244 : Int32).toInt ≤ 122) := hw.2.1
            have hw_72248_p1 : Hide ((r_72247 : Int32).toInt = 0 → (v_72244 : Int32).toInt < 97 ∨ 122 < (v_72244 : Int32).toInt) := hw.2.2
            refine lv_if_ne (tgt := 150) hx hb dX4_advance_129 (by decide) (fun c_72249 => ?_) (fun c_72249 => ?_)
            · skip
              have kk_0 := tk_0
              have c_72249_i : ¬ (r_72247 : Int32).toInt = (0 : Int32).toInt := (fun q => c_72249 (Int32.toInt_inj.mp q))
              have hw_72248_p0_u := (hw_72248_p0).get (fun q => c_72249_i (q.trans tk_0.symm))
              have h_72250 : 1 ≤ (r_72247 : Int32).toInt ∧ (r_72247 : Int32).toInt ≤ 1 := nr_ne_l hw_72248 (⟨by decide, by decide⟩ : 0 ≤ (0 : Int32).toInt ∧ (0 : Int32).toInt ≤ 0) c_72249_i (by decide) (by decide)
              refine lv_aload_n hx hb dX4_advance_150 rfl (lv_at hl 0 rfl) ?_
              have hPc := hP.sub (ws' := [(wO4 rd tp n rd_kindWords ww fk fp x_72236 tk x_72236 0), (wO8 tp tp_bytes tl), (wI g tp_bytes 0 440 tf)]) [0, 1, 2] rfl
              have hDc := hD.sub (ws' := [(wO4 rd tp n rd_kindWords ww fk fp x_72236 tk x_72236 0), (wO8 tp tp_bytes tl), (wI g tp_bytes 0 440 tf)]) [0, 1, 2] (by decide) rfl
              have hFc := va_free (wc := [(wO4 rd tp n rd_kindWords ww fk fp x_72236 tk x_72236 0), (wO8 tp tp_bytes tl), (wI g tp_bytes 0 440 tf)]) hD hS hA [0, 1, 2] rfl
              refine va_callv (va_runV (As := []) (rest := []) ⟨hx, hb, hml, hown, hts⟩ (c_X4_takeRun l D g H.size rd tp n rd_kindWords ww fk fp x_72236 tk x_72236 0 tp_bytes tl tf (tr_w h_fk (by decide) (by decide)) (tr_w h_fp (by decide) (by decide)) (tr_w h_72242 (by decide) (by decide)) (tr_w h_tk (by decide) (by decide)) (tr_w h_72242 (by decide) (by decide)) (tr_w h_72243 (by decide) (by decide)) (tr_wa h_tf (by decide) (by decide)) (by first | rfl | decide | (first | (clear h_nx h_tpl hw_72248 c_72249_i h_72250; omega) | omega))) (cwV 0 hts (tz_gV qw_398 qw_399 qw_400 qw_384 qw_401) rfl rfl rfl (by decide +kernel) ⟨Nat.le_of_ble_eq_true rfl, Nat.le_of_ble_eq_true rfl⟩) ⟨tz_blQ, va_recv hK hPc (ci := 4) (q0 := 0) rfl rfl, tz_preQ hPc hK hDc⟩ rfl rfl hl.1 rfl (lv_room (Nat.le_of_ble_eq_true rfl)) dX4_advance_151 ⟨Nat.le_of_ble_eq_true rfl, Nat.le_of_ble_eq_true rfl⟩) hS (fun q _ h => hFc q h) hFc (fun u t H1 locs ht hvm hw hB hz1 hk1 hS => ?_)
              obtain ⟨onx_72253, otk_72254, otv_72255, hf_72256, hf_72257, hf_72258, hP1, hD1⟩ := hB
              rw [ht] at hP1
              obtain ⟨hP, hD⟩ := va_join (wr := []) (w1 := [(wO4 rd tp n rd_kindWords ww fk fp onx_72253 otk_72254 x_72236 otv_72255), (wO8 tp tp_bytes tl), (wI g tp_bytes 0 440 tf)]) hP hD [0, 1, 2] [] rfl rfl (by decide) (by decide) hk1 hFc hP1 hD1
              generalize H1 = H at hP hS ⊢
              have hP : va_P D vwCl [(wO4 rd tp n rd_kindWords ww fk fp onx_72253 otk_72254 x_72236 otv_72255), (wO8 tp tp_bytes tl), (wI g tp_bytes 0 440 tf)] H := hP
              have hD : va_D A [(wO4 rd tp n rd_kindWords ww fk fp onx_72253 otk_72254 x_72236 otv_72255), (wO8 tp tp_bytes tl), (wI g tp_bytes 0 440 tf)] := hD
              refine lv_goto (tgt := 162) hx hb dX4_advance_154 (by decide) ?_
              have hP9 := hP.sub (ws' := [(wO4 rd tp n rd_kindWords ww fk fp onx_72253 otk_72254 x_72236 otv_72255), (wO8 tp tp_bytes tl), (wI g tp_bytes 0 440 tf)]) [0, 1, 2] rfl
              have hD9 := hD.sub (ws' := [(wO4 rd tp n rd_kindWords ww fk fp onx_72253 otk_72254 x_72236 otv_72255), (wO8 tp tp_bytes tl), (wI g tp_bytes 0 440 tf)]) [0, 1, 2] (by decide) rfl
              exact W.vret hx hb hr (fun t ht hW => ⟨⟨(), rfl, trivial, onx_72253, otk_72254, x_72236, otv_72255, (tr_w hf_72256 (by decide) (by decide)), (tr_w hf_72257 (by decide) (by decide)), (tr_w h_72242 (by decide) (by decide)), (tk_run skp_9 (by rw [gb_v_72244]; unfold ltr dgt; (first | (clear h_fk h_fp h_nx h_tk h_tpl hw_72248 c_72249_i h_72250; omega) | omega)) hf_72258), by rw [ht]; exact hP9, hD9⟩, hS.F ht⟩) hS.2.2 dX4_advance_162
            · skip
              have kk_0 := tk_0
              have c_72249_i : (r_72247 : Int32).toInt = (0 : Int32).toInt := congrArg Int32.toInt c_72249
              have hw_72248_p1_u := (hw_72248_p1).get (c_72249_i.trans tk_0)
              have h_72251 : 0 ≤ (r_72247 : Int32).toInt ∧ (r_72247 : Int32).toInt ≤ 0 := nr_eq_l hw_72248 (⟨by decide, by decide⟩ : 0 ≤ (0 : Int32).toInt ∧ (0 : Int32).toInt ≤ 0) c_72249_i (by decide) (by decide)
              refine lv_aload_n hx hb dX4_advance_132 rfl (lv_at hl 0 rfl) ?_
              refine va_get (D := D) (ci := 4) (v := .ref tp) (C := RX4) (T := TX4) (N := 10) hx hb hts inlX4 hown hK hP 0 rfl rfl 0 (by decide) (hts (Cond.fieldLink RX4 9 "ChanceRings$Reader" "tape" "LChanceRings$Tape;") qw_387) (fun _ h9 => h9) rfl dX4_advance_133 ?_
              refine va_get (D := D) (ci := 8) (v := .ref tp_bytes) (C := RX8) (T := TX8) (N := 2) hx hb hts inlX8 hown hK hP 1 rfl rfl 0 (by decide) (hts (Cond.fieldLink RX4 136 "ChanceRings$Tape" "bytes" "[I") qw_390) (fun _ h9 => h9) rfl dX4_advance_136 ?_
              refine lv_aload_n hx hb dX4_advance_139 rfl (lv_at hl 0 rfl) ?_
              refine va_get (D := D) (ci := 4) (v := .int x_72236) (C := RX4) (T := TX4) (N := 10) hx hb hts inlX4 hown hK hP 0 rfl rfl 6 (by decide) (hts (Cond.fieldLink RX4 61 "ChanceRings$Reader" "next" "I") qw_386) (fun _ h9 => h9) rfl dX4_advance_140 ?_
              refine va_iald hx hb hK hP 2 0 rfl rfl (tr_in h_72242 (by decide) (by decide)) dX4_advance_143 ?_
              refine tz_i (y := v_72244) ((congrArg tf rfl).trans g_v_72244.symm) ?_
              have hPc := hP.sub (ws' := []) [] rfl
              refine vp_callSi (va_Run.run (va_runS (As := [.int v_72244]) (rest := []) ⟨hx, hb, hml, hown, hts⟩ (c_X4_isDigit l D g v_72244) (va_cwS 1 hts (tz_gS qw_395 qw_396 qw_384 qw_397) rfl rfl rfl (by decide +kernel) ⟨Nat.le_of_ble_eq_true rfl, Nat.le_of_ble_eq_true rfl⟩) ⟨tz_blS, tz_preS hPc hK⟩ rfl rfl hl.1 rfl (lv_room (Nat.le_of_ble_eq_true rfl)) dX4_advance_144 ⟨Nat.le_of_ble_eq_true rfl, Nat.le_of_ble_eq_true rfl⟩)) (fun r_72259 hw => ?_)
              have hw_72260 : 0 ≤ (r_72259 : Int32).toInt ∧ (r_72259 : Int32).toInt ≤ 1 := hw.1
              have hw_72260_p0 : Hide (¬ (r_72259 : Int32).toInt = 0 → 48 ≤ (v_72244 : Int32).toInt ∧ (v_72244 : Int32).toInt ≤ 57) := hw.2.1
              have hw_72260_p1 : Hide ((r_72259 : Int32).toInt = 0 → (v_72244 : Int32).toInt < 48 ∨ 57 < (v_72244 : Int32).toInt) := hw.2.2
              refine lv_if_eq (tgt := 157) hx hb dX4_advance_147 (by decide) (fun c_72261 => ?_) (fun c_72261 => ?_)
              · skip
                have c_72261_i : (r_72259 : Int32).toInt = (0 : Int32).toInt := congrArg Int32.toInt c_72261
                have hw_72260_p1_u := (hw_72260_p1).get (c_72261_i.trans tk_0)
                have h_72262 : 0 ≤ (r_72259 : Int32).toInt ∧ (r_72259 : Int32).toInt ≤ 0 := nr_eq_l hw_72260 (⟨by decide, by decide⟩ : 0 ≤ (0 : Int32).toInt ∧ (0 : Int32).toInt ≤ 0) c_72261_i (by decide) (by decide)
                refine lv_aload_n hx hb dX4_advance_157 rfl (lv_at hl 0 rfl) ?_
                refine lv_iconst (v := 4) hx hb dX4_advance_158 (by decide) ?_
                refine va_put (D := D) (ci := 4) (v := .int 4) (ty := .int) (C := RX4) (T := TX4) (N := 10) hx hb hts inlX4 tyX4 tyX4_ok nmX4 hown hK hP hD hS 0 rfl rfl 7 (by decide) (hts (Cond.fieldLink RX4 67 "ChanceRings$Reader" "token" "I") qw_389) (fun _ h9 => h9) rfl (by decide +kernel) rfl rfl (Nat.le_of_ble_eq_true rfl) dX4_advance_159 (fun H locs hP hD hS => ?_)
                have hP : va_P D vwCl [(wO4 rd tp n rd_kindWords ww fk fp x_72236 4 x_72236 0), (wO8 tp tp_bytes tl), (wI g tp_bytes 0 440 tf)] H := hP
                have hD : va_D A [(wO4 rd tp n rd_kindWords ww fk fp x_72236 4 x_72236 0), (wO8 tp tp_bytes tl), (wI g tp_bytes 0 440 tf)] := hD
                have hP9 := hP.sub (ws' := [(wO4 rd tp n rd_kindWords ww fk fp x_72236 4 x_72236 0), (wO8 tp tp_bytes tl), (wI g tp_bytes 0 440 tf)]) [0, 1, 2] rfl
                have hD9 := hD.sub (ws' := [(wO4 rd tp n rd_kindWords ww fk fp x_72236 4 x_72236 0), (wO8 tp tp_bytes tl), (wI g tp_bytes 0 440 tf)]) [0, 1, 2] (by decide) rfl
                exact W.vret hx hb hr (fun t ht hW => ⟨⟨(), rfl, trivial, x_72236, 4, x_72236, 0, (tr_w h_72242 (by decide) (by decide)), (⟨by decide, by decide⟩ : 0 ≤ (4 : Int32).toInt ∧ (4 : Int32).toInt ≤ 4), (tr_w h_72242 (by decide) (by decide)), (tk_wrong skp_9 (by rw [gb_v_72244]; (first | (clear h_fk h_fp h_nx h_tk h_tpl hw_72248 c_72249_i h_72251 hw_72260 c_72261_i h_72262; omega) | omega)) (by rw [gb_v_72244]; (first | (clear h_fk h_fp h_nx h_tk h_tpl hw_72248 c_72249_i h_72251 hw_72260 c_72261_i h_72262; omega) | omega)) (by rw [gb_v_72244]; unfold ltr; (first | (clear h_fk h_fp h_nx h_tk h_tpl hw_72248 c_72249_i h_72251 hw_72260 c_72261_i h_72262; omega) | omega)) (by rw [gb_v_72244]; unfold dgt; (first | (clear h_fk h_fp h_nx h_tk h_tpl hw_72248 c_72249_i h_72251 hw_72260 c_72261_i h_72262; omega) | omega)) (by decide)), by rw [ht]; exact hP9, hD9⟩, hS.F ht⟩) hS.2.2 dX4_advance_162
              · skip
                have c_72261_i : ¬ (r_72259 : Int32).toInt = (0 : Int32).toInt := (fun q => c_72261 (Int32.toInt_inj.mp q))
                have hw_72260_p0_u := (hw_72260_p0).get (fun q => c_72261_i (q.trans tk_0.symm))
                have h_72263 : 1 ≤ (r_72259 : Int32).toInt ∧ (r_72259 : Int32).toInt ≤ 1 := nr_ne_l hw_72260 (⟨by decide, by decide⟩ : 0 ≤ (0 : Int32).toInt ∧ (0 : Int32).toInt ≤ 0) c_72261_i (by decide) (by decide)
                refine lv_aload_n hx hb dX4_advance_150 rfl (lv_at hl 0 rfl) ?_
                have hPc := hP.sub (ws' := [(wO4 rd tp n rd_kindWords ww fk fp x_72236 tk x_72236 0), (wO8 tp tp_bytes tl), (wI g tp_bytes 0 440 tf)]) [0, 1, 2] rfl
                have hDc := hD.sub (ws' := [(wO4 rd tp n rd_kindWords ww fk fp x_72236 tk x_72236 0), (wO8 tp tp_bytes tl), (wI g tp_bytes 0 440 tf)]) [0, 1, 2] (by decide) rfl
                have hFc := va_free (wc := [(wO4 rd tp n rd_kindWords ww fk fp x_72236 tk x_72236 0), (wO8 tp tp_bytes tl), (wI g tp_bytes 0 440 tf)]) hD hS hA [0, 1, 2] rfl
                refine va_callv (va_runV (As := []) (rest := []) ⟨hx, hb, hml, hown, hts⟩ (c_X4_takeRun l D g H.size rd tp n rd_kindWords ww fk fp x_72236 tk x_72236 0 tp_bytes tl tf (tr_w h_fk (by decide) (by decide)) (tr_w h_fp (by decide) (by decide)) (tr_w h_72242 (by decide) (by decide)) (tr_w h_tk (by decide) (by decide)) (tr_w h_72242 (by decide) (by decide)) (tr_w h_72243 (by decide) (by decide)) (tr_wa h_tf (by decide) (by decide)) (by first | rfl | decide | (first | (clear h_nx h_tpl hw_72248 c_72249_i h_72251 hw_72260 c_72261_i h_72263; omega) | omega))) (cwV 0 hts (tz_gV qw_398 qw_399 qw_400 qw_384 qw_401) rfl rfl rfl (by decide +kernel) ⟨Nat.le_of_ble_eq_true rfl, Nat.le_of_ble_eq_true rfl⟩) ⟨tz_blQ, va_recv hK hPc (ci := 4) (q0 := 0) rfl rfl, tz_preQ hPc hK hDc⟩ rfl rfl hl.1 rfl (lv_room (Nat.le_of_ble_eq_true rfl)) dX4_advance_151 ⟨Nat.le_of_ble_eq_true rfl, Nat.le_of_ble_eq_true rfl⟩) hS (fun q _ h => hFc q h) hFc (fun u t H1 locs ht hvm hw hB hz1 hk1 hS => ?_)
                obtain ⟨onx_72265, otk_72266, otv_72267, hf_72268, hf_72269, hf_72270, hP1, hD1⟩ := hB
                rw [ht] at hP1
                obtain ⟨hP, hD⟩ := va_join (wr := []) (w1 := [(wO4 rd tp n rd_kindWords ww fk fp onx_72265 otk_72266 x_72236 otv_72267), (wO8 tp tp_bytes tl), (wI g tp_bytes 0 440 tf)]) hP hD [0, 1, 2] [] rfl rfl (by decide) (by decide) hk1 hFc hP1 hD1
                generalize H1 = H at hP hS ⊢
                have hP : va_P D vwCl [(wO4 rd tp n rd_kindWords ww fk fp onx_72265 otk_72266 x_72236 otv_72267), (wO8 tp tp_bytes tl), (wI g tp_bytes 0 440 tf)] H := hP
                have hD : va_D A [(wO4 rd tp n rd_kindWords ww fk fp onx_72265 otk_72266 x_72236 otv_72267), (wO8 tp tp_bytes tl), (wI g tp_bytes 0 440 tf)] := hD
                refine lv_goto (tgt := 162) hx hb dX4_advance_154 (by decide) ?_
                have hP9 := hP.sub (ws' := [(wO4 rd tp n rd_kindWords ww fk fp onx_72265 otk_72266 x_72236 otv_72267), (wO8 tp tp_bytes tl), (wI g tp_bytes 0 440 tf)]) [0, 1, 2] rfl
                have hD9 := hD.sub (ws' := [(wO4 rd tp n rd_kindWords ww fk fp onx_72265 otk_72266 x_72236 otv_72267), (wO8 tp tp_bytes tl), (wI g tp_bytes 0 440 tf)]) [0, 1, 2] (by decide) rfl
                exact W.vret hx hb hr (fun t ht hW => ⟨⟨(), rfl, trivial, onx_72265, otk_72266, x_72236, otv_72267, (tr_w hf_72268 (by decide) (by decide)), (tr_w hf_72269 (by decide) (by decide)), (tr_w h_72242 (by decide) (by decide)), (tk_run skp_9 (by rw [gb_v_72244]; unfold ltr dgt; (first | (clear h_fk h_fp h_nx h_tk h_tpl hw_72248 c_72249_i h_72251 hw_72260 c_72261_i h_72263; omega) | omega)) hf_72270), by rw [ht]; exact hP9, hD9⟩, hS.F ht⟩) hS.2.2 dX4_advance_162
          · skip
            have kk_59 := tk_59
            have c_72245_i : (v_72244 : Int32).toInt = (59 : Int32).toInt := congrArg Int32.toInt c_72245
            have h_72246 : 59 ≤ (v_72244 : Int32).toInt ∧ (v_72244 : Int32).toInt ≤ 59 := nr_eq_l h_v_72244 (⟨by decide, by decide⟩ : 59 ≤ (59 : Int32).toInt ∧ (59 : Int32).toInt ≤ 59) c_72245_i (by decide) (by decide)
            refine lv_aload_n hx hb dX4_advance_96 rfl (lv_at hl 0 rfl) ?_
            refine lv_iconst (v := 3) hx hb dX4_advance_97 (by decide) ?_
            refine va_put (D := D) (ci := 4) (v := .int 3) (ty := .int) (C := RX4) (T := TX4) (N := 10) hx hb hts inlX4 tyX4 tyX4_ok nmX4 hown hK hP hD hS 0 rfl rfl 7 (by decide) (hts (Cond.fieldLink RX4 67 "ChanceRings$Reader" "token" "I") qw_389) (fun _ h9 => h9) rfl (by decide +kernel) rfl rfl (Nat.le_of_ble_eq_true rfl) dX4_advance_98 (fun H locs hP hD hS => ?_)
            have hP : va_P D vwCl [(wO4 rd tp n rd_kindWords ww fk fp x_72236 3 x_72236 0), (wO8 tp tp_bytes tl), (wI g tp_bytes 0 440 tf)] H := hP
            have hD : va_D A [(wO4 rd tp n rd_kindWords ww fk fp x_72236 3 x_72236 0), (wO8 tp tp_bytes tl), (wI g tp_bytes 0 440 tf)] := hD
            refine lv_aload_n hx hb dX4_advance_101 rfl (lv_at hl 0 rfl) ?_
            refine lv_dup hx hb dX4_advance_102 rfl ?_
            refine va_get (D := D) (ci := 4) (v := .int x_72236) (C := RX4) (T := TX4) (N := 10) hx hb hts inlX4 hown hK hP 0 rfl rfl 6 (by decide) (hts (Cond.fieldLink RX4 61 "ChanceRings$Reader" "next" "I") qw_386) (fun _ h9 => h9) rfl dX4_advance_103 ?_
            refine lv_iconst (v := 1) hx hb dX4_advance_106 (by decide) ?_
            refine lv_iadd hx hb dX4_advance_107 ?_
            refine lv_topi (fun v_72271 v_72271_e => ?_)
            have h_v_72271 : 1 ≤ (v_72271 : Int32).toInt ∧ (v_72271 : Int32).toInt ≤ 440 := by rw [v_72271_e]; exact tr_add h_72242 (⟨by decide, by decide⟩ : 1 ≤ (1 : Int32).toInt ∧ (1 : Int32).toInt ≤ 1) (by decide) (by decide) (by decide) (by decide)
            have q_v_72271 : v_72271.toInt = x_72236.toInt + 1 := by rw [v_72271_e]; exact tr_addE h_72242 (⟨by decide, by decide⟩ : 1 ≤ (1 : Int32).toInt ∧ (1 : Int32).toInt ≤ 1) (by decide) (by decide)
            refine va_put (D := D) (ci := 4) (v := .int v_72271) (ty := .int) (C := RX4) (T := TX4) (N := 10) hx hb hts inlX4 tyX4 tyX4_ok nmX4 hown hK hP hD hS 0 rfl rfl 6 (by decide) (hts (Cond.fieldLink RX4 61 "ChanceRings$Reader" "next" "I") qw_386) (fun _ h9 => h9) rfl (by decide +kernel) rfl rfl (Nat.le_of_ble_eq_true rfl) dX4_advance_108 (fun H locs hP hD hS => ?_)
            have hP : va_P D vwCl [(wO4 rd tp n rd_kindWords ww fk fp v_72271 3 x_72236 0), (wO8 tp tp_bytes tl), (wI g tp_bytes 0 440 tf)] H := hP
            have hD : va_D A [(wO4 rd tp n rd_kindWords ww fk fp v_72271 3 x_72236 0), (wO8 tp tp_bytes tl), (wI g tp_bytes 0 440 tf)] := hD
            refine lv_goto (tgt := 162) hx hb dX4_advance_111 (by decide) ?_
            have hP9 := hP.sub (ws' := [(wO4 rd tp n rd_kindWords ww fk fp v_72271 3 x_72236 0), (wO8 tp tp_bytes tl), (wI g tp_bytes 0 440 tf)]) [0, 1, 2] rfl
            have hD9 := hD.sub (ws' := [(wO4 rd tp n rd_kindWords ww fk fp v_72271 3 x_72236 0), (wO8 tp tp_bytes tl), (wI g tp_bytes 0 440 tf)]) [0, 1, 2] (by decide) rfl
            exact W.vret hx hb hr (fun t ht hW => ⟨⟨(), rfl, trivial, v_72271, 3, x_72236, 0, (tr_w h_v_72271 (by decide) (by decide)), (⟨by decide, by decide⟩ : 0 ≤ (3 : Int32).toInt ∧ (3 : Int32).toInt ≤ 4), (tr_w h_72242 (by decide) (by decide)), (tk_semi skp_9 (by rw [gb_v_72244]; (first | (clear h_fk h_fp h_nx h_tk h_tpl; omega) | omega)) (by decide) (by (first | (clear h_fk h_fp h_nx h_tk h_tpl; omega) | omega))), by rw [ht]; exact hP9, hD9⟩, hS.F ht⟩) hS.2.2 dX4_advance_162
        · skip
          have c_72241_i := Int32.le_iff_toInt_le.mp (Int32.not_lt.mp c_72241)
          refine lv_aload_n hx hb dX4_advance_71 rfl (lv_at hl 0 rfl) ?_
          refine lv_iconst (v := 0) hx hb dX4_advance_72 (by decide) ?_
          refine va_put (D := D) (ci := 4) (v := .int 0) (ty := .int) (C := RX4) (T := TX4) (N := 10) hx hb hts inlX4 tyX4 tyX4_ok nmX4 hown hK hP hD hS 0 rfl rfl 7 (by decide) (hts (Cond.fieldLink RX4 67 "ChanceRings$Reader" "token" "I") qw_389) (fun _ h9 => h9) rfl (by decide +kernel) rfl rfl (Nat.le_of_ble_eq_true rfl) dX4_advance_73 (fun H locs hP hD hS => ?_)
          have hP : va_P D vwCl [(wO4 rd tp n rd_kindWords ww fk fp x_72236 0 x_72236 0), (wO8 tp tp_bytes tl), (wI g tp_bytes 0 440 tf)] H := hP
          have hD : va_D A [(wO4 rd tp n rd_kindWords ww fk fp x_72236 0 x_72236 0), (wO8 tp tp_bytes tl), (wI g tp_bytes 0 440 tf)] := hD
          refine lv_goto (tgt := 162) hx hb dX4_advance_76 (by decide) ?_
          have hP9 := hP.sub (ws' := [(wO4 rd tp n rd_kindWords ww fk fp x_72236 0 x_72236 0), (wO8 tp tp_bytes tl), (wI g tp_bytes 0 440 tf)]) [0, 1, 2] rfl
          have hD9 := hD.sub (ws' := [(wO4 rd tp n rd_kindWords ww fk fp x_72236 0 x_72236 0), (wO8 tp tp_bytes tl), (wI g tp_bytes 0 440 tf)]) [0, 1, 2] (by decide) rfl
          exact W.vret hx hb hr (fun t ht hW => ⟨⟨(), rfl, trivial, x_72236, 0, x_72236, 0, (tr_w h_x_72236 (by decide) (by decide)), (⟨by decide, by decide⟩ : 0 ≤ (0 : Int32).toInt ∧ (0 : Int32).toInt ≤ 4), (tr_w h_x_72236 (by decide) (by decide)), (tk_none skp_9 (by exact bg_out (by (first | (clear h_fk h_fp h_nx h_tk h_tpl; omega) | omega))) (by decide) rfl), by rw [ht]; exact hP9, hD9⟩, hS.F ht⟩) hS.2.2 dX4_advance_162
      · skip
        have c_72238_i := Int32.lt_iff_toInt_lt.mp (Int32.not_le.mp c_72238)
        have h_72239 : 0 ≤ (x_72236 : Int32).toInt ∧ (x_72236 : Int32).toInt ≤ 439 := nr_lt_l h_x_72236 h_tl c_72238_i (by decide) (by decide)
        have h_72240 : 1 ≤ (tl : Int32).toInt ∧ (tl : Int32).toInt ≤ 440 := nr_lt_r h_x_72236 h_tl c_72238_i (by decide) (by decide)
        refine lv_aload_n hx hb dX4_advance_14 rfl (lv_at hl 0 rfl) ?_
        refine va_get (D := D) (ci := 4) (v := .ref tp) (C := RX4) (T := TX4) (N := 10) hx hb hts inlX4 hown hK hP 0 rfl rfl 0 (by decide) (hts (Cond.fieldLink RX4 9 "ChanceRings$Reader" "tape" "LChanceRings$Tape;") qw_387) (fun _ h9 => h9) rfl dX4_advance_15 ?_
        refine va_get (D := D) (ci := 8) (v := .ref tp_bytes) (C := RX8) (T := TX8) (N := 2) hx hb hts inlX8 hown hK hP 1 rfl rfl 0 (by decide) (hts (Cond.fieldLink RX4 136 "ChanceRings$Tape" "bytes" "[I") qw_390) (fun _ h9 => h9) rfl dX4_advance_18 ?_
        refine lv_aload_n hx hb dX4_advance_21 rfl (lv_at hl 0 rfl) ?_
        refine va_get (D := D) (ci := 4) (v := .int x_72236) (C := RX4) (T := TX4) (N := 10) hx hb hts inlX4 hown hK hP 0 rfl rfl 6 (by decide) (hts (Cond.fieldLink RX4 61 "ChanceRings$Reader" "next" "I") qw_386) (fun _ h9 => h9) rfl dX4_advance_22 ?_
        refine va_iald hx hb hK hP 2 0 rfl rfl (tr_in h_72239 (by decide) (by decide)) dX4_advance_25 ?_
        refine lv_topi (fun v_72272 v_72272_e => ?_)
        have h_v_72272 : 0 ≤ (v_72272 : Int32).toInt ∧ (v_72272 : Int32).toInt ≤ 255 := by rw [v_72272_e]; exact h_tf _
        have g_v_72272 : v_72272 = tf (x_72236.toInt.toNat) := v_72272_e.trans (congrArg tf rfl)
        have gi_v_72272 := congrArg Int32.toInt g_v_72272
        have gb_v_72272 : bg tf (tl : Int32).toInt x_72236.toInt.toNat = v_72272.toInt := bg_cl h_tf gi_v_72272 (by (first | (clear h_fk h_fp h_nx h_tk h_tpl; omega) | omega))
        refine lv_bipush (v := 32) hx hb dX4_advance_26 (by decide) ?_
        refine lv_icmp_ne (tgt := 44) hx hb dX4_advance_28 (by decide) (fun c_72273 => ?_) (fun c_72273 => ?_)
        · skip
          have kk_32 := tk_32
          have c_72273_i : ¬ (v_72272 : Int32).toInt = (32 : Int32).toInt := (fun q => c_72273 (Int32.toInt_inj.mp q))
          have skp_9 : SKp (bg tf (tl : Int32).toInt) (nx : Int32).toInt.toNat x_72236.toInt.toNat := SKI.fin hr72237_0 (by rw [gb_v_72272]; (first | (clear h_fk h_fp h_tk h_tpl; omega) | omega))
          refine lv_aload_n hx hb dX4_advance_44 rfl (lv_at hl 0 rfl) ?_
          refine lv_aload_n hx hb dX4_advance_45 rfl (lv_at hl 0 rfl) ?_
          refine va_get (D := D) (ci := 4) (v := .int x_72236) (C := RX4) (T := TX4) (N := 10) hx hb hts inlX4 hown hK hP 0 rfl rfl 6 (by decide) (hts (Cond.fieldLink RX4 61 "ChanceRings$Reader" "next" "I") qw_386) (fun _ h9 => h9) rfl dX4_advance_46 ?_
          refine va_put (D := D) (ci := 4) (v := .int x_72236) (ty := .int) (C := RX4) (T := TX4) (N := 10) hx hb hts inlX4 tyX4 tyX4_ok nmX4 hown hK hP hD hS 0 rfl rfl 8 (by decide) (hts (Cond.fieldLink RX4 77 "ChanceRings$Reader" "tokenPlace" "I") qw_380) (fun _ h9 => h9) rfl (by decide +kernel) rfl rfl (Nat.le_of_ble_eq_true rfl) dX4_advance_49 (fun H locs hP hD hS => ?_)
          have hP : va_P D vwCl [(wO4 rd tp n rd_kindWords ww fk fp x_72236 tk x_72236 tv), (wO8 tp tp_bytes tl), (wI g tp_bytes 0 440 tf)] H := hP
          have hD : va_D A [(wO4 rd tp n rd_kindWords ww fk fp x_72236 tk x_72236 tv), (wO8 tp tp_bytes tl), (wI g tp_bytes 0 440 tf)] := hD
          refine lv_aload_n hx hb dX4_advance_52 rfl (lv_at hl 0 rfl) ?_
          refine lv_iconst (v := 0) hx hb dX4_advance_53 (by decide) ?_
          refine va_put (D := D) (ci := 4) (v := .int 0) (ty := .int) (C := RX4) (T := TX4) (N := 10) hx hb hts inlX4 tyX4 tyX4_ok nmX4 hown hK hP hD hS 0 rfl rfl 9 (by decide) (hts (Cond.fieldLink RX4 86 "ChanceRings$Reader" "tokenValue" "I") qw_394) (fun _ h9 => h9) rfl (by decide +kernel) rfl rfl (Nat.le_of_ble_eq_true rfl) dX4_advance_54 (fun H locs hP hD hS => ?_)
          have hP : va_P D vwCl [(wO4 rd tp n rd_kindWords ww fk fp x_72236 tk x_72236 0), (wO8 tp tp_bytes tl), (wI g tp_bytes 0 440 tf)] H := hP
          have hD : va_D A [(wO4 rd tp n rd_kindWords ww fk fp x_72236 tk x_72236 0), (wO8 tp tp_bytes tl), (wI g tp_bytes 0 440 tf)] := hD
          refine lv_aload_n hx hb dX4_advance_57 rfl (lv_at hl 0 rfl) ?_
          refine va_get (D := D) (ci := 4) (v := .int x_72236) (C := RX4) (T := TX4) (N := 10) hx hb hts inlX4 hown hK hP 0 rfl rfl 6 (by decide) (hts (Cond.fieldLink RX4 61 "ChanceRings$Reader" "next" "I") qw_386) (fun _ h9 => h9) rfl dX4_advance_58 ?_
          refine lv_aload_n hx hb dX4_advance_61 rfl (lv_at hl 0 rfl) ?_
          refine va_get (D := D) (ci := 4) (v := .ref tp) (C := RX4) (T := TX4) (N := 10) hx hb hts inlX4 hown hK hP 0 rfl rfl 0 (by decide) (hts (Cond.fieldLink RX4 9 "ChanceRings$Reader" "tape" "LChanceRings$Tape;") qw_387) (fun _ h9 => h9) rfl dX4_advance_62 ?_
          refine va_get (D := D) (ci := 8) (v := .int tl) (C := RX8) (T := TX8) (N := 2) hx hb hts inlX8 hown hK hP 1 rfl rfl 1 (by decide) (hts (Cond.fieldLink RX4 52 "ChanceRings$Tape" "length" "I") qw_388) (fun _ h9 => h9) rfl dX4_advance_65 ?_
          refine lv_icmp_lt (tgt := 79) hx hb dX4_advance_68 (by decide) (fun c_72275 => ?_) (fun c_72275 => ?_)
          · skip
            have c_72275_i := Int32.lt_iff_toInt_lt.mp c_72275
            refine lv_aload_n hx hb dX4_advance_79 rfl (lv_at hl 0 rfl) ?_
            refine va_get (D := D) (ci := 4) (v := .ref tp) (C := RX4) (T := TX4) (N := 10) hx hb hts inlX4 hown hK hP 0 rfl rfl 0 (by decide) (hts (Cond.fieldLink RX4 9 "ChanceRings$Reader" "tape" "LChanceRings$Tape;") qw_387) (fun _ h9 => h9) rfl dX4_advance_80 ?_
            refine va_get (D := D) (ci := 8) (v := .ref tp_bytes) (C := RX8) (T := TX8) (N := 2) hx hb hts inlX8 hown hK hP 1 rfl rfl 0 (by decide) (hts (Cond.fieldLink RX4 136 "ChanceRings$Tape" "bytes" "[I") qw_390) (fun _ h9 => h9) rfl dX4_advance_83 ?_
            refine lv_aload_n hx hb dX4_advance_86 rfl (lv_at hl 0 rfl) ?_
            refine va_get (D := D) (ci := 4) (v := .int x_72236) (C := RX4) (T := TX4) (N := 10) hx hb hts inlX4 hown hK hP 0 rfl rfl 6 (by decide) (hts (Cond.fieldLink RX4 61 "ChanceRings$Reader" "next" "I") qw_386) (fun _ h9 => h9) rfl dX4_advance_87 ?_
            refine va_iald hx hb hK hP 2 0 rfl rfl (tr_in h_72239 (by decide) (by decide)) dX4_advance_90 ?_
            refine tz_i (y := v_72272) ((congrArg tf rfl).trans g_v_72272.symm) ?_
            refine lv_bipush (v := 59) hx hb dX4_advance_91 (by decide) ?_
            refine lv_icmp_ne (tgt := 114) hx hb dX4_advance_93 (by decide) (fun c_72278 => ?_) (fun c_72278 => ?_)
            · skip
              have kk_59 := tk_59
              have c_72278_i : ¬ (v_72272 : Int32).toInt = (59 : Int32).toInt := (fun q => c_72278 (Int32.toInt_inj.mp q))
              refine lv_aload_n hx hb dX4_advance_114 rfl (lv_at hl 0 rfl) ?_
              refine va_get (D := D) (ci := 4) (v := .ref tp) (C := RX4) (T := TX4) (N := 10) hx hb hts inlX4 hown hK hP 0 rfl rfl 0 (by decide) (hts (Cond.fieldLink RX4 9 "ChanceRings$Reader" "tape" "LChanceRings$Tape;") qw_387) (fun _ h9 => h9) rfl dX4_advance_115 ?_
              refine va_get (D := D) (ci := 8) (v := .ref tp_bytes) (C := RX8) (T := TX8) (N := 2) hx hb hts inlX8 hown hK hP 1 rfl rfl 0 (by decide) (hts (Cond.fieldLink RX4 136 "ChanceRings$Tape" "bytes" "[I") qw_390) (fun _ h9 => h9) rfl dX4_advance_118 ?_
              refine lv_aload_n hx hb dX4_advance_121 rfl (lv_at hl 0 rfl) ?_
              refine va_get (D := D) (ci := 4) (v := .int x_72236) (C := RX4) (T := TX4) (N := 10) hx hb hts inlX4 hown hK hP 0 rfl rfl 6 (by decide) (hts (Cond.fieldLink RX4 61 "ChanceRings$Reader" "next" "I") qw_386) (fun _ h9 => h9) rfl dX4_advance_122 ?_
              refine va_iald hx hb hK hP 2 0 rfl rfl (tr_in h_72239 (by decide) (by decide)) dX4_advance_125 ?_
              refine tz_i (y := v_72272) ((congrArg tf rfl).trans g_v_72272.symm) ?_
              have hPc := hP.sub (ws' := []) [] rfl
              refine vp_callSi (va_Run.run (va_runS (As := [.int v_72272]) (rest := []) ⟨hx, hb, hml, hown, hts⟩ (c_X4_isLetter l D g v_72272) (va_cwS 1 hts (tz_gS qw_391 qw_392 qw_384 qw_393) rfl rfl rfl (by decide +kernel) ⟨Nat.le_of_ble_eq_true rfl, Nat.le_of_ble_eq_true rfl⟩) ⟨tz_blS, tz_preS hPc hK⟩ rfl rfl hl.1 rfl (lv_room (Nat.le_of_ble_eq_true rfl)) dX4_advance_126 ⟨Nat.le_of_ble_eq_true rfl, Nat.le_of_ble_eq_true rfl⟩)) (fun r_72280 hw => ?_)
              have hw_72281 : 0 ≤ (r_72280 : Int32).toInt ∧ (r_72280 : Int32).toInt ≤ 1 := hw.1
              have hw_72281_p0 : Hide (¬ (r_72280 : Int32).toInt = 0 → 97 ≤ (v_72272 : Int32).toInt ∧ (v_72272 : Int32).toInt ≤ 122) := hw.2.1
              have hw_72281_p1 : Hide ((r_72280 : Int32).toInt = 0 → (v_72272 : Int32).toInt < 97 ∨ 122 < (v_72272 : Int32).toInt) := hw.2.2
              refine lv_if_ne (tgt := 150) hx hb dX4_advance_129 (by decide) (fun c_72282 => ?_) (fun c_72282 => ?_)
              · skip
                have kk_0 := tk_0
                have c_72282_i : ¬ (r_72280 : Int32).toInt = (0 : Int32).toInt := (fun q => c_72282 (Int32.toInt_inj.mp q))
                have hw_72281_p0_u := (hw_72281_p0).get (fun q => c_72282_i (q.trans tk_0.symm))
                have h_72283 : 1 ≤ (r_72280 : Int32).toInt ∧ (r_72280 : Int32).toInt ≤ 1 := nr_ne_l hw_72281 (⟨by decide, by decide⟩ : 0 ≤ (0 : Int32).toInt ∧ (0 : Int32).toInt ≤ 0) c_72282_i (by decide) (by decide)
                refine lv_aload_n hx hb dX4_advance_150 rfl (lv_at hl 0 rfl) ?_
                have hPc := hP.sub (ws' := [(wO4 rd tp n rd_kindWords ww fk fp x_72236 tk x_72236 0), (wO8 tp tp_bytes tl), (wI g tp_bytes 0 440 tf)]) [0, 1, 2] rfl
                have hDc := hD.sub (ws' := [(wO4 rd tp n rd_kindWords ww fk fp x_72236 tk x_72236 0), (wO8 tp tp_bytes tl), (wI g tp_bytes 0 440 tf)]) [0, 1, 2] (by decide) rfl
                have hFc := va_free (wc := [(wO4 rd tp n rd_kindWords ww fk fp x_72236 tk x_72236 0), (wO8 tp tp_bytes tl), (wI g tp_bytes 0 440 tf)]) hD hS hA [0, 1, 2] rfl
                refine va_callv (va_runV (As := []) (rest := []) ⟨hx, hb, hml, hown, hts⟩ (c_X4_takeRun l D g H.size rd tp n rd_kindWords ww fk fp x_72236 tk x_72236 0 tp_bytes tl tf (tr_w h_fk (by decide) (by decide)) (tr_w h_fp (by decide) (by decide)) (tr_w h_72239 (by decide) (by decide)) (tr_w h_tk (by decide) (by decide)) (tr_w h_72239 (by decide) (by decide)) (tr_w h_72240 (by decide) (by decide)) (tr_wa h_tf (by decide) (by decide)) (by first | rfl | decide | (first | (clear h_nx h_tpl hw_72281 c_72282_i h_72283; omega) | omega))) (cwV 0 hts (tz_gV qw_398 qw_399 qw_400 qw_384 qw_401) rfl rfl rfl (by decide +kernel) ⟨Nat.le_of_ble_eq_true rfl, Nat.le_of_ble_eq_true rfl⟩) ⟨tz_blQ, va_recv hK hPc (ci := 4) (q0 := 0) rfl rfl, tz_preQ hPc hK hDc⟩ rfl rfl hl.1 rfl (lv_room (Nat.le_of_ble_eq_true rfl)) dX4_advance_151 ⟨Nat.le_of_ble_eq_true rfl, Nat.le_of_ble_eq_true rfl⟩) hS (fun q _ h => hFc q h) hFc (fun u t H1 locs ht hvm hw hB hz1 hk1 hS => ?_)
                obtain ⟨onx_72286, otk_72287, otv_72288, hf_72289, hf_72290, hf_72291, hP1, hD1⟩ := hB
                rw [ht] at hP1
                obtain ⟨hP, hD⟩ := va_join (wr := []) (w1 := [(wO4 rd tp n rd_kindWords ww fk fp onx_72286 otk_72287 x_72236 otv_72288), (wO8 tp tp_bytes tl), (wI g tp_bytes 0 440 tf)]) hP hD [0, 1, 2] [] rfl rfl (by decide) (by decide) hk1 hFc hP1 hD1
                generalize H1 = H at hP hS ⊢
                have hP : va_P D vwCl [(wO4 rd tp n rd_kindWords ww fk fp onx_72286 otk_72287 x_72236 otv_72288), (wO8 tp tp_bytes tl), (wI g tp_bytes 0 440 tf)] H := hP
                have hD : va_D A [(wO4 rd tp n rd_kindWords ww fk fp onx_72286 otk_72287 x_72236 otv_72288), (wO8 tp tp_bytes tl), (wI g tp_bytes 0 440 tf)] := hD
                refine lv_goto (tgt := 162) hx hb dX4_advance_154 (by decide) ?_
                have hP9 := hP.sub (ws' := [(wO4 rd tp n rd_kindWords ww fk fp onx_72286 otk_72287 x_72236 otv_72288), (wO8 tp tp_bytes tl), (wI g tp_bytes 0 440 tf)]) [0, 1, 2] rfl
                have hD9 := hD.sub (ws' := [(wO4 rd tp n rd_kindWords ww fk fp onx_72286 otk_72287 x_72236 otv_72288), (wO8 tp tp_bytes tl), (wI g tp_bytes 0 440 tf)]) [0, 1, 2] (by decide) rfl
                exact W.vret hx hb hr (fun t ht hW => ⟨⟨(), rfl, trivial, onx_72286, otk_72287, x_72236, otv_72288, (tr_w hf_72289 (by decide) (by decide)), (tr_w hf_72290 (by decide) (by decide)), (tr_w h_72239 (by decide) (by decide)), (tk_run skp_9 (by rw [gb_v_72272]; unfold ltr dgt; (first | (clear h_fk h_fp h_nx h_tk h_tpl hw_72281 c_72282_i h_72283; omega) | omega)) hf_72291), by rw [ht]; exact hP9, hD9⟩, hS.F ht⟩) hS.2.2 dX4_advance_162
              · skip
                have kk_0 := tk_0
                have c_72282_i : (r_72280 : Int32).toInt = (0 : Int32).toInt := congrArg Int32.toInt c_72282
                have hw_72281_p1_u := (hw_72281_p1).get (c_72282_i.trans tk_0)
                have h_72284 : 0 ≤ (r_72280 : Int32).toInt ∧ (r_72280 : Int32).toInt ≤ 0 := nr_eq_l hw_72281 (⟨by decide, by decide⟩ : 0 ≤ (0 : Int32).toInt ∧ (0 : Int32).toInt ≤ 0) c_72282_i (by decide) (by decide)
                refine lv_aload_n hx hb dX4_advance_132 rfl (lv_at hl 0 rfl) ?_
                refine va_get (D := D) (ci := 4) (v := .ref tp) (C := RX4) (T := TX4) (N := 10) hx hb hts inlX4 hown hK hP 0 rfl rfl 0 (by decide) (hts (Cond.fieldLink RX4 9 "ChanceRings$Reader" "tape" "LChanceRings$Tape;") qw_387) (fun _ h9 => h9) rfl dX4_advance_133 ?_
                refine va_get (D := D) (ci := 8) (v := .ref tp_bytes) (C := RX8) (T := TX8) (N := 2) hx hb hts inlX8 hown hK hP 1 rfl rfl 0 (by decide) (hts (Cond.fieldLink RX4 136 "ChanceRings$Tape" "bytes" "[I") qw_390) (fun _ h9 => h9) rfl dX4_advance_136 ?_
                refine lv_aload_n hx hb dX4_advance_139 rfl (lv_at hl 0 rfl) ?_
                refine va_get (D := D) (ci := 4) (v := .int x_72236) (C := RX4) (T := TX4) (N := 10) hx hb hts inlX4 hown hK hP 0 rfl rfl 6 (by decide) (hts (Cond.fieldLink RX4 61 "ChanceRings$Reader" "next" "I") qw_386) (fun _ h9 => h9) rfl dX4_advance_140 ?_
                refine va_iald hx hb hK hP 2 0 rfl rfl (tr_in h_72239 (by decide) (by decide)) dX4_advance_143 ?_
                refine tz_i (y := v_72272) ((congrArg tf rfl).trans g_v_72272.symm) ?_
                have hPc := hP.sub (ws' := []) [] rfl
                refine vp_callSi (va_Run.run (va_runS (As := [.int v_72272]) (rest := []) ⟨hx, hb, hml, hown, hts⟩ (c_X4_isDigit l D g v_72272) (va_cwS 1 hts (tz_gS qw_395 qw_396 qw_384 qw_397) rfl rfl rfl (by decide +kernel) ⟨Nat.le_of_ble_eq_true rfl, Nat.le_of_ble_eq_true rfl⟩) ⟨tz_blS, tz_preS hPc hK⟩ rfl rfl hl.1 rfl (lv_room (Nat.le_of_ble_eq_true rfl)) dX4_advance_144 ⟨Nat.le_of_ble_eq_true rfl, Nat.le_of_ble_eq_true rfl⟩)) (fun r_72292 hw => ?_)
                have hw_72293 : 0 ≤ (r_72292 : Int32).toInt ∧ (r_72292 : Int32).toInt ≤ 1 := hw.1
                have hw_72293_p0 : Hide (¬ (r_72292 : Int32).toInt = 0 → 48 ≤ (v_72272 : Int32).toInt ∧ (v_72272 : Int32).toInt ≤ 57) := hw.2.1
                have hw_72293_p1 : Hide ((r_72292 : Int32).toInt = 0 → (v_72272 : Int32).toInt < 48 ∨ 57 < (v_72272 : Int32).toInt) := hw.2.2
                refine lv_if_eq (tgt := 157) hx hb dX4_advance_147 (by decide) (fun c_72294 => ?_) (fun c_72294 => ?_)
                · skip
                  have c_72294_i : (r_72292 : Int32).toInt = (0 : Int32).toInt := congrArg Int32.toInt c_72294
                  have hw_72293_p1_u := (hw_72293_p1).get (c_72294_i.trans tk_0)
                  have h_72295 : 0 ≤ (r_72292 : Int32).toInt ∧ (r_72292 : Int32).toInt ≤ 0 := nr_eq_l hw_72293 (⟨by decide, by decide⟩ : 0 ≤ (0 : Int32).toInt ∧ (0 : Int32).toInt ≤ 0) c_72294_i (by decide) (by decide)
                  refine lv_aload_n hx hb dX4_advance_157 rfl (lv_at hl 0 rfl) ?_
                  refine lv_iconst (v := 4) hx hb dX4_advance_158 (by decide) ?_
                  refine va_put (D := D) (ci := 4) (v := .int 4) (ty := .int) (C := RX4) (T := TX4) (N := 10) hx hb hts inlX4 tyX4 tyX4_ok nmX4 hown hK hP hD hS 0 rfl rfl 7 (by decide) (hts (Cond.fieldLink RX4 67 "ChanceRings$Reader" "token" "I") qw_389) (fun _ h9 => h9) rfl (by decide +kernel) rfl rfl (Nat.le_of_ble_eq_true rfl) dX4_advance_159 (fun H locs hP hD hS => ?_)
                  have hP : va_P D vwCl [(wO4 rd tp n rd_kindWords ww fk fp x_72236 4 x_72236 0), (wO8 tp tp_bytes tl), (wI g tp_bytes 0 440 tf)] H := hP
                  have hD : va_D A [(wO4 rd tp n rd_kindWords ww fk fp x_72236 4 x_72236 0), (wO8 tp tp_bytes tl), (wI g tp_bytes 0 440 tf)] := hD
                  have hP9 := hP.sub (ws' := [(wO4 rd tp n rd_kindWords ww fk fp x_72236 4 x_72236 0), (wO8 tp tp_bytes tl), (wI g tp_bytes 0 440 tf)]) [0, 1, 2] rfl
                  have hD9 := hD.sub (ws' := [(wO4 rd tp n rd_kindWords ww fk fp x_72236 4 x_72236 0), (wO8 tp tp_bytes tl), (wI g tp_bytes 0 440 tf)]) [0, 1, 2] (by decide) rfl
                  exact W.vret hx hb hr (fun t ht hW => ⟨⟨(), rfl, trivial, x_72236, 4, x_72236, 0, (tr_w h_72239 (by decide) (by decide)), (⟨by decide, by decide⟩ : 0 ≤ (4 : Int32).toInt ∧ (4 : Int32).toInt ≤ 4), (tr_w h_72239 (by decide) (by decide)), (tk_wrong skp_9 (by rw [gb_v_72272]; (first | (clear h_fk h_fp h_nx h_tk h_tpl hw_72281 c_72282_i h_72284 hw_72293 c_72294_i h_72295; omega) | omega)) (by rw [gb_v_72272]; (first | (clear h_fk h_fp h_nx h_tk h_tpl hw_72281 c_72282_i h_72284 hw_72293 c_72294_i h_72295; omega) | omega)) (by rw [gb_v_72272]; unfold ltr; (first | (clear h_fk h_fp h_nx h_tk h_tpl hw_72281 c_72282_i h_72284 hw_72293 c_72294_i h_72295; omega) | omega)) (by rw [gb_v_72272]; unfold dgt; (first | (clear h_fk h_fp h_nx h_tk h_tpl hw_72281 c_72282_i h_72284 hw_72293 c_72294_i h_72295; omega) | omega)) (by decide)), by rw [ht]; exact hP9, hD9⟩, hS.F ht⟩) hS.2.2 dX4_advance_162
                · skip
                  have c_72294_i : ¬ (r_72292 : Int32).toInt = (0 : Int32).toInt := (fun q => c_72294 (Int32.toInt_inj.mp q))
                  have hw_72293_p0_u := (hw_72293_p0).get (fun q => c_72294_i (q.trans tk_0.symm))
                  have h_72296 : 1 ≤ (r_72292 : Int32).toInt ∧ (r_72292 : Int32).toInt ≤ 1 := nr_ne_l hw_72293 (⟨by decide, by decide⟩ : 0 ≤ (0 : Int32).toInt ∧ (0 : Int32).toInt ≤ 0) c_72294_i (by decide) (by decide)
                  refine lv_aload_n hx hb dX4_advance_150 rfl (lv_at hl 0 rfl) ?_
                  have hPc := hP.sub (ws' := [(wO4 rd tp n rd_kindWords ww fk fp x_72236 tk x_72236 0), (wO8 tp tp_bytes tl), (wI g tp_bytes 0 440 tf)]) [0, 1, 2] rfl
                  have hDc := hD.sub (ws' := [(wO4 rd tp n rd_kindWords ww fk fp x_72236 tk x_72236 0), (wO8 tp tp_bytes tl), (wI g tp_bytes 0 440 tf)]) [0, 1, 2] (by decide) rfl
                  have hFc := va_free (wc := [(wO4 rd tp n rd_kindWords ww fk fp x_72236 tk x_72236 0), (wO8 tp tp_bytes tl), (wI g tp_bytes 0 440 tf)]) hD hS hA [0, 1, 2] rfl
                  refine va_callv (va_runV (As := []) (rest := []) ⟨hx, hb, hml, hown, hts⟩ (c_X4_takeRun l D g H.size rd tp n rd_kindWords ww fk fp x_72236 tk x_72236 0 tp_bytes tl tf (tr_w h_fk (by decide) (by decide)) (tr_w h_fp (by decide) (by decide)) (tr_w h_72239 (by decide) (by decide)) (tr_w h_tk (by decide) (by decide)) (tr_w h_72239 (by decide) (by decide)) (tr_w h_72240 (by decide) (by decide)) (tr_wa h_tf (by decide) (by decide)) (by first | rfl | decide | (first | (clear h_nx h_tpl hw_72281 c_72282_i h_72284 hw_72293 c_72294_i h_72296; omega) | omega))) (cwV 0 hts (tz_gV qw_398 qw_399 qw_400 qw_384 qw_401) rfl rfl rfl (by decide +kernel) ⟨Nat.le_of_ble_eq_true rfl, Nat.le_of_ble_eq_true rfl⟩) ⟨tz_blQ, va_recv hK hPc (ci := 4) (q0 := 0) rfl rfl, tz_preQ hPc hK hDc⟩ rfl rfl hl.1 rfl (lv_room (Nat.le_of_ble_eq_true rfl)) dX4_advance_151 ⟨Nat.le_of_ble_eq_true rfl, Nat.le_of_ble_eq_true rfl⟩) hS (fun q _ h => hFc q h) hFc (fun u t H1 locs ht hvm hw hB hz1 hk1 hS => ?_)
                  obtain ⟨onx_72298, otk_72299, otv_72300, hf_72301, hf_72302, hf_72303, hP1, hD1⟩ := hB
                  rw [ht] at hP1
                  obtain ⟨hP, hD⟩ := va_join (wr := []) (w1 := [(wO4 rd tp n rd_kindWords ww fk fp onx_72298 otk_72299 x_72236 otv_72300), (wO8 tp tp_bytes tl), (wI g tp_bytes 0 440 tf)]) hP hD [0, 1, 2] [] rfl rfl (by decide) (by decide) hk1 hFc hP1 hD1
                  generalize H1 = H at hP hS ⊢
                  have hP : va_P D vwCl [(wO4 rd tp n rd_kindWords ww fk fp onx_72298 otk_72299 x_72236 otv_72300), (wO8 tp tp_bytes tl), (wI g tp_bytes 0 440 tf)] H := hP
                  have hD : va_D A [(wO4 rd tp n rd_kindWords ww fk fp onx_72298 otk_72299 x_72236 otv_72300), (wO8 tp tp_bytes tl), (wI g tp_bytes 0 440 tf)] := hD
                  refine lv_goto (tgt := 162) hx hb dX4_advance_154 (by decide) ?_
                  have hP9 := hP.sub (ws' := [(wO4 rd tp n rd_kindWords ww fk fp onx_72298 otk_72299 x_72236 otv_72300), (wO8 tp tp_bytes tl), (wI g tp_bytes 0 440 tf)]) [0, 1, 2] rfl
                  have hD9 := hD.sub (ws' := [(wO4 rd tp n rd_kindWords ww fk fp onx_72298 otk_72299 x_72236 otv_72300), (wO8 tp tp_bytes tl), (wI g tp_bytes 0 440 tf)]) [0, 1, 2] (by decide) rfl
                  exact W.vret hx hb hr (fun t ht hW => ⟨⟨(), rfl, trivial, onx_72298, otk_72299, x_72236, otv_72300, (tr_w hf_72301 (by decide) (by decide)), (tr_w hf_72302 (by decide) (by decide)), (tr_w h_72239 (by decide) (by decide)), (tk_run skp_9 (by rw [gb_v_72272]; unfold ltr dgt; (first | (clear h_fk h_fp h_nx h_tk h_tpl hw_72281 c_72282_i h_72284 hw_72293 c_72294_i h_72296; omega) | omega)) hf_72303), by rw [ht]; exact hP9, hD9⟩, hS.F ht⟩) hS.2.2 dX4_advance_162
            · skip
              have kk_59 := tk_59
              have c_72278_i : (v_72272 : Int32).toInt = (59 : Int32).toInt := congrArg Int32.toInt c_72278
              have h_72279 : 59 ≤ (v_72272 : Int32).toInt ∧ (v_72272 : Int32).toInt ≤ 59 := nr_eq_l h_v_72272 (⟨by decide, by decide⟩ : 59 ≤ (59 : Int32).toInt ∧ (59 : Int32).toInt ≤ 59) c_72278_i (by decide) (by decide)
              refine lv_aload_n hx hb dX4_advance_96 rfl (lv_at hl 0 rfl) ?_
              refine lv_iconst (v := 3) hx hb dX4_advance_97 (by decide) ?_
              refine va_put (D := D) (ci := 4) (v := .int 3) (ty := .int) (C := RX4) (T := TX4) (N := 10) hx hb hts inlX4 tyX4 tyX4_ok nmX4 hown hK hP hD hS 0 rfl rfl 7 (by decide) (hts (Cond.fieldLink RX4 67 "ChanceRings$Reader" "token" "I") qw_389) (fun _ h9 => h9) rfl (by decide +kernel) rfl rfl (Nat.le_of_ble_eq_true rfl) dX4_advance_98 (fun H locs hP hD hS => ?_)
              have hP : va_P D vwCl [(wO4 rd tp n rd_kindWords ww fk fp x_72236 3 x_72236 0), (wO8 tp tp_bytes tl), (wI g tp_bytes 0 440 tf)] H := hP
              have hD : va_D A [(wO4 rd tp n rd_kindWords ww fk fp x_72236 3 x_72236 0), (wO8 tp tp_bytes tl), (wI g tp_bytes 0 440 tf)] := hD
              refine lv_aload_n hx hb dX4_advance_101 rfl (lv_at hl 0 rfl) ?_
              refine lv_dup hx hb dX4_advance_102 rfl ?_
              refine va_get (D := D) (ci := 4) (v := .int x_72236) (C := RX4) (T := TX4) (N := 10) hx hb hts inlX4 hown hK hP 0 rfl rfl 6 (by decide) (hts (Cond.fieldLink RX4 61 "ChanceRings$Reader" "next" "I") qw_386) (fun _ h9 => h9) rfl dX4_advance_103 ?_
              refine lv_iconst (v := 1) hx hb dX4_advance_106 (by decide) ?_
              refine lv_iadd hx hb dX4_advance_107 ?_
              refine lv_topi (fun v_72304 v_72304_e => ?_)
              have h_v_72304 : 1 ≤ (v_72304 : Int32).toInt ∧ (v_72304 : Int32).toInt ≤ 440 := by rw [v_72304_e]; exact tr_add h_72239 (⟨by decide, by decide⟩ : 1 ≤ (1 : Int32).toInt ∧ (1 : Int32).toInt ≤ 1) (by decide) (by decide) (by decide) (by decide)
              have q_v_72304 : v_72304.toInt = x_72236.toInt + 1 := by rw [v_72304_e]; exact tr_addE h_72239 (⟨by decide, by decide⟩ : 1 ≤ (1 : Int32).toInt ∧ (1 : Int32).toInt ≤ 1) (by decide) (by decide)
              refine va_put (D := D) (ci := 4) (v := .int v_72304) (ty := .int) (C := RX4) (T := TX4) (N := 10) hx hb hts inlX4 tyX4 tyX4_ok nmX4 hown hK hP hD hS 0 rfl rfl 6 (by decide) (hts (Cond.fieldLink RX4 61 "ChanceRings$Reader" "next" "I") qw_386) (fun _ h9 => h9) rfl (by decide +kernel) rfl rfl (Nat.le_of_ble_eq_true rfl) dX4_advance_108 (fun H locs hP hD hS => ?_)
              have hP : va_P D vwCl [(wO4 rd tp n rd_kindWords ww fk fp v_72304 3 x_72236 0), (wO8 tp tp_bytes tl), (wI g tp_bytes 0 440 tf)] H := hP
              have hD : va_D A [(wO4 rd tp n rd_kindWords ww fk fp v_72304 3 x_72236 0), (wO8 tp tp_bytes tl), (wI g tp_bytes 0 440 tf)] := hD
              refine lv_goto (tgt := 162) hx hb dX4_advance_111 (by decide) ?_
              have hP9 := hP.sub (ws' := [(wO4 rd tp n rd_kindWords ww fk fp v_72304 3 x_72236 0), (wO8 tp tp_bytes tl), (wI g tp_bytes 0 440 tf)]) [0, 1, 2] rfl
              have hD9 := hD.sub (ws' := [(wO4 rd tp n rd_kindWords ww fk fp v_72304 3 x_72236 0), (wO8 tp tp_bytes tl), (wI g tp_bytes 0 440 tf)]) [0, 1, 2] (by decide) rfl
              exact W.vret hx hb hr (fun t ht hW => ⟨⟨(), rfl, trivial, v_72304, 3, x_72236, 0, (tr_w h_v_72304 (by decide) (by decide)), (⟨by decide, by decide⟩ : 0 ≤ (3 : Int32).toInt ∧ (3 : Int32).toInt ≤ 4), (tr_w h_72239 (by decide) (by decide)), (tk_semi skp_9 (by rw [gb_v_72272]; (first | (clear h_fk h_fp h_nx h_tk h_tpl; omega) | omega)) (by decide) (by (first | (clear h_fk h_fp h_nx h_tk h_tpl; omega) | omega))), by rw [ht]; exact hP9, hD9⟩, hS.F ht⟩) hS.2.2 dX4_advance_162
          · skip
            have c_72275_i := Int32.le_iff_toInt_le.mp (Int32.not_lt.mp c_72275)
            have h_72276 : 1 ≤ (x_72236 : Int32).toInt ∧ (x_72236 : Int32).toInt ≤ 439 := nr_le_r h_72240 h_72239 c_72275_i (by decide) (by decide)
            have h_72277 : 1 ≤ (tl : Int32).toInt ∧ (tl : Int32).toInt ≤ 439 := nr_le_l h_72240 h_72239 c_72275_i (by decide) (by decide)
            refine lv_aload_n hx hb dX4_advance_71 rfl (lv_at hl 0 rfl) ?_
            refine lv_iconst (v := 0) hx hb dX4_advance_72 (by decide) ?_
            refine va_put (D := D) (ci := 4) (v := .int 0) (ty := .int) (C := RX4) (T := TX4) (N := 10) hx hb hts inlX4 tyX4 tyX4_ok nmX4 hown hK hP hD hS 0 rfl rfl 7 (by decide) (hts (Cond.fieldLink RX4 67 "ChanceRings$Reader" "token" "I") qw_389) (fun _ h9 => h9) rfl (by decide +kernel) rfl rfl (Nat.le_of_ble_eq_true rfl) dX4_advance_73 (fun H locs hP hD hS => ?_)
            have hP : va_P D vwCl [(wO4 rd tp n rd_kindWords ww fk fp x_72236 0 x_72236 0), (wO8 tp tp_bytes tl), (wI g tp_bytes 0 440 tf)] H := hP
            have hD : va_D A [(wO4 rd tp n rd_kindWords ww fk fp x_72236 0 x_72236 0), (wO8 tp tp_bytes tl), (wI g tp_bytes 0 440 tf)] := hD
            refine lv_goto (tgt := 162) hx hb dX4_advance_76 (by decide) ?_
            have hP9 := hP.sub (ws' := [(wO4 rd tp n rd_kindWords ww fk fp x_72236 0 x_72236 0), (wO8 tp tp_bytes tl), (wI g tp_bytes 0 440 tf)]) [0, 1, 2] rfl
            have hD9 := hD.sub (ws' := [(wO4 rd tp n rd_kindWords ww fk fp x_72236 0 x_72236 0), (wO8 tp tp_bytes tl), (wI g tp_bytes 0 440 tf)]) [0, 1, 2] (by decide) rfl
            exact W.vret hx hb hr (fun t ht hW => ⟨⟨(), rfl, trivial, x_72236, 0, x_72236, 0, (tr_w h_72276 (by decide) (by decide)), (⟨by decide, by decide⟩ : 0 ≤ (0 : Int32).toInt ∧ (0 : Int32).toInt ≤ 4), (tr_w h_72276 (by decide) (by decide)), (tk_none skp_9 (by rw [gb_v_72272]; (first | (clear h_fk h_fp h_nx h_tk h_tpl; omega) | omega)) (by decide) rfl), by rw [ht]; exact hP9, hD9⟩, hS.F ht⟩) hS.2.2 dX4_advance_162
        · skip
          have kk_32 := tk_32
          have c_72273_i : (v_72272 : Int32).toInt = (32 : Int32).toInt := congrArg Int32.toInt c_72273
          have h_72274 : 32 ≤ (v_72272 : Int32).toInt ∧ (v_72272 : Int32).toInt ≤ 32 := nr_eq_l h_v_72272 (⟨by decide, by decide⟩ : 32 ≤ (32 : Int32).toInt ∧ (32 : Int32).toInt ≤ 32) c_72273_i (by decide) (by decide)
          refine lv_aload_n hx hb dX4_advance_31 rfl (lv_at hl 0 rfl) ?_
          refine lv_dup hx hb dX4_advance_32 rfl ?_
          refine va_get (D := D) (ci := 4) (v := .int x_72236) (C := RX4) (T := TX4) (N := 10) hx hb hts inlX4 hown hK hP 0 rfl rfl 6 (by decide) (hts (Cond.fieldLink RX4 61 "ChanceRings$Reader" "next" "I") qw_386) (fun _ h9 => h9) rfl dX4_advance_33 ?_
          refine lv_iconst (v := 1) hx hb dX4_advance_36 (by decide) ?_
          refine lv_iadd hx hb dX4_advance_37 ?_
          refine lv_topi (fun v_72305 v_72305_e => ?_)
          have h_v_72305 : 1 ≤ (v_72305 : Int32).toInt ∧ (v_72305 : Int32).toInt ≤ 440 := by rw [v_72305_e]; exact tr_add h_72239 (⟨by decide, by decide⟩ : 1 ≤ (1 : Int32).toInt ∧ (1 : Int32).toInt ≤ 1) (by decide) (by decide) (by decide) (by decide)
          have q_v_72305 : v_72305.toInt = x_72236.toInt + 1 := by rw [v_72305_e]; exact tr_addE h_72239 (⟨by decide, by decide⟩ : 1 ≤ (1 : Int32).toInt ∧ (1 : Int32).toInt ≤ 1) (by decide) (by decide)
          refine va_put (D := D) (ci := 4) (v := .int v_72305) (ty := .int) (C := RX4) (T := TX4) (N := 10) hx hb hts inlX4 tyX4 tyX4_ok nmX4 hown hK hP hD hS 0 rfl rfl 6 (by decide) (hts (Cond.fieldLink RX4 61 "ChanceRings$Reader" "next" "I") qw_386) (fun _ h9 => h9) rfl (by decide +kernel) rfl rfl (Nat.le_of_ble_eq_true rfl) dX4_advance_38 (fun H locs hP hD hS => ?_)
          have hP : va_P D vwCl [(wO4 rd tp n rd_kindWords ww fk fp v_72305 tk tpl tv), (wO8 tp tp_bytes tl), (wI g tp_bytes 0 440 tf)] H := hP
          have hD : va_D A [(wO4 rd tp n rd_kindWords ww fk fp v_72305 tk tpl tv), (wO8 tp tp_bytes tl), (wI g tp_bytes 0 440 tf)] := hD
          refine lv_goto (tgt := 0) hx hb dX4_advance_41 (by decide) ?_
          exact ih_72237 v_72305 H _ ls (tr_w h_v_72305 (by decide) (by decide)) (SKI.on hr72237_0 (by rw [gb_v_72272]; (first | (clear h_fk h_fp h_nx h_tk h_tpl; omega) | omega)) (by (first | (clear h_fk h_fp h_nx h_tk h_tpl; omega) | omega))) (by (first | (clear h_fk h_fp h_nx h_tk h_tpl; omega) | omega)) (hP.sub [0, 1, 2] rfl) (hD.sub [0, 1, 2] (by decide) rfl) hS (lv_sub hl [0] rfl)
  exact lp_72237 441 nx s.heap _ ls (tr_w h_nx (by decide) (by decide)) (SKI.zero rfl) (by (first | (clear h_fk h_fp h_tk h_tpl h_tl; omega) | omega)) (hP.sub [0, 1, 2] rfl) (hD.sub [0, 1, 2] (by decide) rfl) hS (lv_sub hl [0] rfl)
set_option maxHeartbeats 4000000 in
set_option maxRecDepth 100000 in
theorem c_X4_kindOf (l : Launch) (D : va_G) (g : Nat → ClassId) (rd : Nat) (p0 : Int32) (tp : Nat) (n : Nat) (rd_kindWords : Nat) (ww : Int32) (fk : Int32) (fp : Int32) (nx : Int32) (tk : Int32) (tpl : Int32) (tv : Int32) (kwf : Nat → Int32) (h_fk : 0 ≤ (fk : Int32).toInt ∧ (fk : Int32).toInt ≤ 5) (h_fp : 0 ≤ (fp : Int32).toInt ∧ (fp : Int32).toInt ≤ 440) (h_nx : 0 ≤ (nx : Int32).toInt ∧ (nx : Int32).toInt ≤ 440) (h_tk : 0 ≤ (tk : Int32).toInt ∧ (tk : Int32).toInt ≤ 4) (h_tpl : 0 ≤ (tpl : Int32).toInt ∧ (tpl : Int32).toInt ≤ 440) (hkw : KWs kwf) : Met l yX4_kindOf (.code yX4_kindOf cX4_kindOf 3 (some .int) :: wsL_law) ({ frames := 0, cells := 0, slots := 0, locals := 0 }) (va_Pc [.ref rd, .int p0] (fun U => va_P D vwCl [(wO4 rd tp n rd_kindWords ww fk fp nx tk tpl tv), (wI g rd_kindWords 0 4 kwf)] U.heap ∧ va_K D vwCl (TY g) U)) (vp_Si (fun r => ((-1) ≤ (r : Int32).toInt ∧ (r : Int32).toInt ≤ 3) ∧ ((r : Int32).toInt = kd3 (p0 : Int32).toInt))) 0 0 (fun _ => False) := by
  refine Met.ofW (cc := cX4_kindOf) (maxL := 3) (ret := (some .int)) (by decide) rfl ?_
  intro p e s m args below meth c s₁ B hml hv
  obtain ⟨ha, hP, hK⟩ := hv
  have hx := B.exec
  have hb := B.bytes
  have hr := B.returns
  have hts0 := atoms_spec (ws := (.code yX4_kindOf cX4_kindOf 3 (some .int) :: wsL_law)) B.pre
  have hts : ∀ w ∈ wsL_law, w.before args s = true := fun w h => hts0 w (List.mem_cons_of_mem _ h)
  have hown : s.vm.findClass RX4 = some m.cls := findClass_of_methodNamed B.named
  have hlocks := B.notSynchronized
  have hP : va_P D vwCl [(wO4 rd tp n rd_kindWords ww fk fp nx tk tpl tv), (wI g rd_kindWords 0 4 kwf)] s.heap := hP
  refine W.eq (g2 := entryFrame m ([.ref rd, .int p0] : List Value).toArray 3) (by rw [ha]) ?_
  have hl := lv_entry ([.ref rd, .int p0]) (n := 3) (Nat.le_of_ble_eq_true rfl)
  rw [lg_entry_eq]
  generalize (lg_sl ([.ref rd, .int p0]) ++ List.replicate (3 - (lg_sl ([.ref rd, .int p0])).length) Slot.unset).toArray = ls at hl ⊢
  have hl : lv_has ls 3 [(0, .ref rd), (1, .int p0)] := hl
  refine lv_iconst (v := 0) hx hb dX4_kindOf_0 (by decide) ?_
  refine lv_istore_n (lv' := [(2, .int 0), (0, .ref rd), (1, .int p0)]) hx hb dX4_kindOf_1 rfl hl (by decide) rfl (fun ls hl => ?_)
  refine lv_iload_n hx hb dX4_kindOf_2 rfl (lv_at hl 0 rfl) ?_
  refine lv_iconst (v := 3) hx hb dX4_kindOf_3 (by decide) ?_
  refine lv_icmp_gt (tgt := 25) hx hb dX4_kindOf_4 (by decide) (fun h9 => absurd h9 (by decide)) (fun _ => ?_)
  refine lv_aload_n hx hb dX4_kindOf_7 rfl (lv_at hl 1 rfl) ?_
  refine va_get (D := D) (ci := 4) (v := .ref rd_kindWords) (C := RX4) (T := TX4) (N := 10) hx hb hts inlX4 hown hK hP 0 rfl rfl 2 (by decide) (hts (Cond.fieldLink RX4 31 "ChanceRings$Reader" "kindWords" "[I") qw_402) (fun _ h9 => h9) rfl dX4_kindOf_8 ?_
  refine lv_iload_n hx hb dX4_kindOf_11 rfl (lv_at hl 0 rfl) ?_
  refine va_iald hx hb hK hP 1 0 rfl rfl (tz_in (by decide +kernel)) dX4_kindOf_12 ?_
  refine lv_topi (fun v_72306 v_72306_e => ?_)
  have g_v_72306 : v_72306 = kwf (0) := v_72306_e.trans (congrArg kwf rfl)
  have gi_v_72306 := congrArg Int32.toInt g_v_72306
  refine lv_iload_n hx hb dX4_kindOf_13 rfl (lv_at hl 2 rfl) ?_
  refine lv_icmp_ne (tgt := 19) hx hb dX4_kindOf_14 (by decide) (fun c_72307 => ?_) (fun c_72307 => ?_)
  · skip
    have c_72307_i : ¬ (v_72306 : Int32).toInt = (p0 : Int32).toInt := (fun q => c_72307 (Int32.toInt_inj.mp q))
    refine lv_iinc (v := 1) (lv' := [(2, .int 1), (0, .ref rd), (1, .int p0)]) hx hb dX4_kindOf_19 hl (k := 0) rfl (by decide) (by decide) rfl (fun ls hl => ?_)
    refine lv_goto (tgt := 2) hx hb dX4_kindOf_22 (by decide) ?_
    refine lv_iload_n hx hb dX4_kindOf_2 rfl (lv_at hl 0 rfl) ?_
    refine lv_iconst (v := 3) hx hb dX4_kindOf_3 (by decide) ?_
    refine lv_icmp_gt (tgt := 25) hx hb dX4_kindOf_4 (by decide) (fun h9 => absurd h9 (by decide)) (fun _ => ?_)
    refine lv_aload_n hx hb dX4_kindOf_7 rfl (lv_at hl 1 rfl) ?_
    refine va_get (D := D) (ci := 4) (v := .ref rd_kindWords) (C := RX4) (T := TX4) (N := 10) hx hb hts inlX4 hown hK hP 0 rfl rfl 2 (by decide) (hts (Cond.fieldLink RX4 31 "ChanceRings$Reader" "kindWords" "[I") qw_402) (fun _ h9 => h9) rfl dX4_kindOf_8 ?_
    refine lv_iload_n hx hb dX4_kindOf_11 rfl (lv_at hl 0 rfl) ?_
    refine va_iald hx hb hK hP 1 0 rfl rfl (tz_in (by decide +kernel)) dX4_kindOf_12 ?_
    refine lv_topi (fun v_72308 v_72308_e => ?_)
    have g_v_72308 : v_72308 = kwf (1) := v_72308_e.trans (congrArg kwf rfl)
    have gi_v_72308 := congrArg Int32.toInt g_v_72308
    refine lv_iload_n hx hb dX4_kindOf_13 rfl (lv_at hl 2 rfl) ?_
    refine lv_icmp_ne (tgt := 19) hx hb dX4_kindOf_14 (by decide) (fun c_72309 => ?_) (fun c_72309 => ?_)
    · skip
      have c_72309_i : ¬ (v_72308 : Int32).toInt = (p0 : Int32).toInt := (fun q => c_72309 (Int32.toInt_inj.mp q))
      refine lv_iinc (v := 2) (lv' := [(2, .int 2), (0, .ref rd), (1, .int p0)]) hx hb dX4_kindOf_19 hl (k := 0) rfl (by decide) (by decide) rfl (fun ls hl => ?_)
      refine lv_goto (tgt := 2) hx hb dX4_kindOf_22 (by decide) ?_
      refine lv_iload_n hx hb dX4_kindOf_2 rfl (lv_at hl 0 rfl) ?_
      refine lv_iconst (v := 3) hx hb dX4_kindOf_3 (by decide) ?_
      refine lv_icmp_gt (tgt := 25) hx hb dX4_kindOf_4 (by decide) (fun h9 => absurd h9 (by decide)) (fun _ => ?_)
      refine lv_aload_n hx hb dX4_kindOf_7 rfl (lv_at hl 1 rfl) ?_
      refine va_get (D := D) (ci := 4) (v := .ref rd_kindWords) (C := RX4) (T := TX4) (N := 10) hx hb hts inlX4 hown hK hP 0 rfl rfl 2 (by decide) (hts (Cond.fieldLink RX4 31 "ChanceRings$Reader" "kindWords" "[I") qw_402) (fun _ h9 => h9) rfl dX4_kindOf_8 ?_
      refine lv_iload_n hx hb dX4_kindOf_11 rfl (lv_at hl 0 rfl) ?_
      refine va_iald hx hb hK hP 1 0 rfl rfl (tz_in (by decide +kernel)) dX4_kindOf_12 ?_
      refine lv_topi (fun v_72310 v_72310_e => ?_)
      have g_v_72310 : v_72310 = kwf (2) := v_72310_e.trans (congrArg kwf rfl)
      have gi_v_72310 := congrArg Int32.toInt g_v_72310
      refine lv_iload_n hx hb dX4_kindOf_13 rfl (lv_at hl 2 rfl) ?_
      refine lv_icmp_ne (tgt := 19) hx hb dX4_kindOf_14 (by decide) (fun c_72311 => ?_) (fun c_72311 => ?_)
      · skip
        have c_72311_i : ¬ (v_72310 : Int32).toInt = (p0 : Int32).toInt := (fun q => c_72311 (Int32.toInt_inj.mp q))
        refine lv_iinc (v := 3) (lv' := [(2, .int 3), (0, .ref rd), (1, .int p0)]) hx hb dX4_kindOf_19 hl (k := 0) rfl (by decide) (by decide) rfl (fun ls hl => ?_)
        refine lv_goto (tgt := 2) hx hb dX4_kindOf_22 (by decide) ?_
        refine lv_iload_n hx hb dX4_kindOf_2 rfl (lv_at hl 0 rfl) ?_
        refine lv_iconst (v := 3) hx hb dX4_kindOf_3 (by decide) ?_
        refine lv_icmp_gt (tgt := 25) hx hb dX4_kindOf_4 (by decide) (fun h9 => absurd h9 (by decide)) (fun _ => ?_)
        refine lv_aload_n hx hb dX4_kindOf_7 rfl (lv_at hl 1 rfl) ?_
        refine va_get (D := D) (ci := 4) (v := .ref rd_kindWords) (C := RX4) (T := TX4) (N := 10) hx hb hts inlX4 hown hK hP 0 rfl rfl 2 (by decide) (hts (Cond.fieldLink RX4 31 "ChanceRings$Reader" "kindWords" "[I") qw_402) (fun _ h9 => h9) rfl dX4_kindOf_8 ?_
        refine lv_iload_n hx hb dX4_kindOf_11 rfl (lv_at hl 0 rfl) ?_
        refine va_iald hx hb hK hP 1 0 rfl rfl (tz_in (by decide +kernel)) dX4_kindOf_12 ?_
        refine lv_topi (fun v_72312 v_72312_e => ?_)
        have g_v_72312 : v_72312 = kwf (3) := v_72312_e.trans (congrArg kwf rfl)
        have gi_v_72312 := congrArg Int32.toInt g_v_72312
        refine lv_iload_n hx hb dX4_kindOf_13 rfl (lv_at hl 2 rfl) ?_
        refine lv_icmp_ne (tgt := 19) hx hb dX4_kindOf_14 (by decide) (fun c_72313 => ?_) (fun c_72313 => ?_)
        · skip
          have c_72313_i : ¬ (v_72312 : Int32).toInt = (p0 : Int32).toInt := (fun q => c_72313 (Int32.toInt_inj.mp q))
          refine lv_iinc (v := 4) (lv' := [(2, .int 4), (0, .ref rd), (1, .int p0)]) hx hb dX4_kindOf_19 hl (k := 0) rfl (by decide) (by decide) rfl (fun ls hl => ?_)
          refine lv_goto (tgt := 2) hx hb dX4_kindOf_22 (by decide) ?_
          refine lv_iload_n hx hb dX4_kindOf_2 rfl (lv_at hl 0 rfl) ?_
          refine lv_iconst (v := 3) hx hb dX4_kindOf_3 (by decide) ?_
          refine lv_icmp_gt (tgt := 25) hx hb dX4_kindOf_4 (by decide) (fun _ => ?_) (fun h9 => (h9 (by decide)).elim)
          refine lv_iconst (v := (-1)) hx hb dX4_kindOf_25 (by decide) ?_
          exact W.iret (v := (-1)) hx hb hr (fun t ht hW => ⟨(-1), rfl, ⟨(⟨by decide, by decide⟩ : (-1) ≤ ((-1) : Int32).toInt ∧ ((-1) : Int32).toInt ≤ 3), (by have h9 := hkw; unfold KWs at h9; have z_0 := tk_0; have z_1 := tk_1; have z_2 := tk_2; have z_3 := tk_3; have z_m := tk_m1; unfold kd3; (repeat' split) <;> (first | (clear h_fk h_fp h_nx h_tk h_tpl g_v_72306 gi_v_72306 c_72307_i g_v_72308 gi_v_72308 c_72309_i g_v_72310 gi_v_72310 c_72311_i g_v_72312 gi_v_72312 c_72313_i; omega) | omega))⟩, ht⟩) (fun _ h => nomatch h) dX4_kindOf_26
        · skip
          have c_72313_i : (v_72312 : Int32).toInt = (p0 : Int32).toInt := congrArg Int32.toInt c_72313
          refine lv_iload_n hx hb dX4_kindOf_17 rfl (lv_at hl 0 rfl) ?_
          exact W.iret (v := 3) hx hb hr (fun t ht hW => ⟨3, rfl, ⟨(⟨by decide, by decide⟩ : (-1) ≤ (3 : Int32).toInt ∧ (3 : Int32).toInt ≤ 3), (by have h9 := hkw; unfold KWs at h9; have z_0 := tk_0; have z_1 := tk_1; have z_2 := tk_2; have z_3 := tk_3; have z_m := tk_m1; unfold kd3; (repeat' split) <;> (first | (clear h_fk h_fp h_nx h_tk h_tpl g_v_72306 gi_v_72306 c_72307_i g_v_72308 gi_v_72308 c_72309_i g_v_72310 gi_v_72310 c_72311_i g_v_72312 gi_v_72312 c_72313_i; omega) | omega))⟩, ht⟩) (fun _ h => nomatch h) dX4_kindOf_18
      · skip
        have c_72311_i : (v_72310 : Int32).toInt = (p0 : Int32).toInt := congrArg Int32.toInt c_72311
        refine lv_iload_n hx hb dX4_kindOf_17 rfl (lv_at hl 0 rfl) ?_
        exact W.iret (v := 2) hx hb hr (fun t ht hW => ⟨2, rfl, ⟨(⟨by decide, by decide⟩ : (-1) ≤ (2 : Int32).toInt ∧ (2 : Int32).toInt ≤ 3), (by have h9 := hkw; unfold KWs at h9; have z_0 := tk_0; have z_1 := tk_1; have z_2 := tk_2; have z_3 := tk_3; have z_m := tk_m1; unfold kd3; (repeat' split) <;> (first | (clear h_fk h_fp h_nx h_tk h_tpl g_v_72306 gi_v_72306 c_72307_i g_v_72308 gi_v_72308 c_72309_i g_v_72310 gi_v_72310 c_72311_i; omega) | omega))⟩, ht⟩) (fun _ h => nomatch h) dX4_kindOf_18
    · skip
      have c_72309_i : (v_72308 : Int32).toInt = (p0 : Int32).toInt := congrArg Int32.toInt c_72309
      refine lv_iload_n hx hb dX4_kindOf_17 rfl (lv_at hl 0 rfl) ?_
      exact W.iret (v := 1) hx hb hr (fun t ht hW => ⟨1, rfl, ⟨(⟨by decide, by decide⟩ : (-1) ≤ (1 : Int32).toInt ∧ (1 : Int32).toInt ≤ 3), (by have h9 := hkw; unfold KWs at h9; have z_0 := tk_0; have z_1 := tk_1; have z_2 := tk_2; have z_3 := tk_3; have z_m := tk_m1; unfold kd3; (repeat' split) <;> (first | (clear h_fk h_fp h_nx h_tk h_tpl g_v_72306 gi_v_72306 c_72307_i g_v_72308 gi_v_72308 c_72309_i; omega) | omega))⟩, ht⟩) (fun _ h => nomatch h) dX4_kindOf_18
  · skip
    have c_72307_i : (v_72306 : Int32).toInt = (p0 : Int32).toInt := congrArg Int32.toInt c_72307
    refine lv_iload_n hx hb dX4_kindOf_17 rfl (lv_at hl 0 rfl) ?_
    exact W.iret (v := 0) hx hb hr (fun t ht hW => ⟨0, rfl, ⟨(⟨by decide, by decide⟩ : (-1) ≤ (0 : Int32).toInt ∧ (0 : Int32).toInt ≤ 3), (by have h9 := hkw; unfold KWs at h9; have z_0 := tk_0; have z_1 := tk_1; have z_2 := tk_2; have z_3 := tk_3; have z_m := tk_m1; unfold kd3; (repeat' split) <;> (first | (clear h_fk h_fp h_nx h_tk h_tpl g_v_72306 gi_v_72306 c_72307_i; omega) | omega))⟩, ht⟩) (fun _ h => nomatch h) dX4_kindOf_18
set_option maxHeartbeats 4000000 in
set_option maxRecDepth 100000 in
theorem c_X4_isName (l : Launch) (D : va_G) (g : Nat → ClassId) (rd : Nat) (tp : Nat) (n : Nat) (rd_kindWords : Nat) (ww : Int32) (fk : Int32) (fp : Int32) (nx : Int32) (tk : Int32) (tpl : Int32) (tv : Int32) (kwf : Nat → Int32) (h_fk : 0 ≤ (fk : Int32).toInt ∧ (fk : Int32).toInt ≤ 5) (h_fp : 0 ≤ (fp : Int32).toInt ∧ (fp : Int32).toInt ≤ 440) (h_nx : 0 ≤ (nx : Int32).toInt ∧ (nx : Int32).toInt ≤ 440) (h_tk : 0 ≤ (tk : Int32).toInt ∧ (tk : Int32).toInt ≤ 4) (h_tpl : 0 ≤ (tpl : Int32).toInt ∧ (tpl : Int32).toInt ≤ 440) (hkw : KWs kwf) (hww : (ww : Int32).toInt = 16819) : Met l yX4_isName (.code yX4_isName cX4_isName 1 (some .boolean) :: wsL_law) ({ frames := 1, cells := 0, slots := 0, locals := 22 }) (va_Pc [.ref rd] (fun U => va_P D vwCl [(wO4 rd tp n rd_kindWords ww fk fp nx tk tpl tv), (wI g rd_kindWords 0 4 kwf)] U.heap ∧ va_K D vwCl (TY g) U)) (vp_Si (fun r => (0 ≤ (r : Int32).toInt ∧ (r : Int32).toInt ≤ 1) ∧ (Hide (¬ (r : Int32).toInt = 0 → NMC (tk : Int32).toInt (tv : Int32).toInt)) ∧ (Hide ((r : Int32).toInt = 0 → ¬ NMC (tk : Int32).toInt (tv : Int32).toInt)))) 0 0 (fun _ => False) := by
  refine Met.ofW (cc := cX4_isName) (maxL := 1) (ret := (some .boolean)) (by decide) rfl ?_
  intro p e s m args below meth c s₁ B hml hv
  obtain ⟨ha, hP, hK⟩ := hv
  have hx := B.exec
  have hb := B.bytes
  have hr := B.returns
  have hts0 := atoms_spec (ws := (.code yX4_isName cX4_isName 1 (some .boolean) :: wsL_law)) B.pre
  have hts : ∀ w ∈ wsL_law, w.before args s = true := fun w h => hts0 w (List.mem_cons_of_mem _ h)
  have hown : s.vm.findClass RX4 = some m.cls := findClass_of_methodNamed B.named
  have hlocks := B.notSynchronized
  have hP : va_P D vwCl [(wO4 rd tp n rd_kindWords ww fk fp nx tk tpl tv), (wI g rd_kindWords 0 4 kwf)] s.heap := hP
  refine W.eq (g2 := entryFrame m ([.ref rd] : List Value).toArray 1) (by rw [ha]) ?_
  have hl := lv_entry ([.ref rd]) (n := 1) (Nat.le_of_ble_eq_true rfl)
  rw [lg_entry_eq]
  generalize (lg_sl ([.ref rd]) ++ List.replicate (1 - (lg_sl ([.ref rd])).length) Slot.unset).toArray = ls at hl ⊢
  have hl : lv_has ls 1 [(0, .ref rd)] := hl
  refine lv_aload_n hx hb dX4_isName_0 rfl (lv_at hl 0 rfl) ?_
  refine va_get (D := D) (ci := 4) (v := .int tk) (C := RX4) (T := TX4) (N := 10) hx hb hts inlX4 hown hK hP 0 rfl rfl 7 (by decide) (hts (Cond.fieldLink RX4 67 "ChanceRings$Reader" "token" "I") qw_389) (fun _ h9 => h9) rfl dX4_isName_1 ?_
  refine lv_iconst (v := 1) hx hb dX4_isName_4 (by decide) ?_
  refine lv_icmp_ne (tgt := 35) hx hb dX4_isName_5 (by decide) (fun c_72314 => ?_) (fun c_72314 => ?_)
  · skip
    have kk_1 := tk_1
    have c_72314_i : ¬ (tk : Int32).toInt = (1 : Int32).toInt := (fun q => c_72314 (Int32.toInt_inj.mp q))
    refine lv_iconst (v := 0) hx hb dX4_isName_35 (by decide) ?_
    exact W.zret (v := 0) hx hb hr (by decide) (fun t ht hW => ⟨0, rfl, ⟨(⟨by decide, by decide⟩ : 0 ≤ (0 : Int32).toInt ∧ (0 : Int32).toInt ≤ 1), (fun h9 => absurd (by decide) h9), (fun _ q9 => absurd q9.1 (by have z_0 := tk_0; have z_1 := tk_1; have z_m := tk_m1; (first | (clear h_fk h_fp h_nx h_tk h_tpl hww c_72314_i; omega) | omega)))⟩, ht⟩) (fun _ h => nomatch h) dX4_isName_36
  · skip
    have kk_1 := tk_1
    have c_72314_i : (tk : Int32).toInt = (1 : Int32).toInt := congrArg Int32.toInt c_72314
    have h_72315 : 1 ≤ (tk : Int32).toInt ∧ (tk : Int32).toInt ≤ 1 := nr_eq_l h_tk (⟨by decide, by decide⟩ : 1 ≤ (1 : Int32).toInt ∧ (1 : Int32).toInt ≤ 1) c_72314_i (by decide) (by decide)
    refine lv_aload_n hx hb dX4_isName_8 rfl (lv_at hl 0 rfl) ?_
    refine va_get (D := D) (ci := 4) (v := .int tv) (C := RX4) (T := TX4) (N := 10) hx hb hts inlX4 hown hK hP 0 rfl rfl 9 (by decide) (hts (Cond.fieldLink RX4 86 "ChanceRings$Reader" "tokenValue" "I") qw_394) (fun _ h9 => h9) rfl dX4_isName_9 ?_
    refine lv_aload_n hx hb dX4_isName_12 rfl (lv_at hl 0 rfl) ?_
    refine va_get (D := D) (ci := 4) (v := .int ww) (C := RX4) (T := TX4) (N := 10) hx hb hts inlX4 hown hK hP 0 rfl rfl 3 (by decide) (hts (Cond.fieldLink RX4 37 "ChanceRings$Reader" "wayWord" "I") qw_403) (fun _ h9 => h9) rfl dX4_isName_13 ?_
    refine lv_icmp_eq (tgt := 35) hx hb dX4_isName_16 (by decide) (fun c_72316 => ?_) (fun c_72316 => ?_)
    · skip
      have c_72316_i : (tv : Int32).toInt = (ww : Int32).toInt := congrArg Int32.toInt c_72316
      refine lv_iconst (v := 0) hx hb dX4_isName_35 (by decide) ?_
      exact W.zret (v := 0) hx hb hr (by decide) (fun t ht hW => ⟨0, rfl, ⟨(⟨by decide, by decide⟩ : 0 ≤ (0 : Int32).toInt ∧ (0 : Int32).toInt ≤ 1), (fun h9 => absurd (by decide) h9), (fun _ => nmc_noW (by have z_0 := tk_0; have z_1 := tk_1; have z_m := tk_m1; (first | (clear h_fk h_fp h_nx h_tk h_tpl hww c_72314_i h_72315 c_72316_i; omega) | omega)))⟩, ht⟩) (fun _ h => nomatch h) dX4_isName_36
    · skip
      have c_72316_i : ¬ (tv : Int32).toInt = (ww : Int32).toInt := (fun q => c_72316 (Int32.toInt_inj.mp q))
      refine lv_aload_n hx hb dX4_isName_19 rfl (lv_at hl 0 rfl) ?_
      refine lv_aload_n hx hb dX4_isName_20 rfl (lv_at hl 0 rfl) ?_
      refine va_get (D := D) (ci := 4) (v := .int tv) (C := RX4) (T := TX4) (N := 10) hx hb hts inlX4 hown hK hP 0 rfl rfl 9 (by decide) (hts (Cond.fieldLink RX4 86 "ChanceRings$Reader" "tokenValue" "I") qw_394) (fun _ h9 => h9) rfl dX4_isName_21 ?_
      have hPc := hP.sub (ws' := [(wO4 rd tp n rd_kindWords ww fk fp nx tk tpl tv), (wI g rd_kindWords 0 4 kwf)]) [0, 1] rfl
      refine vp_callSi (va_Run.run (va_runV (As := [.int tv]) (rest := []) ⟨hx, hb, hml, hown, hts⟩ (c_X4_kindOf l D g rd tv tp n rd_kindWords ww fk fp nx tk tpl tv kwf (tr_w h_fk (by decide) (by decide)) (tr_w h_fp (by decide) (by decide)) (tr_w h_nx (by decide) (by decide)) (tr_w h_72315 (by decide) (by decide)) (tr_w h_tpl (by decide) (by decide)) hkw) (cwV 1 hts (tz_gV qw_404 qw_405 qw_406 qw_384 qw_407) rfl rfl rfl (by decide +kernel) ⟨Nat.le_of_ble_eq_true rfl, Nat.le_of_ble_eq_true rfl⟩) ⟨tz_blS, va_recv hK hPc (ci := 4) (q0 := 0) rfl rfl, tz_preS hPc hK⟩ rfl rfl hl.1 rfl (lv_room (Nat.le_of_ble_eq_true rfl)) dX4_isName_24 ⟨Nat.le_of_ble_eq_true rfl, Nat.le_of_ble_eq_true rfl⟩)) (fun r_72317 hw => ?_)
      have hw_72318 : (-1) ≤ (r_72317 : Int32).toInt ∧ (r_72317 : Int32).toInt ≤ 3 := hw.1
      have hw_72318_p0 : (r_72317 : Int32).toInt = kd3 (tv : Int32).toInt := hw.2
      refine lv_iconst (v := (-1)) hx hb dX4_isName_27 (by decide) ?_
      refine lv_icmp_ne (tgt := 35) hx hb dX4_isName_28 (by decide) (fun c_72319 => ?_) (fun c_72319 => ?_)
      · skip
        have kk_m1 := tk_m1
        have c_72319_i : ¬ (r_72317 : Int32).toInt = ((-1) : Int32).toInt := (fun q => c_72319 (Int32.toInt_inj.mp q))
        have h_72320 : 0 ≤ (r_72317 : Int32).toInt ∧ (r_72317 : Int32).toInt ≤ 3 := nr_ne_l hw_72318 (⟨by decide, by decide⟩ : (-1) ≤ ((-1) : Int32).toInt ∧ ((-1) : Int32).toInt ≤ (-1)) c_72319_i (by decide) (by decide)
        refine lv_iconst (v := 0) hx hb dX4_isName_35 (by decide) ?_
        exact W.zret (v := 0) hx hb hr (by decide) (fun t ht hW => ⟨0, rfl, ⟨(⟨by decide, by decide⟩ : 0 ≤ (0 : Int32).toInt ∧ (0 : Int32).toInt ≤ 1), (fun h9 => absurd (by decide) h9), (fun _ => nmc_no3 (by have k9 := hw_72318_p0; have z_0 := tk_0; have z_1 := tk_1; have z_m := tk_m1; (first | (clear h_fk h_fp h_nx h_tk h_tpl c_72314_i h_72315; omega) | omega)))⟩, ht⟩) (fun _ h => nomatch h) dX4_isName_36
      · skip
        have kk_m1 := tk_m1
        have c_72319_i : (r_72317 : Int32).toInt = ((-1) : Int32).toInt := congrArg Int32.toInt c_72319
        have h_72321 : (-1) ≤ (r_72317 : Int32).toInt ∧ (r_72317 : Int32).toInt ≤ (-1) := nr_eq_l hw_72318 (⟨by decide, by decide⟩ : (-1) ≤ ((-1) : Int32).toInt ∧ ((-1) : Int32).toInt ≤ (-1)) c_72319_i (by decide) (by decide)
        refine lv_iconst (v := 1) hx hb dX4_isName_31 (by decide) ?_
        refine lv_goto (tgt := 36) hx hb dX4_isName_32 (by decide) ?_
        exact W.zret (v := 1) hx hb hr (by decide) (fun t ht hW => ⟨1, rfl, ⟨(⟨by decide, by decide⟩ : 0 ≤ (1 : Int32).toInt ∧ (1 : Int32).toInt ≤ 1), (fun _ => ⟨by have z_0 := tk_0; have z_1 := tk_1; have z_m := tk_m1; (first | (clear h_fk h_fp h_nx h_tk h_tpl c_72314_i h_72315; omega) | omega), kd_none (by have k9 := hw_72318_p0; have z_0 := tk_0; have z_1 := tk_1; have z_m := tk_m1; (first | (clear h_fk h_fp h_nx h_tk h_tpl c_72314_i h_72315; omega) | omega)) (by have z_0 := tk_0; have z_1 := tk_1; have z_m := tk_m1; (first | (clear h_fk h_fp h_nx h_tk h_tpl c_72314_i h_72315; omega) | omega))⟩), (fun h9 => absurd h9 (by decide))⟩, ht⟩) (fun _ h => nomatch h) dX4_isName_36
set_option maxHeartbeats 4000000 in
set_option maxRecDepth 100000 in
theorem c_X4_isFull (l : Launch) (D : va_G) (g : Nat → ClassId) (rd : Nat) (p0 : Int32) (tp : Nat) (n : Nat) (rd_kindWords : Nat) (ww : Int32) (fk : Int32) (fp : Int32) (nx : Int32) (tk : Int32) (tpl : Int32) (tv : Int32) (n_nodes : Int32) (n_kind : Nat) (n_pay : Nat) (n_name : Nat) (n_ways : Nat) (n_held : Nat) (n_targets : Nat) (n_weights : Nat) (n_fkind : Nat → Int32) (h_p0 : 0 ≤ (p0 : Int32).toInt ∧ (p0 : Int32).toInt ≤ 3) (h_fk : 0 ≤ (fk : Int32).toInt ∧ (fk : Int32).toInt ≤ 5) (h_fp : 0 ≤ (fp : Int32).toInt ∧ (fp : Int32).toInt ≤ 440) (h_nx : 0 ≤ (nx : Int32).toInt ∧ (nx : Int32).toInt ≤ 440) (h_tk : 0 ≤ (tk : Int32).toInt ∧ (tk : Int32).toInt ≤ 4) (h_tpl : 0 ≤ (tpl : Int32).toInt ∧ (tpl : Int32).toInt ≤ 440) (h_n_nodes : 0 ≤ (n_nodes : Int32).toInt ∧ (n_nodes : Int32).toInt ≤ 12) (h_n_fkind : ∀ j : Nat, 0 ≤ (n_fkind j).toInt ∧ (n_fkind j).toInt ≤ 3) : Met l yX4_isFull (.code yX4_isFull cX4_isFull 3 (some .boolean) :: wsL_law) ({ frames := 1, cells := 0, slots := 0, locals := 23 }) (va_Pc [.ref rd, .int p0] (fun U => va_P D vwCl [(wO4 rd tp n rd_kindWords ww fk fp nx tk tpl tv), (wO2 n n_nodes n_kind n_pay n_name n_ways n_held n_targets n_weights), (wI g n_kind 0 12 n_fkind)] U.heap ∧ va_K D vwCl (TY g) U)) (vp_Si (fun r => (0 ≤ (r : Int32).toInt ∧ (r : Int32).toInt ≤ 1) ∧ (Hide (¬ (r : Int32).toInt = 0 → FLk (n_nodes : Int32).toInt n_fkind (p0 : Int32).toInt)) ∧ (Hide ((r : Int32).toInt = 0 → ¬ FLk (n_nodes : Int32).toInt n_fkind (p0 : Int32).toInt)))) 0 0 (fun _ => False) := by
  refine Met.ofW (cc := cX4_isFull) (maxL := 3) (ret := (some .boolean)) (by decide) rfl ?_
  intro p e s m args below meth c s₁ B hml hv
  obtain ⟨ha, hP, hK⟩ := hv
  have hx := B.exec
  have hb := B.bytes
  have hr := B.returns
  have hts0 := atoms_spec (ws := (.code yX4_isFull cX4_isFull 3 (some .boolean) :: wsL_law)) B.pre
  have hts : ∀ w ∈ wsL_law, w.before args s = true := fun w h => hts0 w (List.mem_cons_of_mem _ h)
  have hown : s.vm.findClass RX4 = some m.cls := findClass_of_methodNamed B.named
  have hlocks := B.notSynchronized
  have hP : va_P D vwCl [(wO4 rd tp n rd_kindWords ww fk fp nx tk tpl tv), (wO2 n n_nodes n_kind n_pay n_name n_ways n_held n_targets n_weights), (wI g n_kind 0 12 n_fkind)] s.heap := hP
  refine W.eq (g2 := entryFrame m ([.ref rd, .int p0] : List Value).toArray 3) (by rw [ha]) ?_
  have hl := lv_entry ([.ref rd, .int p0]) (n := 3) (Nat.le_of_ble_eq_true rfl)
  rw [lg_entry_eq]
  generalize (lg_sl ([.ref rd, .int p0]) ++ List.replicate (3 - (lg_sl ([.ref rd, .int p0])).length) Slot.unset).toArray = ls at hl ⊢
  have hl : lv_has ls 3 [(0, .ref rd), (1, .int p0)] := hl
  refine lv_aload_n hx hb dX4_isFull_0 rfl (lv_at hl 0 rfl) ?_
  refine va_get (D := D) (ci := 4) (v := .ref n) (C := RX4) (T := TX4) (N := 10) hx hb hts inlX4 hown hK hP 0 rfl rfl 1 (by decide) (hts (Cond.fieldLink RX4 15 "ChanceRings$Reader" "net" "LChanceRings$Net;") qw_408) (fun _ h9 => h9) rfl dX4_isFull_1 ?_
  refine lv_iconst (v := 0) hx hb dX4_isFull_4 (by decide) ?_
  have hPc := hP.sub (ws' := [(wO2 n n_nodes n_kind n_pay n_name n_ways n_held n_targets n_weights), (wI g n_kind 0 12 n_fkind)]) [1, 2] rfl
  refine vp_callSi (va_Run.run (va_runV (As := [.int 0]) (rest := []) ⟨hx, hb, hml, hown, hts⟩ (c_X2_countOf l D g n 0 n_nodes n_kind n_pay n_name n_ways n_held n_targets n_weights n_fkind (tr_w h_n_nodes (by decide) (by decide)) (tr_wa h_n_fkind (by decide) (by decide))) (cwV 1 hts (tz_gV qw_409 qw_410 qw_411 qw_322 qw_412) rfl rfl rfl (by decide +kernel) ⟨Nat.le_of_ble_eq_true rfl, Nat.le_of_ble_eq_true rfl⟩) ⟨tz_blS, va_recv hK hPc (ci := 2) (q0 := 0) rfl rfl, tz_preS hPc hK⟩ rfl rfl hl.1 rfl (lv_room (Nat.le_of_ble_eq_true rfl)) dX4_isFull_5 ⟨Nat.le_of_ble_eq_true rfl, Nat.le_of_ble_eq_true rfl⟩)) (fun r_72322 hw => ?_)
  have kk_0 := tk_0
  have hw_72323 : 0 ≤ (r_72322 : Int32).toInt ∧ (r_72322 : Int32).toInt ≤ 12 := hw.1
  have hw_72323_p0 : (r_72322 : Int32).toInt = cnf (fun p => (n_fkind p).toInt) (0 : Int32).toInt (n_nodes : Int32).toInt.toNat := hw.2
  refine lv_istore_n (lv' := [(2, .int r_72322), (0, .ref rd), (1, .int p0)]) hx hb dX4_isFull_8 rfl hl (by decide) rfl (fun ls hl => ?_)
  refine lv_iload_n hx hb dX4_isFull_9 rfl (lv_at hl 2 rfl) ?_
  refine lv_if_ne (tgt := 24) hx hb dX4_isFull_10 (by decide) (fun c_72324 => ?_) (fun c_72324 => ?_)
  · skip
    have c_72324_i : ¬ (p0 : Int32).toInt = (0 : Int32).toInt := (fun q => c_72324 (Int32.toInt_inj.mp q))
    have h_72325 : 1 ≤ (p0 : Int32).toInt ∧ (p0 : Int32).toInt ≤ 3 := nr_ne_l h_p0 (⟨by decide, by decide⟩ : 0 ≤ (0 : Int32).toInt ∧ (0 : Int32).toInt ≤ 0) c_72324_i (by decide) (by decide)
    refine lv_aload_n hx hb dX4_isFull_24 rfl (lv_at hl 1 rfl) ?_
    refine va_get (D := D) (ci := 4) (v := .ref n) (C := RX4) (T := TX4) (N := 10) hx hb hts inlX4 hown hK hP 0 rfl rfl 1 (by decide) (hts (Cond.fieldLink RX4 15 "ChanceRings$Reader" "net" "LChanceRings$Net;") qw_408) (fun _ h9 => h9) rfl dX4_isFull_25 ?_
    refine va_get (D := D) (ci := 2) (v := .int n_nodes) (C := RX2) (T := TX2) (N := 8) hx hb hts inlX2 hown hK hP 1 rfl rfl 0 (by decide) (hts (Cond.fieldLink RX4 47 "ChanceRings$Net" "nodes" "I") qw_413) (fun _ h9 => h9) rfl dX4_isFull_28 ?_
    refine lv_iload_n hx hb dX4_isFull_31 rfl (lv_at hl 0 rfl) ?_
    refine lv_isub hx hb dX4_isFull_32 ?_
    refine lv_topi (fun v_72327 v_72327_e => ?_)
    have h_v_72327 : (-12) ≤ (v_72327 : Int32).toInt ∧ (v_72327 : Int32).toInt ≤ 12 := by rw [v_72327_e]; exact tr_sub h_n_nodes hw_72323 (by decide) (by decide) (by decide) (by decide)
    have q_v_72327 : v_72327.toInt = n_nodes.toInt - r_72322.toInt := by rw [v_72327_e]; exact tr_subX h_n_nodes hw_72323 (by decide) (by decide)
    refine lv_bipush (v := 8) hx hb dX4_isFull_33 (by decide) ?_
    refine lv_icmp_ge (tgt := 55) hx hb dX4_isFull_35 (by decide) (fun c_72328 => ?_) (fun c_72328 => ?_)
    · skip
      have kk_8 := tk_8
      have c_72328_i := Int32.le_iff_toInt_le.mp c_72328
      have h_72329 : 8 ≤ (v_72327 : Int32).toInt ∧ (v_72327 : Int32).toInt ≤ 12 := nr_le_r (⟨by decide, by decide⟩ : 8 ≤ (8 : Int32).toInt ∧ (8 : Int32).toInt ≤ 8) h_v_72327 c_72328_i (by decide) (by decide)
      refine lv_iconst (v := 1) hx hb dX4_isFull_55 (by decide) ?_
      refine lv_goto (tgt := 60) hx hb dX4_isFull_56 (by decide) ?_
      exact W.zret (v := 1) hx hb hr (by decide) (fun t ht hW => ⟨1, rfl, ⟨(⟨by decide, by decide⟩ : 0 ≤ (1 : Int32).toInt ∧ (1 : Int32).toInt ≤ 1), (fun _ => by have f0 := hw_72323_p0; rw [tk_0] at f0; unfold FLk; have z3 := tk_3; have z4 := tk_4; have z5 := tk_5; have z8 := tk_8; have z_0 := tk_0; (first | (clear h_p0 h_fk h_fp h_nx h_tk h_tpl c_72324_i h_72325; omega) | omega)), (fun h9 => absurd h9 (by decide))⟩, ht⟩) (fun _ h => nomatch h) dX4_isFull_60
    · skip
      have kk_8 := tk_8
      have c_72328_i := Int32.lt_iff_toInt_lt.mp (Int32.not_le.mp c_72328)
      have h_72330 : (-12) ≤ (v_72327 : Int32).toInt ∧ (v_72327 : Int32).toInt ≤ 7 := nr_lt_l h_v_72327 (⟨by decide, by decide⟩ : 8 ≤ (8 : Int32).toInt ∧ (8 : Int32).toInt ≤ 8) c_72328_i (by decide) (by decide)
      refine lv_iload_n hx hb dX4_isFull_38 rfl (lv_at hl 2 rfl) ?_
      refine lv_iconst (v := 3) hx hb dX4_isFull_39 (by decide) ?_
      refine lv_icmp_ne (tgt := 59) hx hb dX4_isFull_40 (by decide) (fun c_72331 => ?_) (fun c_72331 => ?_)
      · skip
        have kk_3 := tk_3
        have c_72331_i : ¬ (p0 : Int32).toInt = (3 : Int32).toInt := (fun q => c_72331 (Int32.toInt_inj.mp q))
        have h_72332 : 1 ≤ (p0 : Int32).toInt ∧ (p0 : Int32).toInt ≤ 2 := nr_ne_l h_72325 (⟨by decide, by decide⟩ : 3 ≤ (3 : Int32).toInt ∧ (3 : Int32).toInt ≤ 3) c_72331_i (by decide) (by decide)
        refine lv_iconst (v := 0) hx hb dX4_isFull_59 (by decide) ?_
        exact W.zret (v := 0) hx hb hr (by decide) (fun t ht hW => ⟨0, rfl, ⟨(⟨by decide, by decide⟩ : 0 ≤ (0 : Int32).toInt ∧ (0 : Int32).toInt ≤ 1), (fun h9 => absurd (by decide) h9), (fun _ => by have f0 := hw_72323_p0; rw [tk_0] at f0; unfold FLk; have z3 := tk_3; have z4 := tk_4; have z5 := tk_5; have z8 := tk_8; have z_0 := tk_0; (first | (clear h_p0 h_fk h_fp h_nx h_tk h_tpl c_72324_i h_72325 c_72331_i h_72332; omega) | omega))⟩, ht⟩) (fun _ h => nomatch h) dX4_isFull_60
      · skip
        have kk_3 := tk_3
        have c_72331_i : (p0 : Int32).toInt = (3 : Int32).toInt := congrArg Int32.toInt c_72331
        have h_72333 : 3 ≤ (p0 : Int32).toInt ∧ (p0 : Int32).toInt ≤ 3 := nr_eq_l h_72325 (⟨by decide, by decide⟩ : 3 ≤ (3 : Int32).toInt ∧ (3 : Int32).toInt ≤ 3) c_72331_i (by decide) (by decide)
        refine lv_aload_n hx hb dX4_isFull_43 rfl (lv_at hl 1 rfl) ?_
        refine va_get (D := D) (ci := 4) (v := .ref n) (C := RX4) (T := TX4) (N := 10) hx hb hts inlX4 hown hK hP 0 rfl rfl 1 (by decide) (hts (Cond.fieldLink RX4 15 "ChanceRings$Reader" "net" "LChanceRings$Net;") qw_408) (fun _ h9 => h9) rfl dX4_isFull_44 ?_
        refine lv_iconst (v := 3) hx hb dX4_isFull_47 (by decide) ?_
        have hPc := hP.sub (ws' := [(wO2 n n_nodes n_kind n_pay n_name n_ways n_held n_targets n_weights), (wI g n_kind 0 12 n_fkind)]) [1, 2] rfl
        refine vp_callSi (va_Run.run (va_runV (As := [.int 3]) (rest := []) ⟨hx, hb, hml, hown, hts⟩ (c_X2_countOf l D g n 3 n_nodes n_kind n_pay n_name n_ways n_held n_targets n_weights n_fkind (tr_w h_n_nodes (by decide) (by decide)) (tr_wa h_n_fkind (by decide) (by decide))) (cwV 1 hts (tz_gV qw_409 qw_410 qw_411 qw_322 qw_412) rfl rfl rfl (by decide +kernel) ⟨Nat.le_of_ble_eq_true rfl, Nat.le_of_ble_eq_true rfl⟩) ⟨tz_blS, va_recv hK hPc (ci := 2) (q0 := 0) rfl rfl, tz_preS hPc hK⟩ rfl rfl hl.1 rfl (lv_room (Nat.le_of_ble_eq_true rfl)) dX4_isFull_48 ⟨Nat.le_of_ble_eq_true rfl, Nat.le_of_ble_eq_true rfl⟩)) (fun r_72334 hw => ?_)
        have hw_72335 : 0 ≤ (r_72334 : Int32).toInt ∧ (r_72334 : Int32).toInt ≤ 12 := hw.1
        have hw_72335_p0 : (r_72334 : Int32).toInt = cnf (fun p => (n_fkind p).toInt) (3 : Int32).toInt (n_nodes : Int32).toInt.toNat := hw.2
        refine lv_iconst (v := 5) hx hb dX4_isFull_51 (by decide) ?_
        refine lv_icmp_lt (tgt := 59) hx hb dX4_isFull_52 (by decide) (fun c_72336 => ?_) (fun c_72336 => ?_)
        · skip
          have kk_5 := tk_5
          have c_72336_i := Int32.lt_iff_toInt_lt.mp c_72336
          have h_72337 : 0 ≤ (r_72334 : Int32).toInt ∧ (r_72334 : Int32).toInt ≤ 4 := nr_lt_l hw_72335 (⟨by decide, by decide⟩ : 5 ≤ (5 : Int32).toInt ∧ (5 : Int32).toInt ≤ 5) c_72336_i (by decide) (by decide)
          refine lv_iconst (v := 0) hx hb dX4_isFull_59 (by decide) ?_
          exact W.zret (v := 0) hx hb hr (by decide) (fun t ht hW => ⟨0, rfl, ⟨(⟨by decide, by decide⟩ : 0 ≤ (0 : Int32).toInt ∧ (0 : Int32).toInt ≤ 1), (fun h9 => absurd (by decide) h9), (fun _ => by have f0 := hw_72323_p0; have f1 := hw_72335_p0; rw [tk_0] at f0; rw [tk_3] at f1; unfold FLk; have z3 := tk_3; have z4 := tk_4; have z5 := tk_5; have z8 := tk_8; have z_0 := tk_0; (first | (clear h_p0 h_fk h_fp h_nx h_tk h_tpl c_72324_i h_72325 c_72331_i h_72333; omega) | omega))⟩, ht⟩) (fun _ h => nomatch h) dX4_isFull_60
        · skip
          have kk_5 := tk_5
          have c_72336_i := Int32.le_iff_toInt_le.mp (Int32.not_lt.mp c_72336)
          have h_72338 : 5 ≤ (r_72334 : Int32).toInt ∧ (r_72334 : Int32).toInt ≤ 12 := nr_le_r (⟨by decide, by decide⟩ : 5 ≤ (5 : Int32).toInt ∧ (5 : Int32).toInt ≤ 5) hw_72335 c_72336_i (by decide) (by decide)
          refine lv_iconst (v := 1) hx hb dX4_isFull_55 (by decide) ?_
          refine lv_goto (tgt := 60) hx hb dX4_isFull_56 (by decide) ?_
          exact W.zret (v := 1) hx hb hr (by decide) (fun t ht hW => ⟨1, rfl, ⟨(⟨by decide, by decide⟩ : 0 ≤ (1 : Int32).toInt ∧ (1 : Int32).toInt ≤ 1), (fun _ => by have f0 := hw_72323_p0; have f1 := hw_72335_p0; rw [tk_0] at f0; rw [tk_3] at f1; unfold FLk; have z3 := tk_3; have z4 := tk_4; have z5 := tk_5; have z8 := tk_8; have z_0 := tk_0; (first | (clear h_p0 h_fk h_fp h_nx h_tk h_tpl c_72324_i h_72325 c_72331_i h_72333; omega) | omega)), (fun h9 => absurd h9 (by decide))⟩, ht⟩) (fun _ h => nomatch h) dX4_isFull_60
  · skip
    have c_72324_i : (p0 : Int32).toInt = (0 : Int32).toInt := congrArg Int32.toInt c_72324
    have h_72326 : 0 ≤ (p0 : Int32).toInt ∧ (p0 : Int32).toInt ≤ 0 := nr_eq_l h_p0 (⟨by decide, by decide⟩ : 0 ≤ (0 : Int32).toInt ∧ (0 : Int32).toInt ≤ 0) c_72324_i (by decide) (by decide)
    refine lv_iload_n hx hb dX4_isFull_13 rfl (lv_at hl 0 rfl) ?_
    refine lv_iconst (v := 4) hx hb dX4_isFull_14 (by decide) ?_
    refine lv_icmp_lt (tgt := 22) hx hb dX4_isFull_15 (by decide) (fun c_72339 => ?_) (fun c_72339 => ?_)
    · skip
      have kk_4 := tk_4
      have c_72339_i := Int32.lt_iff_toInt_lt.mp c_72339
      have h_72340 : 0 ≤ (r_72322 : Int32).toInt ∧ (r_72322 : Int32).toInt ≤ 3 := nr_lt_l hw_72323 (⟨by decide, by decide⟩ : 4 ≤ (4 : Int32).toInt ∧ (4 : Int32).toInt ≤ 4) c_72339_i (by decide) (by decide)
      refine lv_iconst (v := 0) hx hb dX4_isFull_22 (by decide) ?_
      exact W.zret (v := 0) hx hb hr (by decide) (fun t ht hW => ⟨0, rfl, ⟨(⟨by decide, by decide⟩ : 0 ≤ (0 : Int32).toInt ∧ (0 : Int32).toInt ≤ 1), (fun h9 => absurd (by decide) h9), (fun _ => by have f0 := hw_72323_p0; rw [tk_0] at f0; unfold FLk; have z3 := tk_3; have z4 := tk_4; have z5 := tk_5; have z8 := tk_8; have z_0 := tk_0; (first | (clear h_p0 h_fk h_fp h_nx h_tk h_tpl c_72324_i h_72326; omega) | omega))⟩, ht⟩) (fun _ h => nomatch h) dX4_isFull_23
    · skip
      have kk_4 := tk_4
      have c_72339_i := Int32.le_iff_toInt_le.mp (Int32.not_lt.mp c_72339)
      have h_72341 : 4 ≤ (r_72322 : Int32).toInt ∧ (r_72322 : Int32).toInt ≤ 12 := nr_le_r (⟨by decide, by decide⟩ : 4 ≤ (4 : Int32).toInt ∧ (4 : Int32).toInt ≤ 4) hw_72323 c_72339_i (by decide) (by decide)
      refine lv_iconst (v := 1) hx hb dX4_isFull_18 (by decide) ?_
      refine lv_goto (tgt := 23) hx hb dX4_isFull_19 (by decide) ?_
      exact W.zret (v := 1) hx hb hr (by decide) (fun t ht hW => ⟨1, rfl, ⟨(⟨by decide, by decide⟩ : 0 ≤ (1 : Int32).toInt ∧ (1 : Int32).toInt ≤ 1), (fun _ => by have f0 := hw_72323_p0; rw [tk_0] at f0; unfold FLk; have z3 := tk_3; have z4 := tk_4; have z5 := tk_5; have z8 := tk_8; have z_0 := tk_0; (first | (clear h_p0 h_fk h_fp h_nx h_tk h_tpl c_72324_i h_72326; omega) | omega)), (fun h9 => absurd h9 (by decide))⟩, ht⟩) (fun _ h => nomatch h) dX4_isFull_23
set_option maxHeartbeats 4000000 in
set_option maxRecDepth 100000 in
theorem c_X4_isPay (l : Launch) (D : va_G) (g : Nat → ClassId) (sz : Nat) (rd : Nat) (tp : Nat) (n : Nat) (rd_kindWords : Nat) (ww : Int32) (fk : Int32) (fp : Int32) (nx : Int32) (tk : Int32) (tpl : Int32) (tv : Int32) (h_fk : 0 ≤ (fk : Int32).toInt ∧ (fk : Int32).toInt ≤ 5) (h_fp : 0 ≤ (fp : Int32).toInt ∧ (fp : Int32).toInt ≤ 440) (h_nx : 0 ≤ (nx : Int32).toInt ∧ (nx : Int32).toInt ≤ 440) (h_tk : 0 ≤ (tk : Int32).toInt ∧ (tk : Int32).toInt ≤ 4) (h_tpl : 0 ≤ (tpl : Int32).toInt ∧ (tpl : Int32).toInt ≤ 440) (hfk : (fk : Int32).toInt = 0) : Met l yX4_isPay (.code yX4_isPay cX4_isPay 1 (some .boolean) :: wsL_law) ({ frames := 2, cells := 0, slots := 0, locals := 43 }) (va_Pc [.ref rd] (fun U => U.heap.size = sz ∧ va_P D vwCl [(wO4 rd tp n rd_kindWords ww fk fp nx tk tpl tv)] U.heap ∧ va_K D vwCl (TY g) U ∧ va_D (fun _ => True) [(wO4 rd tp n rd_kindWords ww fk fp nx tk tpl tv)])) (va_Qi (fun (r u : Int32) => u = r ∧ (0 ≤ (r : Int32).toInt ∧ (r : Int32).toInt ≤ 1)) (fun r t => ∃ ofk : Int32, ∃ ofp : Int32, (0 ≤ (ofk : Int32).toInt ∧ (ofk : Int32).toInt ≤ 5) ∧ (0 ≤ (ofp : Int32).toInt ∧ (ofp : Int32).toInt ≤ 440) ∧ (Hide (¬ (r : Int32).toInt = 0 → (tk : Int32).toInt = 2 ∧ (tv : Int32).toInt ≤ 9 ∧ (ofk : Int32).toInt = 0)) ∧ (Hide ((r : Int32).toInt = 0 → ((tk : Int32).toInt ≠ 2 ∨ 9 < (tv : Int32).toInt) ∧ (¬ (ofk : Int32).toInt = 0) ∧ (ofp : Int32).toInt = (tpl : Int32).toInt)) ∧ va_P D vwCl [(wO4 rd tp n rd_kindWords ww ofk ofp nx tk tpl tv)] t.heap ∧ va_D (va_A [(wO4 rd tp n rd_kindWords ww fk fp nx tk tpl tv)] sz) [(wO4 rd tp n rd_kindWords ww ofk ofp nx tk tpl tv)]) (va_A [(wO4 rd tp n rd_kindWords ww fk fp nx tk tpl tv)] sz)) 0 0 (va_A [(wO4 rd tp n rd_kindWords ww fk fp nx tk tpl tv)] sz) := by
  refine Met.ofW (cc := cX4_isPay) (maxL := 1) (ret := (some .boolean)) (by decide) rfl ?_
  intro p e s m args below meth c s₁ B hml hv
  obtain ⟨ha, hsz, hP, hK, hD0⟩ := hv
  have hx := B.exec
  have hb := B.bytes
  have hr := B.returns
  have hts0 := atoms_spec (ws := (.code yX4_isPay cX4_isPay 1 (some .boolean) :: wsL_law)) B.pre
  have hts : ∀ w ∈ wsL_law, w.before args s = true := fun w h => hts0 w (List.mem_cons_of_mem _ h)
  have hown : s.vm.findClass RX4 = some m.cls := findClass_of_methodNamed B.named
  have hlocks := B.notSynchronized
  subst hsz
  have hD := hD0.self (sz := s.heap.size)
  generalize hAe : va_A [(wO4 rd tp n rd_kindWords ww fk fp nx tk tpl tv)] s.heap.size = A at hD ⊢
  have hA : ∀ q : Nat, s.heap.size ≤ q → A q := fun q h => by rw [← hAe]; exact Or.inr h
  have hS : va_S A s.heap s.heap [] := va_S.rf
  have hP : va_P D vwCl [(wO4 rd tp n rd_kindWords ww fk fp nx tk tpl tv)] s.heap := hP
  refine W.eq (g2 := entryFrame m ([.ref rd] : List Value).toArray 1) (by rw [ha]) ?_
  have hl := lv_entry ([.ref rd]) (n := 1) (Nat.le_of_ble_eq_true rfl)
  rw [lg_entry_eq]
  generalize (lg_sl ([.ref rd]) ++ List.replicate (1 - (lg_sl ([.ref rd])).length) Slot.unset).toArray = ls at hl ⊢
  have hl : lv_has ls 1 [(0, .ref rd)] := hl
  have h_72342 : 0 ≤ (fk : Int32).toInt ∧ (fk : Int32).toInt ≤ 0 := by (first | (clear h_fp h_nx h_tk h_tpl; omega) | omega)
  refine lv_aload_n hx hb dX4_isPay_0 rfl (lv_at hl 0 rfl) ?_
  refine va_get (D := D) (ci := 4) (v := .int tk) (C := RX4) (T := TX4) (N := 10) hx hb hts inlX4 hown hK hP 0 rfl rfl 7 (by decide) (hts (Cond.fieldLink RX4 67 "ChanceRings$Reader" "token" "I") qw_389) (fun _ h9 => h9) rfl dX4_isPay_1 ?_
  refine lv_iconst (v := 2) hx hb dX4_isPay_4 (by decide) ?_
  refine lv_icmp_eq (tgt := 16) hx hb dX4_isPay_5 (by decide) (fun c_72343 => ?_) (fun c_72343 => ?_)
  · skip
    have kk_2 := tk_2
    have c_72343_i : (tk : Int32).toInt = (2 : Int32).toInt := congrArg Int32.toInt c_72343
    have h_72344 : 2 ≤ (tk : Int32).toInt ∧ (tk : Int32).toInt ≤ 2 := nr_eq_l h_tk (⟨by decide, by decide⟩ : 2 ≤ (2 : Int32).toInt ∧ (2 : Int32).toInt ≤ 2) c_72343_i (by decide) (by decide)
    refine lv_aload_n hx hb dX4_isPay_16 rfl (lv_at hl 0 rfl) ?_
    refine va_get (D := D) (ci := 4) (v := .int tv) (C := RX4) (T := TX4) (N := 10) hx hb hts inlX4 hown hK hP 0 rfl rfl 9 (by decide) (hts (Cond.fieldLink RX4 86 "ChanceRings$Reader" "tokenValue" "I") qw_394) (fun _ h9 => h9) rfl dX4_isPay_17 ?_
    refine lv_bipush (v := 9) hx hb dX4_isPay_20 (by decide) ?_
    refine lv_icmp_le (tgt := 30) hx hb dX4_isPay_22 (by decide) (fun c_72345 => ?_) (fun c_72345 => ?_)
    · skip
      have kk_9 := tk_9
      have c_72345_i := Int32.le_iff_toInt_le.mp c_72345
      have h_72346 : (-2147483648) ≤ (tv : Int32).toInt ∧ (tv : Int32).toInt ≤ 9 := nr_le_l (tr_any tv) (⟨by decide, by decide⟩ : 9 ≤ (9 : Int32).toInt ∧ (9 : Int32).toInt ≤ 9) c_72345_i (by decide) (by decide)
      refine lv_aload_n hx hb dX4_isPay_30 rfl (lv_at hl 0 rfl) ?_
      refine va_get (D := D) (ci := 4) (v := .int fk) (C := RX4) (T := TX4) (N := 10) hx hb hts inlX4 hown hK hP 0 rfl rfl 4 (by decide) (hts (Cond.fieldLink RX4 41 "ChanceRings$Reader" "faultKind" "I") qw_378) (fun _ h9 => h9) rfl dX4_isPay_31 ?_
      refine lv_if_ne (tgt := 41) hx hb dX4_isPay_34 (by decide) (fun h9 => (nr_x_ne h_72342 (⟨by decide, by decide⟩ : 0 ≤ (0 : Int32).toInt ∧ (0 : Int32).toInt ≤ 0) (fun q => h9 (Int32.toInt_inj.mp q)) (by decide)).elim) (fun c_72348 => ?_)
      have kk_0 := tk_0
      have c_72348_i : (fk : Int32).toInt = (0 : Int32).toInt := congrArg Int32.toInt c_72348
      refine lv_iconst (v := 1) hx hb dX4_isPay_37 (by decide) ?_
      refine lv_goto (tgt := 42) hx hb dX4_isPay_38 (by decide) ?_
      have hP9 := hP.sub (ws' := [(wO4 rd tp n rd_kindWords ww fk fp nx tk tpl tv)]) [0] rfl
      have hD9 := hD.sub (ws' := [(wO4 rd tp n rd_kindWords ww fk fp nx tk tpl tv)]) [0] (by decide) rfl
      exact W.zret (v := 1) hx hb hr (by decide) (fun t ht hW => ⟨⟨1, 1, rfl, ⟨rfl, (⟨by decide, by decide⟩ : 0 ≤ (1 : Int32).toInt ∧ (1 : Int32).toInt ≤ 1)⟩, fk, fp, (tr_w h_72342 (by decide) (by decide)), (tr_w h_fp (by decide) (by decide)), (fun _ => ⟨(by have z_0 := tk_0; have z_1 := tk_1; have z_2 := tk_2; have z_3 := tk_3; have z_m := tk_m1; have z_9 := tk_9; have z_4 := tk_4; (first | (clear h_nx h_tk h_tpl c_72343_i h_72344 c_72345_i h_72346; omega) | omega)), (by have z_0 := tk_0; have z_1 := tk_1; have z_2 := tk_2; have z_3 := tk_3; have z_m := tk_m1; have z_9 := tk_9; have z_4 := tk_4; (first | (clear h_nx h_tk h_tpl c_72343_i h_72344 c_72345_i h_72346; omega) | omega)), hfk⟩), (fun h9 => absurd h9 (by decide)), by rw [ht]; exact hP9, hD9⟩, hS.F ht⟩) hS.2.2 dX4_isPay_42
    · skip
      have kk_9 := tk_9
      have c_72345_i := Int32.lt_iff_toInt_lt.mp (Int32.not_le.mp c_72345)
      have h_72347 : 10 ≤ (tv : Int32).toInt ∧ (tv : Int32).toInt ≤ 2147483647 := nr_lt_r (⟨by decide, by decide⟩ : 9 ≤ (9 : Int32).toInt ∧ (9 : Int32).toInt ≤ 9) (tr_any tv) c_72345_i (by decide) (by decide)
      refine lv_aload_n hx hb dX4_isPay_25 rfl (lv_at hl 0 rfl) ?_
      refine lv_iconst (v := 2) hx hb dX4_isPay_26 (by decide) ?_
      have hPc := hP.sub (ws' := [(wO4 rd tp n rd_kindWords ww fk fp nx tk tpl tv)]) [0] rfl
      have hDc := hD.sub (ws' := [(wO4 rd tp n rd_kindWords ww fk fp nx tk tpl tv)]) [0] (by decide) rfl
      have hFc := va_free (wc := [(wO4 rd tp n rd_kindWords ww fk fp nx tk tpl tv)]) hD hS hA [0] rfl
      refine va_callv (va_runV (As := [.int 2]) (rest := []) ⟨hx, hb, hml, hown, hts⟩ (c_X4_fail l D g s.heap.size rd 2 tp n rd_kindWords ww fk fp nx tk tpl tv (⟨by decide, by decide⟩ : 0 ≤ (2 : Int32).toInt ∧ (2 : Int32).toInt ≤ 5) (tr_w h_72342 (by decide) (by decide)) (tr_w h_fp (by decide) (by decide)) (tr_w h_nx (by decide) (by decide)) (tr_w h_72344 (by decide) (by decide)) (tr_w h_tpl (by decide) (by decide))) (cwV 1 hts (tz_gV qw_414 qw_415 qw_416 qw_384 qw_417) rfl rfl rfl (by decide +kernel) ⟨Nat.le_of_ble_eq_true rfl, Nat.le_of_ble_eq_true rfl⟩) ⟨tz_blQ, va_recv hK hPc (ci := 4) (q0 := 0) rfl rfl, tz_preQ hPc hK hDc⟩ rfl rfl hl.1 rfl (lv_room (Nat.le_of_ble_eq_true rfl)) dX4_isPay_27 ⟨Nat.le_of_ble_eq_true rfl, Nat.le_of_ble_eq_true rfl⟩) hS (fun q _ h => hFc q h) hFc (fun u t H1 locs ht hvm hw hB hz1 hk1 hS => ?_)
      obtain ⟨hP1, hD1⟩ := hB
      rw [ht] at hP1
      obtain ⟨hP, hD⟩ := va_join (wr := []) (w1 := [(wO4 rd tp n rd_kindWords ww 2 tpl nx tk tpl tv)]) hP hD [0] [] rfl rfl (by decide) (by decide) hk1 hFc hP1 hD1
      generalize H1 = H at hP hS ⊢
      have hP : va_P D vwCl [(wO4 rd tp n rd_kindWords ww 2 tpl nx tk tpl tv)] H := hP
      have hD : va_D A [(wO4 rd tp n rd_kindWords ww 2 tpl nx tk tpl tv)] := hD
      refine lv_aload_n hx hb dX4_isPay_30 rfl (lv_at hl 0 rfl) ?_
      refine va_get (D := D) (ci := 4) (v := .int 2) (C := RX4) (T := TX4) (N := 10) hx hb hts inlX4 hown hK hP 0 rfl rfl 4 (by decide) (hts (Cond.fieldLink RX4 41 "ChanceRings$Reader" "faultKind" "I") qw_378) (fun _ h9 => h9) rfl dX4_isPay_31 ?_
      refine lv_if_ne (tgt := 41) hx hb dX4_isPay_34 (by decide) (fun _ => ?_) (fun h9 => absurd h9 (by decide))
      refine lv_iconst (v := 0) hx hb dX4_isPay_41 (by decide) ?_
      have hP9 := hP.sub (ws' := [(wO4 rd tp n rd_kindWords ww 2 tpl nx tk tpl tv)]) [0] rfl
      have hD9 := hD.sub (ws' := [(wO4 rd tp n rd_kindWords ww 2 tpl nx tk tpl tv)]) [0] (by decide) rfl
      exact W.zret (v := 0) hx hb hr (by decide) (fun t ht hW => ⟨⟨0, 0, rfl, ⟨rfl, (⟨by decide, by decide⟩ : 0 ≤ (0 : Int32).toInt ∧ (0 : Int32).toInt ≤ 1)⟩, 2, tpl, (⟨by decide, by decide⟩ : 0 ≤ (2 : Int32).toInt ∧ (2 : Int32).toInt ≤ 5), (tr_w h_tpl (by decide) (by decide)), (fun h9 => absurd (by decide) h9), (fun _ => ⟨(by have z_0 := tk_0; have z_1 := tk_1; have z_2 := tk_2; have z_3 := tk_3; have z_m := tk_m1; have z_9 := tk_9; have z_4 := tk_4; (first | (clear h_fk h_fp h_nx h_tk hfk h_72342 c_72343_i h_72344 c_72345_i h_72347; omega) | omega)), by decide, rfl⟩), by rw [ht]; exact hP9, hD9⟩, hS.F ht⟩) hS.2.2 dX4_isPay_42
  · skip
    have kk_2 := tk_2
    have c_72343_i : ¬ (tk : Int32).toInt = (2 : Int32).toInt := (fun q => c_72343 (Int32.toInt_inj.mp q))
    refine lv_aload_n hx hb dX4_isPay_8 rfl (lv_at hl 0 rfl) ?_
    refine lv_iconst (v := 1) hx hb dX4_isPay_9 (by decide) ?_
    have hPc := hP.sub (ws' := [(wO4 rd tp n rd_kindWords ww fk fp nx tk tpl tv)]) [0] rfl
    have hDc := hD.sub (ws' := [(wO4 rd tp n rd_kindWords ww fk fp nx tk tpl tv)]) [0] (by decide) rfl
    have hFc := va_free (wc := [(wO4 rd tp n rd_kindWords ww fk fp nx tk tpl tv)]) hD hS hA [0] rfl
    refine va_callv (va_runV (As := [.int 1]) (rest := []) ⟨hx, hb, hml, hown, hts⟩ (c_X4_fail l D g s.heap.size rd 1 tp n rd_kindWords ww fk fp nx tk tpl tv (⟨by decide, by decide⟩ : 0 ≤ (1 : Int32).toInt ∧ (1 : Int32).toInt ≤ 5) (tr_w h_72342 (by decide) (by decide)) (tr_w h_fp (by decide) (by decide)) (tr_w h_nx (by decide) (by decide)) (tr_w h_tk (by decide) (by decide)) (tr_w h_tpl (by decide) (by decide))) (cwV 1 hts (tz_gV qw_414 qw_415 qw_416 qw_384 qw_417) rfl rfl rfl (by decide +kernel) ⟨Nat.le_of_ble_eq_true rfl, Nat.le_of_ble_eq_true rfl⟩) ⟨tz_blQ, va_recv hK hPc (ci := 4) (q0 := 0) rfl rfl, tz_preQ hPc hK hDc⟩ rfl rfl hl.1 rfl (lv_room (Nat.le_of_ble_eq_true rfl)) dX4_isPay_10 ⟨Nat.le_of_ble_eq_true rfl, Nat.le_of_ble_eq_true rfl⟩) hS (fun q _ h => hFc q h) hFc (fun u t H1 locs ht hvm hw hB hz1 hk1 hS => ?_)
    obtain ⟨hP1, hD1⟩ := hB
    rw [ht] at hP1
    obtain ⟨hP, hD⟩ := va_join (wr := []) (w1 := [(wO4 rd tp n rd_kindWords ww 1 tpl nx tk tpl tv)]) hP hD [0] [] rfl rfl (by decide) (by decide) hk1 hFc hP1 hD1
    generalize H1 = H at hP hS ⊢
    have hP : va_P D vwCl [(wO4 rd tp n rd_kindWords ww 1 tpl nx tk tpl tv)] H := hP
    have hD : va_D A [(wO4 rd tp n rd_kindWords ww 1 tpl nx tk tpl tv)] := hD
    refine lv_goto (tgt := 30) hx hb dX4_isPay_13 (by decide) ?_
    refine lv_aload_n hx hb dX4_isPay_30 rfl (lv_at hl 0 rfl) ?_
    refine va_get (D := D) (ci := 4) (v := .int 1) (C := RX4) (T := TX4) (N := 10) hx hb hts inlX4 hown hK hP 0 rfl rfl 4 (by decide) (hts (Cond.fieldLink RX4 41 "ChanceRings$Reader" "faultKind" "I") qw_378) (fun _ h9 => h9) rfl dX4_isPay_31 ?_
    refine lv_if_ne (tgt := 41) hx hb dX4_isPay_34 (by decide) (fun _ => ?_) (fun h9 => absurd h9 (by decide))
    refine lv_iconst (v := 0) hx hb dX4_isPay_41 (by decide) ?_
    have hP9 := hP.sub (ws' := [(wO4 rd tp n rd_kindWords ww 1 tpl nx tk tpl tv)]) [0] rfl
    have hD9 := hD.sub (ws' := [(wO4 rd tp n rd_kindWords ww 1 tpl nx tk tpl tv)]) [0] (by decide) rfl
    exact W.zret (v := 0) hx hb hr (by decide) (fun t ht hW => ⟨⟨0, 0, rfl, ⟨rfl, (⟨by decide, by decide⟩ : 0 ≤ (0 : Int32).toInt ∧ (0 : Int32).toInt ≤ 1)⟩, 1, tpl, (⟨by decide, by decide⟩ : 0 ≤ (1 : Int32).toInt ∧ (1 : Int32).toInt ≤ 5), (tr_w h_tpl (by decide) (by decide)), (fun h9 => absurd (by decide) h9), (fun _ => ⟨(by have z_0 := tk_0; have z_1 := tk_1; have z_2 := tk_2; have z_3 := tk_3; have z_m := tk_m1; have z_9 := tk_9; have z_4 := tk_4; (first | (clear h_fk h_fp h_nx h_tk hfk h_72342 c_72343_i; omega) | omega)), by decide, rfl⟩), by rw [ht]; exact hP9, hD9⟩, hS.F ht⟩) hS.2.2 dX4_isPay_42
set_option maxHeartbeats 4000000 in
set_option maxRecDepth 100000 in
theorem c_X4_readNode (l : Launch) (D : va_G) (g : Nat → ClassId) (sz : Nat) (rd : Nat) (p0 : Int32) (tp : Nat) (n : Nat) (rd_kindWords : Nat) (ww : Int32) (fk : Int32) (fp : Int32) (nx : Int32) (tk : Int32) (tpl : Int32) (tv : Int32) (tp_bytes : Nat) (tl : Int32) (tf : Nat → Int32) (kwf : Nat → Int32) (n_nodes : Int32) (n_kind : Nat) (n_pay : Nat) (n_name : Nat) (n_ways : Nat) (n_held : Nat) (n_targets : Nat) (n_weights : Nat) (n_fkind : Nat → Int32) (n_fpay : Nat → Int32) (n_fname : Nat → Int32) (n_fways : Nat → Int32) (n_fheld : Nat → Int32) (n_ftargets : Nat → Int32) (n_fweights : Nat → Int32) (h_p0 : 0 ≤ (p0 : Int32).toInt ∧ (p0 : Int32).toInt ≤ 3) (h_fk : 0 ≤ (fk : Int32).toInt ∧ (fk : Int32).toInt ≤ 5) (h_fp : 0 ≤ (fp : Int32).toInt ∧ (fp : Int32).toInt ≤ 440) (h_nx : 0 ≤ (nx : Int32).toInt ∧ (nx : Int32).toInt ≤ 440) (h_tk : 0 ≤ (tk : Int32).toInt ∧ (tk : Int32).toInt ≤ 4) (h_tpl : 0 ≤ (tpl : Int32).toInt ∧ (tpl : Int32).toInt ≤ 440) (h_tl : 0 ≤ (tl : Int32).toInt ∧ (tl : Int32).toInt ≤ 440) (h_tf : ∀ j : Nat, 0 ≤ (tf j).toInt ∧ (tf j).toInt ≤ 255) (h_n_nodes : 0 ≤ (n_nodes : Int32).toInt ∧ (n_nodes : Int32).toInt ≤ 12) (h_n_fkind : ∀ j : Nat, 0 ≤ (n_fkind j).toInt ∧ (n_fkind j).toInt ≤ 3) (h_n_fways : ∀ j : Nat, 0 ≤ (n_fways j).toInt ∧ (n_fways j).toInt ≤ 3) (h_n_fheld : ∀ j : Nat, (-1) ≤ (n_fheld j).toInt ∧ (n_fheld j).toInt ≤ 2) (h_n_ftargets : ∀ j : Nat, 0 ≤ (n_ftargets j).toInt ∧ (n_ftargets j).toInt ≤ 11) (hkw : KWs kwf) (hww : (ww : Int32).toInt = 16819) (hfk : (fk : Int32).toInt = 0) (hbd : BDn (absC n_nodes n_fkind n_fpay n_fname n_fways n_fheld n_ftargets n_fweights)) : Met l yX4_readNode (.code yX4_readNode cX4_readNode 3 none :: wsL_law) ({ frames := 3, cells := 0, slots := 0, locals := 63 }) (va_Pc [.ref rd, .int p0] (fun U => U.heap.size = sz ∧ va_P D vwCl [(wO4 rd tp n rd_kindWords ww fk fp nx tk tpl tv), (wO8 tp tp_bytes tl), (wI g tp_bytes 0 440 tf), (wI g rd_kindWords 0 4 kwf), (wO2 n n_nodes n_kind n_pay n_name n_ways n_held n_targets n_weights), (wI g n_kind 0 12 n_fkind), (wI g n_pay 0 12 n_fpay), (wI g n_name 0 12 n_fname), (wI g n_ways 0 12 n_fways), (wI g n_held 0 12 n_fheld), (wI g n_targets 0 36 n_ftargets), (wI g n_weights 0 36 n_fweights)] U.heap ∧ va_K D vwCl (TY g) U ∧ va_D (fun _ => True) [(wO4 rd tp n rd_kindWords ww fk fp nx tk tpl tv), (wO8 tp tp_bytes tl), (wI g tp_bytes 0 440 tf), (wI g rd_kindWords 0 4 kwf), (wO2 n n_nodes n_kind n_pay n_name n_ways n_held n_targets n_weights), (wI g n_kind 0 12 n_fkind), (wI g n_pay 0 12 n_fpay), (wI g n_name 0 12 n_fname), (wI g n_ways 0 12 n_fways), (wI g n_held 0 12 n_fheld), (wI g n_targets 0 36 n_ftargets), (wI g n_weights 0 36 n_fweights)])) (va_Qv (fun (_ : Unit) => True) (fun _ t => ∃ ofk : Int32, ∃ ofp : Int32, ∃ onx : Int32, ∃ otk : Int32, ∃ otpl : Int32, ∃ otv : Int32, ∃ on : Int32, ∃ n_gkind : Nat → Int32, ∃ n_gpay : Nat → Int32, ∃ n_gname : Nat → Int32, ∃ n_gways : Nat → Int32, ∃ n_gheld : Nat → Int32, ∃ n_gtargets : Nat → Int32, ∃ n_gweights : Nat → Int32, (0 ≤ (ofk : Int32).toInt ∧ (ofk : Int32).toInt ≤ 5) ∧ (0 ≤ (ofp : Int32).toInt ∧ (ofp : Int32).toInt ≤ 440) ∧ (0 ≤ (onx : Int32).toInt ∧ (onx : Int32).toInt ≤ 440) ∧ (0 ≤ (otk : Int32).toInt ∧ (otk : Int32).toInt ≤ 4) ∧ (0 ≤ (otpl : Int32).toInt ∧ (otpl : Int32).toInt ≤ 440) ∧ (0 ≤ (on : Int32).toInt ∧ (on : Int32).toInt ≤ 12) ∧ (∀ j : Nat, 0 ≤ (n_gkind j).toInt ∧ (n_gkind j).toInt ≤ 3) ∧ (∀ j : Nat, 0 ≤ (n_gways j).toInt ∧ (n_gways j).toInt ≤ 3) ∧ (∀ j : Nat, (-1) ≤ (n_gheld j).toInt ∧ (n_gheld j).toInt ≤ 2) ∧ (∀ j : Nat, 0 ≤ (n_gtargets j).toInt ∧ (n_gtargets j).toInt ≤ 11) ∧ (Hide ((ofk : Int32).toInt = 0 → NOk (bg tf (tl : Int32).toInt) (nx : Int32).toInt.toNat (absC n_nodes n_fkind n_fpay n_fname n_fways n_fheld n_ftargets n_fweights) (p0 : Int32).toInt (absC on n_gkind n_gpay n_gname n_gways n_gheld n_gtargets n_gweights) (otk : Int32).toInt (otpl : Int32).toInt.toNat (onx : Int32).toInt.toNat (otv : Int32).toInt)) ∧ (Hide (¬ (ofk : Int32).toInt = 0 → NFl (bg tf (tl : Int32).toInt) (tpl : Int32).toInt.toNat (nx : Int32).toInt.toNat (absC n_nodes n_fkind n_fpay n_fname n_fways n_fheld n_ftargets n_fweights) (p0 : Int32).toInt (ofp : Int32).toInt)) ∧ va_P D vwCl [(wO4 rd tp n rd_kindWords ww ofk ofp onx otk otpl otv), (wO8 tp tp_bytes tl), (wI g tp_bytes 0 440 tf), (wI g rd_kindWords 0 4 kwf), (wO2 n on n_kind n_pay n_name n_ways n_held n_targets n_weights), (wI g n_kind 0 12 n_gkind), (wI g n_pay 0 12 n_gpay), (wI g n_name 0 12 n_gname), (wI g n_ways 0 12 n_gways), (wI g n_held 0 12 n_gheld), (wI g n_targets 0 36 n_gtargets), (wI g n_weights 0 36 n_gweights)] t.heap ∧ va_D (va_A [(wO4 rd tp n rd_kindWords ww fk fp nx tk tpl tv), (wO8 tp tp_bytes tl), (wI g tp_bytes 0 440 tf), (wI g rd_kindWords 0 4 kwf), (wO2 n n_nodes n_kind n_pay n_name n_ways n_held n_targets n_weights), (wI g n_kind 0 12 n_fkind), (wI g n_pay 0 12 n_fpay), (wI g n_name 0 12 n_fname), (wI g n_ways 0 12 n_fways), (wI g n_held 0 12 n_fheld), (wI g n_targets 0 36 n_ftargets), (wI g n_weights 0 36 n_fweights)] sz) [(wO4 rd tp n rd_kindWords ww ofk ofp onx otk otpl otv), (wO8 tp tp_bytes tl), (wI g tp_bytes 0 440 tf), (wI g rd_kindWords 0 4 kwf), (wO2 n on n_kind n_pay n_name n_ways n_held n_targets n_weights), (wI g n_kind 0 12 n_gkind), (wI g n_pay 0 12 n_gpay), (wI g n_name 0 12 n_gname), (wI g n_ways 0 12 n_gways), (wI g n_held 0 12 n_gheld), (wI g n_targets 0 36 n_gtargets), (wI g n_weights 0 36 n_gweights)]) (va_A [(wO4 rd tp n rd_kindWords ww fk fp nx tk tpl tv), (wO8 tp tp_bytes tl), (wI g tp_bytes 0 440 tf), (wI g rd_kindWords 0 4 kwf), (wO2 n n_nodes n_kind n_pay n_name n_ways n_held n_targets n_weights), (wI g n_kind 0 12 n_fkind), (wI g n_pay 0 12 n_fpay), (wI g n_name 0 12 n_fname), (wI g n_ways 0 12 n_fways), (wI g n_held 0 12 n_fheld), (wI g n_targets 0 36 n_ftargets), (wI g n_weights 0 36 n_fweights)] sz)) 0 0 (va_A [(wO4 rd tp n rd_kindWords ww fk fp nx tk tpl tv), (wO8 tp tp_bytes tl), (wI g tp_bytes 0 440 tf), (wI g rd_kindWords 0 4 kwf), (wO2 n n_nodes n_kind n_pay n_name n_ways n_held n_targets n_weights), (wI g n_kind 0 12 n_fkind), (wI g n_pay 0 12 n_fpay), (wI g n_name 0 12 n_fname), (wI g n_ways 0 12 n_fways), (wI g n_held 0 12 n_fheld), (wI g n_targets 0 36 n_ftargets), (wI g n_weights 0 36 n_fweights)] sz) := by
  refine Met.ofW (cc := cX4_readNode) (maxL := 3) (ret := none) (by decide) rfl ?_
  intro p e s m args below meth c s₁ B hml hv
  obtain ⟨ha, hsz, hP, hK, hD0⟩ := hv
  have hx := B.exec
  have hb := B.bytes
  have hr := B.returns
  have hts0 := atoms_spec (ws := (.code yX4_readNode cX4_readNode 3 none :: wsL_law)) B.pre
  have hts : ∀ w ∈ wsL_law, w.before args s = true := fun w h => hts0 w (List.mem_cons_of_mem _ h)
  have hown : s.vm.findClass RX4 = some m.cls := findClass_of_methodNamed B.named
  have hlocks := B.notSynchronized
  subst hsz
  have hD := hD0.self (sz := s.heap.size)
  generalize hAe : va_A [(wO4 rd tp n rd_kindWords ww fk fp nx tk tpl tv), (wO8 tp tp_bytes tl), (wI g tp_bytes 0 440 tf), (wI g rd_kindWords 0 4 kwf), (wO2 n n_nodes n_kind n_pay n_name n_ways n_held n_targets n_weights), (wI g n_kind 0 12 n_fkind), (wI g n_pay 0 12 n_fpay), (wI g n_name 0 12 n_fname), (wI g n_ways 0 12 n_fways), (wI g n_held 0 12 n_fheld), (wI g n_targets 0 36 n_ftargets), (wI g n_weights 0 36 n_fweights)] s.heap.size = A at hD ⊢
  have hA : ∀ q : Nat, s.heap.size ≤ q → A q := fun q h => by rw [← hAe]; exact Or.inr h
  have hS : va_S A s.heap s.heap [] := va_S.rf
  have hP : va_P D vwCl [(wO4 rd tp n rd_kindWords ww fk fp nx tk tpl tv), (wO8 tp tp_bytes tl), (wI g tp_bytes 0 440 tf), (wI g rd_kindWords 0 4 kwf), (wO2 n n_nodes n_kind n_pay n_name n_ways n_held n_targets n_weights), (wI g n_kind 0 12 n_fkind), (wI g n_pay 0 12 n_fpay), (wI g n_name 0 12 n_fname), (wI g n_ways 0 12 n_fways), (wI g n_held 0 12 n_fheld), (wI g n_targets 0 36 n_ftargets), (wI g n_weights 0 36 n_fweights)] s.heap := hP
  refine W.eq (g2 := entryFrame m ([.ref rd, .int p0] : List Value).toArray 3) (by rw [ha]) ?_
  have hl := lv_entry ([.ref rd, .int p0]) (n := 3) (Nat.le_of_ble_eq_true rfl)
  rw [lg_entry_eq]
  generalize (lg_sl ([.ref rd, .int p0]) ++ List.replicate (3 - (lg_sl ([.ref rd, .int p0])).length) Slot.unset).toArray = ls at hl ⊢
  have hl : lv_has ls 3 [(0, .ref rd), (1, .int p0)] := hl
  refine lv_aload_n hx hb dX4_readNode_0 rfl (lv_at hl 0 rfl) ?_
  refine lv_iload_n hx hb dX4_readNode_1 rfl (lv_at hl 1 rfl) ?_
  have hPc := hP.sub (ws' := [(wO4 rd tp n rd_kindWords ww fk fp nx tk tpl tv), (wO2 n n_nodes n_kind n_pay n_name n_ways n_held n_targets n_weights), (wI g n_kind 0 12 n_fkind)]) [0, 4, 5] rfl
  refine vp_callSi (va_Run.run (va_runV (As := [.int p0]) (rest := []) ⟨hx, hb, hml, hown, hts⟩ (c_X4_isFull l D g rd p0 tp n rd_kindWords ww fk fp nx tk tpl tv n_nodes n_kind n_pay n_name n_ways n_held n_targets n_weights n_fkind (tr_w h_p0 (by decide) (by decide)) (tr_w h_fk (by decide) (by decide)) (tr_w h_fp (by decide) (by decide)) (tr_w h_nx (by decide) (by decide)) (tr_w h_tk (by decide) (by decide)) (tr_w h_tpl (by decide) (by decide)) (tr_w h_n_nodes (by decide) (by decide)) (tr_wa h_n_fkind (by decide) (by decide))) (cwV 1 hts (tz_gV qw_418 qw_419 qw_420 qw_384 qw_421) rfl rfl rfl (by decide +kernel) ⟨Nat.le_of_ble_eq_true rfl, Nat.le_of_ble_eq_true rfl⟩) ⟨tz_blS, va_recv hK hPc (ci := 4) (q0 := 0) rfl rfl, tz_preS hPc hK⟩ rfl rfl hl.1 rfl (lv_room (Nat.le_of_ble_eq_true rfl)) dX4_readNode_2 ⟨Nat.le_of_ble_eq_true rfl, Nat.le_of_ble_eq_true rfl⟩)) (fun r_72351 hw => ?_)
  have hw_72352 : 0 ≤ (r_72351 : Int32).toInt ∧ (r_72351 : Int32).toInt ≤ 1 := hw.1
  have hw_72352_p0 : Hide (¬ (r_72351 : Int32).toInt = 0 → FLk (n_nodes : Int32).toInt n_fkind (p0 : Int32).toInt) := hw.2.1
  have hw_72352_p1 : Hide ((r_72351 : Int32).toInt = 0 → ¬ FLk (n_nodes : Int32).toInt n_fkind (p0 : Int32).toInt) := hw.2.2
  refine lv_if_eq (tgt := 14) hx hb dX4_readNode_5 (by decide) (fun c_72353 => ?_) (fun c_72353 => ?_)
  · skip
    have kk_0 := tk_0
    have c_72353_i : (r_72351 : Int32).toInt = (0 : Int32).toInt := congrArg Int32.toInt c_72353
    have hw_72352_p1_u := (hw_72352_p1).get (c_72353_i.trans tk_0)
    have h_72354 : 0 ≤ (r_72351 : Int32).toInt ∧ (r_72351 : Int32).toInt ≤ 0 := nr_eq_l hw_72352 (⟨by decide, by decide⟩ : 0 ≤ (0 : Int32).toInt ∧ (0 : Int32).toInt ≤ 0) c_72353_i (by decide) (by decide)
    refine lv_aload_n hx hb dX4_readNode_14 rfl (lv_at hl 0 rfl) ?_
    have hPc := hP.sub (ws' := [(wO4 rd tp n rd_kindWords ww fk fp nx tk tpl tv), (wO8 tp tp_bytes tl), (wI g tp_bytes 0 440 tf)]) [0, 1, 2] rfl
    have hDc := hD.sub (ws' := [(wO4 rd tp n rd_kindWords ww fk fp nx tk tpl tv), (wO8 tp tp_bytes tl), (wI g tp_bytes 0 440 tf)]) [0, 1, 2] (by decide) rfl
    have hFc := va_free (wc := [(wO4 rd tp n rd_kindWords ww fk fp nx tk tpl tv), (wO8 tp tp_bytes tl), (wI g tp_bytes 0 440 tf)]) hD hS hA [0, 1, 2] rfl
    refine va_callv (va_runV (As := []) (rest := []) ⟨hx, hb, hml, hown, hts⟩ (c_X4_advance l D g s.heap.size rd tp n rd_kindWords ww fk fp nx tk tpl tv tp_bytes tl tf (tr_w h_fk (by decide) (by decide)) (tr_w h_fp (by decide) (by decide)) (tr_w h_nx (by decide) (by decide)) (tr_w h_tk (by decide) (by decide)) (tr_w h_tpl (by decide) (by decide)) (tr_w h_tl (by decide) (by decide)) (tr_wa h_tf (by decide) (by decide))) (cwV 0 hts (tz_gV qw_422 qw_423 qw_424 qw_384 qw_425) rfl rfl rfl (by decide +kernel) ⟨Nat.le_of_ble_eq_true rfl, Nat.le_of_ble_eq_true rfl⟩) ⟨tz_blQ, va_recv hK hPc (ci := 4) (q0 := 0) rfl rfl, tz_preQ hPc hK hDc⟩ rfl rfl hl.1 rfl (lv_room (Nat.le_of_ble_eq_true rfl)) dX4_readNode_15 ⟨Nat.le_of_ble_eq_true rfl, Nat.le_of_ble_eq_true rfl⟩) hS (fun q _ h => hFc q h) hFc (fun u t H1 locs ht hvm hw hB hz1 hk1 hS => ?_)
    obtain ⟨onx_72357, otk_72358, otpl_72359, otv_72360, hf_72361, hf_72362, hf_72363, hf_72364, hP1, hD1⟩ := hB
    rw [ht] at hP1
    obtain ⟨hP, hD⟩ := va_join (wr := [(wI g rd_kindWords 0 4 kwf), (wO2 n n_nodes n_kind n_pay n_name n_ways n_held n_targets n_weights), (wI g n_kind 0 12 n_fkind), (wI g n_pay 0 12 n_fpay), (wI g n_name 0 12 n_fname), (wI g n_ways 0 12 n_fways), (wI g n_held 0 12 n_fheld), (wI g n_targets 0 36 n_ftargets), (wI g n_weights 0 36 n_fweights)]) (w1 := [(wO4 rd tp n rd_kindWords ww fk fp onx_72357 otk_72358 otpl_72359 otv_72360), (wO8 tp tp_bytes tl), (wI g tp_bytes 0 440 tf)]) hP hD [0, 1, 2] [3, 4, 5, 6, 7, 8, 9, 10, 11] rfl rfl (by decide) (by decide) hk1 hFc hP1 hD1
    generalize H1 = H at hP hS ⊢
    have hP : va_P D vwCl [(wI g rd_kindWords 0 4 kwf), (wO2 n n_nodes n_kind n_pay n_name n_ways n_held n_targets n_weights), (wI g n_kind 0 12 n_fkind), (wI g n_pay 0 12 n_fpay), (wI g n_name 0 12 n_fname), (wI g n_ways 0 12 n_fways), (wI g n_held 0 12 n_fheld), (wI g n_targets 0 36 n_ftargets), (wI g n_weights 0 36 n_fweights), (wO4 rd tp n rd_kindWords ww fk fp onx_72357 otk_72358 otpl_72359 otv_72360), (wO8 tp tp_bytes tl), (wI g tp_bytes 0 440 tf)] H := hP
    have hD : va_D A [(wI g rd_kindWords 0 4 kwf), (wO2 n n_nodes n_kind n_pay n_name n_ways n_held n_targets n_weights), (wI g n_kind 0 12 n_fkind), (wI g n_pay 0 12 n_fpay), (wI g n_name 0 12 n_fname), (wI g n_ways 0 12 n_fways), (wI g n_held 0 12 n_fheld), (wI g n_targets 0 36 n_ftargets), (wI g n_weights 0 36 n_fweights), (wO4 rd tp n rd_kindWords ww fk fp onx_72357 otk_72358 otpl_72359 otv_72360), (wO8 tp tp_bytes tl), (wI g tp_bytes 0 440 tf)] := hD
    refine lv_aload_n hx hb dX4_readNode_18 rfl (lv_at hl 0 rfl) ?_
    refine va_get (D := D) (ci := 4) (v := .int otv_72360) (C := RX4) (T := TX4) (N := 10) hx hb hts inlX4 hown hK hP 9 rfl rfl 9 (by decide) (hts (Cond.fieldLink RX4 86 "ChanceRings$Reader" "tokenValue" "I") qw_394) (fun _ h9 => h9) rfl dX4_readNode_19 ?_
    refine lv_istore_n (lv' := [(2, .int otv_72360), (0, .ref rd), (1, .int p0)]) hx hb dX4_readNode_22 rfl hl (by decide) rfl (fun ls hl => ?_)
    refine lv_aload_n hx hb dX4_readNode_23 rfl (lv_at hl 1 rfl) ?_
    have hPc := hP.sub (ws' := [(wO4 rd tp n rd_kindWords ww fk fp onx_72357 otk_72358 otpl_72359 otv_72360), (wI g rd_kindWords 0 4 kwf)]) [9, 0] rfl
    refine vp_callSi (va_Run.run (va_runV (As := []) (rest := []) ⟨hx, hb, hml, hown, hts⟩ (c_X4_isName l D g rd tp n rd_kindWords ww fk fp onx_72357 otk_72358 otpl_72359 otv_72360 kwf (tr_w h_fk (by decide) (by decide)) (tr_w h_fp (by decide) (by decide)) (tr_w hf_72361 (by decide) (by decide)) (tr_w hf_72362 (by decide) (by decide)) (tr_w hf_72363 (by decide) (by decide)) hkw hww) (cwV 0 hts (tz_gV qw_426 qw_427 qw_428 qw_384 qw_429) rfl rfl rfl (by decide +kernel) ⟨Nat.le_of_ble_eq_true rfl, Nat.le_of_ble_eq_true rfl⟩) ⟨tz_blS, va_recv hK hPc (ci := 4) (q0 := 0) rfl rfl, tz_preS hPc hK⟩ rfl rfl hl.1 rfl (lv_room (Nat.le_of_ble_eq_true rfl)) dX4_readNode_24 ⟨Nat.le_of_ble_eq_true rfl, Nat.le_of_ble_eq_true rfl⟩)) (fun r_72365 hw => ?_)
    have hw_72366 : 0 ≤ (r_72365 : Int32).toInt ∧ (r_72365 : Int32).toInt ≤ 1 := hw.1
    have hw_72366_p0 : Hide (¬ (r_72365 : Int32).toInt = 0 → NMC (otk_72358 : Int32).toInt (otv_72360 : Int32).toInt) := hw.2.1
    have hw_72366_p1 : Hide ((r_72365 : Int32).toInt = 0 → ¬ NMC (otk_72358 : Int32).toInt (otv_72360 : Int32).toInt) := hw.2.2
    refine lv_if_ne (tgt := 38) hx hb dX4_readNode_27 (by decide) (fun c_72367 => ?_) (fun c_72367 => ?_)
    · skip
      have c_72367_i : ¬ (r_72365 : Int32).toInt = (0 : Int32).toInt := (fun q => c_72367 (Int32.toInt_inj.mp q))
      have hw_72366_p0_u := (hw_72366_p0).get (fun q => c_72367_i (q.trans tk_0.symm))
      have h_72368 : 1 ≤ (r_72365 : Int32).toInt ∧ (r_72365 : Int32).toInt ≤ 1 := nr_ne_l hw_72366 (⟨by decide, by decide⟩ : 0 ≤ (0 : Int32).toInt ∧ (0 : Int32).toInt ≤ 0) c_72367_i (by decide) (by decide)
      refine lv_aload_n hx hb dX4_readNode_38 rfl (lv_at hl 1 rfl) ?_
      refine va_get (D := D) (ci := 4) (v := .ref n) (C := RX4) (T := TX4) (N := 10) hx hb hts inlX4 hown hK hP 9 rfl rfl 1 (by decide) (hts (Cond.fieldLink RX4 15 "ChanceRings$Reader" "net" "LChanceRings$Net;") qw_408) (fun _ h9 => h9) rfl dX4_readNode_39 ?_
      refine lv_iload_n hx hb dX4_readNode_42 rfl (lv_at hl 0 rfl) ?_
      have hPc := hP.sub (ws' := [(wO2 n n_nodes n_kind n_pay n_name n_ways n_held n_targets n_weights), (wI g n_name 0 12 n_fname)]) [1, 4] rfl
      refine vp_callSi (va_Run.run (va_runV (As := [.int otv_72360]) (rest := []) ⟨hx, hb, hml, hown, hts⟩ (c_X2_find l D g n otv_72360 n_nodes n_kind n_pay n_name n_ways n_held n_targets n_weights n_fname (tr_w h_n_nodes (by decide) (by decide))) (cwV 1 hts (tz_gV qw_430 qw_431 qw_432 qw_322 qw_433) rfl rfl rfl (by decide +kernel) ⟨Nat.le_of_ble_eq_true rfl, Nat.le_of_ble_eq_true rfl⟩) ⟨tz_blS, va_recv hK hPc (ci := 2) (q0 := 0) rfl rfl, tz_preS hPc hK⟩ rfl rfl hl.1 rfl (lv_room (Nat.le_of_ble_eq_true rfl)) dX4_readNode_43 ⟨Nat.le_of_ble_eq_true rfl, Nat.le_of_ble_eq_true rfl⟩)) (fun r_72370 hw => ?_)
      have hw_72371 : (-1) ≤ (r_72370 : Int32).toInt ∧ (r_72370 : Int32).toInt ≤ 11 := hw.1
      have hw_72371_p0 : FN (n_nodes : Int32).toInt (fun p => (n_fname p).toInt) (otv_72360 : Int32).toInt (r_72370 : Int32).toInt := hw.2
      refine lv_iconst (v := (-1)) hx hb dX4_readNode_46 (by decide) ?_
      refine lv_icmp_eq (tgt := 58) hx hb dX4_readNode_47 (by decide) (fun c_72372 => ?_) (fun c_72372 => ?_)
      · skip
        have kk_m1 := tk_m1
        have c_72372_i : (r_72370 : Int32).toInt = ((-1) : Int32).toInt := congrArg Int32.toInt c_72372
        have h_72373 : (-1) ≤ (r_72370 : Int32).toInt ∧ (r_72370 : Int32).toInt ≤ (-1) := nr_eq_l hw_72371 (⟨by decide, by decide⟩ : (-1) ≤ ((-1) : Int32).toInt ∧ ((-1) : Int32).toInt ≤ (-1)) c_72372_i (by decide) (by decide)
        refine lv_aload_n hx hb dX4_readNode_58 rfl (lv_at hl 1 rfl) ?_
        have hPc := hP.sub (ws' := [(wO4 rd tp n rd_kindWords ww fk fp onx_72357 otk_72358 otpl_72359 otv_72360), (wO8 tp tp_bytes tl), (wI g tp_bytes 0 440 tf)]) [9, 10, 11] rfl
        have hDc := hD.sub (ws' := [(wO4 rd tp n rd_kindWords ww fk fp onx_72357 otk_72358 otpl_72359 otv_72360), (wO8 tp tp_bytes tl), (wI g tp_bytes 0 440 tf)]) [9, 10, 11] (by decide) rfl
        have hFc := va_free (wc := [(wO4 rd tp n rd_kindWords ww fk fp onx_72357 otk_72358 otpl_72359 otv_72360), (wO8 tp tp_bytes tl), (wI g tp_bytes 0 440 tf)]) hD hS hA [9, 10, 11] rfl
        refine va_callv (va_runV (As := []) (rest := []) ⟨hx, hb, hml, hown, hts⟩ (c_X4_advance l D g H.size rd tp n rd_kindWords ww fk fp onx_72357 otk_72358 otpl_72359 otv_72360 tp_bytes tl tf (tr_w h_fk (by decide) (by decide)) (tr_w h_fp (by decide) (by decide)) (tr_w hf_72361 (by decide) (by decide)) (tr_w hf_72362 (by decide) (by decide)) (tr_w hf_72363 (by decide) (by decide)) (tr_w h_tl (by decide) (by decide)) (tr_wa h_tf (by decide) (by decide))) (cwV 0 hts (tz_gV qw_422 qw_423 qw_424 qw_384 qw_425) rfl rfl rfl (by decide +kernel) ⟨Nat.le_of_ble_eq_true rfl, Nat.le_of_ble_eq_true rfl⟩) ⟨tz_blQ, va_recv hK hPc (ci := 4) (q0 := 0) rfl rfl, tz_preQ hPc hK hDc⟩ rfl rfl hl.1 rfl (lv_room (Nat.le_of_ble_eq_true rfl)) dX4_readNode_59 ⟨Nat.le_of_ble_eq_true rfl, Nat.le_of_ble_eq_true rfl⟩) hS (fun q _ h => hFc q h) hFc (fun u t H1 locs ht hvm hw hB hz1 hk1 hS => ?_)
        obtain ⟨onx_72376, otk_72377, otpl_72378, otv_72379, hf_72380, hf_72381, hf_72382, hf_72383, hP1, hD1⟩ := hB
        rw [ht] at hP1
        obtain ⟨hP, hD⟩ := va_join (wr := [(wI g rd_kindWords 0 4 kwf), (wO2 n n_nodes n_kind n_pay n_name n_ways n_held n_targets n_weights), (wI g n_kind 0 12 n_fkind), (wI g n_pay 0 12 n_fpay), (wI g n_name 0 12 n_fname), (wI g n_ways 0 12 n_fways), (wI g n_held 0 12 n_fheld), (wI g n_targets 0 36 n_ftargets), (wI g n_weights 0 36 n_fweights)]) (w1 := [(wO4 rd tp n rd_kindWords ww fk fp onx_72376 otk_72377 otpl_72378 otv_72379), (wO8 tp tp_bytes tl), (wI g tp_bytes 0 440 tf)]) hP hD [9, 10, 11] [0, 1, 2, 3, 4, 5, 6, 7, 8] rfl rfl (by decide) (by decide) hk1 hFc hP1 hD1
        generalize H1 = H at hP hS ⊢
        have hP : va_P D vwCl [(wI g rd_kindWords 0 4 kwf), (wO2 n n_nodes n_kind n_pay n_name n_ways n_held n_targets n_weights), (wI g n_kind 0 12 n_fkind), (wI g n_pay 0 12 n_fpay), (wI g n_name 0 12 n_fname), (wI g n_ways 0 12 n_fways), (wI g n_held 0 12 n_fheld), (wI g n_targets 0 36 n_ftargets), (wI g n_weights 0 36 n_fweights), (wO4 rd tp n rd_kindWords ww fk fp onx_72376 otk_72377 otpl_72378 otv_72379), (wO8 tp tp_bytes tl), (wI g tp_bytes 0 440 tf)] H := hP
        have hD : va_D A [(wI g rd_kindWords 0 4 kwf), (wO2 n n_nodes n_kind n_pay n_name n_ways n_held n_targets n_weights), (wI g n_kind 0 12 n_fkind), (wI g n_pay 0 12 n_fpay), (wI g n_name 0 12 n_fname), (wI g n_ways 0 12 n_fways), (wI g n_held 0 12 n_fheld), (wI g n_targets 0 36 n_ftargets), (wI g n_weights 0 36 n_fweights), (wO4 rd tp n rd_kindWords ww fk fp onx_72376 otk_72377 otpl_72378 otv_72379), (wO8 tp tp_bytes tl), (wI g tp_bytes 0 440 tf)] := hD
        have nf_9 : ¬ FULL (absC n_nodes n_fkind n_fpay n_fname n_fways n_fheld n_ftargets n_fweights) (p0 : Int32).toInt := fun q9 => hw_72352_p1_u ((absC_full (by (first | (clear h_fk h_fp h_nx h_tk h_tpl h_tl hww hfk hw_72352 c_72353_i h_72354 hw_72366 c_72367_i h_72368 hw_72371 c_72372_i h_72373; omega) | omega))).mpr q9)
        have nb_9 : (n_nodes : Int32).toInt ≤ 11 := BDn.lt hbd nf_9
        refine lv_aload_n hx hb dX4_readNode_62 rfl (lv_at hl 1 rfl) ?_
        refine va_get (D := D) (ci := 4) (v := .ref n) (C := RX4) (T := TX4) (N := 10) hx hb hts inlX4 hown hK hP 9 rfl rfl 1 (by decide) (hts (Cond.fieldLink RX4 15 "ChanceRings$Reader" "net" "LChanceRings$Net;") qw_408) (fun _ h9 => h9) rfl dX4_readNode_63 ?_
        refine lv_iload_n hx hb dX4_readNode_66 rfl (lv_at hl 2 rfl) ?_
        refine lv_iload_n hx hb dX4_readNode_67 rfl (lv_at hl 0 rfl) ?_
        refine lv_iload_n hx hb dX4_readNode_68 rfl (lv_at hl 2 rfl) ?_
        refine lv_if_ne (tgt := 79) hx hb dX4_readNode_69 (by decide) (fun c_72384 => ?_) (fun c_72384 => ?_)
        · skip
          have c_72384_i : ¬ (p0 : Int32).toInt = (0 : Int32).toInt := (fun q => c_72384 (Int32.toInt_inj.mp q))
          have h_72385 : 1 ≤ (p0 : Int32).toInt ∧ (p0 : Int32).toInt ≤ 3 := nr_ne_l h_p0 (⟨by decide, by decide⟩ : 0 ≤ (0 : Int32).toInt ∧ (0 : Int32).toInt ≤ 0) c_72384_i (by decide) (by decide)
          refine lv_iconst (v := 0) hx hb dX4_readNode_79 (by decide) ?_
          have h_72387 : 0 ≤ (n_nodes : Int32).toInt ∧ (n_nodes : Int32).toInt ≤ 11 := by (first | (clear h_p0 h_fk h_fp h_nx h_tk h_tpl h_tl hww hfk hw_72352 c_72353_i h_72354 hw_72366 c_72367_i h_72368 hw_72371 c_72372_i h_72373 c_72384_i h_72385; omega) | omega)
          have hPc := hP.sub (ws' := [(wO2 n n_nodes n_kind n_pay n_name n_ways n_held n_targets n_weights), (wI g n_kind 0 12 n_fkind), (wI g n_pay 0 12 n_fpay), (wI g n_name 0 12 n_fname), (wI g n_ways 0 12 n_fways), (wI g n_held 0 12 n_fheld)]) [1, 2, 3, 4, 5, 6] rfl
          have hDc := hD.sub (ws' := [(wO2 n n_nodes n_kind n_pay n_name n_ways n_held n_targets n_weights), (wI g n_kind 0 12 n_fkind), (wI g n_pay 0 12 n_fpay), (wI g n_name 0 12 n_fname), (wI g n_ways 0 12 n_fways), (wI g n_held 0 12 n_fheld)]) [1, 2, 3, 4, 5, 6] (by decide) rfl
          have hFc := va_free (wc := [(wO2 n n_nodes n_kind n_pay n_name n_ways n_held n_targets n_weights), (wI g n_kind 0 12 n_fkind), (wI g n_pay 0 12 n_fpay), (wI g n_name 0 12 n_fname), (wI g n_ways 0 12 n_fways), (wI g n_held 0 12 n_fheld)]) hD hS hA [1, 2, 3, 4, 5, 6] rfl
          refine va_callv (va_runV (As := [.int p0, .int otv_72360, .int 0]) (rest := []) ⟨hx, hb, hml, hown, hts⟩ (c_X2_addNode l D g H.size n p0 otv_72360 0 n_nodes n_kind n_pay n_name n_ways n_held n_targets n_weights n_fkind n_fpay n_fname n_fways n_fheld (tr_w h_72385 (by decide) (by decide)) (tr_w h_72387 (by decide) (by decide)) (tr_wa h_n_fkind (by decide) (by decide)) (tr_wa h_n_fways (by decide) (by decide)) (tr_wa h_n_fheld (by decide) (by decide))) (cwV 3 hts (tz_gV qw_434 qw_435 qw_436 qw_322 qw_437) rfl rfl rfl (by decide +kernel) ⟨Nat.le_of_ble_eq_true rfl, Nat.le_of_ble_eq_true rfl⟩) ⟨tz_blQ, va_recv hK hPc (ci := 2) (q0 := 0) rfl rfl, tz_preQ hPc hK hDc⟩ rfl rfl hl.1 rfl (lv_room (Nat.le_of_ble_eq_true rfl)) dX4_readNode_80 ⟨Nat.le_of_ble_eq_true rfl, Nat.le_of_ble_eq_true rfl⟩) hS (fun q _ h => hFc q h) hFc (fun u t H1 locs ht hvm hw hB hz1 hk1 hS => ?_)
          obtain ⟨on_72389, n_gkind_72390, n_gpay_72391, n_gname_72392, n_gways_72393, n_gheld_72394, hf_72395, hf_72396, hf_72397, hf_72398, hf_72399, hf_72400, hf_72401, hf_72402, hf_72403, hf_72404, hP1, hD1⟩ := hB
          rw [ht] at hP1
          obtain ⟨hP, hD⟩ := va_join (wr := [(wI g rd_kindWords 0 4 kwf), (wI g n_targets 0 36 n_ftargets), (wI g n_weights 0 36 n_fweights), (wO4 rd tp n rd_kindWords ww fk fp onx_72376 otk_72377 otpl_72378 otv_72379), (wO8 tp tp_bytes tl), (wI g tp_bytes 0 440 tf)]) (w1 := [(wO2 n on_72389 n_kind n_pay n_name n_ways n_held n_targets n_weights), (wI g n_kind 0 12 n_gkind_72390), (wI g n_pay 0 12 n_gpay_72391), (wI g n_name 0 12 n_gname_72392), (wI g n_ways 0 12 n_gways_72393), (wI g n_held 0 12 n_gheld_72394)]) hP hD [1, 2, 3, 4, 5, 6] [0, 7, 8, 9, 10, 11] rfl rfl (by decide) (by decide) hk1 hFc hP1 hD1
          generalize H1 = H at hP hS ⊢
          have hP : va_P D vwCl [(wI g rd_kindWords 0 4 kwf), (wI g n_targets 0 36 n_ftargets), (wI g n_weights 0 36 n_fweights), (wO4 rd tp n rd_kindWords ww fk fp onx_72376 otk_72377 otpl_72378 otv_72379), (wO8 tp tp_bytes tl), (wI g tp_bytes 0 440 tf), (wO2 n on_72389 n_kind n_pay n_name n_ways n_held n_targets n_weights), (wI g n_kind 0 12 n_gkind_72390), (wI g n_pay 0 12 n_gpay_72391), (wI g n_name 0 12 n_gname_72392), (wI g n_ways 0 12 n_gways_72393), (wI g n_held 0 12 n_gheld_72394)] H := hP
          have hD : va_D A [(wI g rd_kindWords 0 4 kwf), (wI g n_targets 0 36 n_ftargets), (wI g n_weights 0 36 n_fweights), (wO4 rd tp n rd_kindWords ww fk fp onx_72376 otk_72377 otpl_72378 otv_72379), (wO8 tp tp_bytes tl), (wI g tp_bytes 0 440 tf), (wO2 n on_72389 n_kind n_pay n_name n_ways n_held n_targets n_weights), (wI g n_kind 0 12 n_gkind_72390), (wI g n_pay 0 12 n_gpay_72391), (wI g n_name 0 12 n_gname_72392), (wI g n_ways 0 12 n_gways_72393), (wI g n_held 0 12 n_gheld_72394)] := hD
          refine lv_iload_n hx hb dX4_readNode_83 rfl (lv_at hl 2 rfl) ?_
          refine lv_if_ne (tgt := 98) hx hb dX4_readNode_84 (by decide) (fun c_72405 => ?_) (fun h9 => (nr_x_eq h_72385 (⟨by decide, by decide⟩ : 0 ≤ (0 : Int32).toInt ∧ (0 : Int32).toInt ≤ 0) (congrArg Int32.toInt h9) (by decide)).elim)
          have c_72405_i : ¬ (p0 : Int32).toInt = (0 : Int32).toInt := (fun q => c_72405 (Int32.toInt_inj.mp q))
          have hP9 := hP.sub (ws' := [(wO4 rd tp n rd_kindWords ww fk fp onx_72376 otk_72377 otpl_72378 otv_72379), (wO8 tp tp_bytes tl), (wI g tp_bytes 0 440 tf), (wI g rd_kindWords 0 4 kwf), (wO2 n on_72389 n_kind n_pay n_name n_ways n_held n_targets n_weights), (wI g n_kind 0 12 n_gkind_72390), (wI g n_pay 0 12 n_gpay_72391), (wI g n_name 0 12 n_gname_72392), (wI g n_ways 0 12 n_gways_72393), (wI g n_held 0 12 n_gheld_72394), (wI g n_targets 0 36 n_ftargets), (wI g n_weights 0 36 n_fweights)]) [3, 4, 5, 0, 6, 7, 8, 9, 10, 11, 1, 2] rfl
          have hD9 := hD.sub (ws' := [(wO4 rd tp n rd_kindWords ww fk fp onx_72376 otk_72377 otpl_72378 otv_72379), (wO8 tp tp_bytes tl), (wI g tp_bytes 0 440 tf), (wI g rd_kindWords 0 4 kwf), (wO2 n on_72389 n_kind n_pay n_name n_ways n_held n_targets n_weights), (wI g n_kind 0 12 n_gkind_72390), (wI g n_pay 0 12 n_gpay_72391), (wI g n_name 0 12 n_gname_72392), (wI g n_ways 0 12 n_gways_72393), (wI g n_held 0 12 n_gheld_72394), (wI g n_targets 0 36 n_ftargets), (wI g n_weights 0 36 n_fweights)]) [3, 4, 5, 0, 6, 7, 8, 9, 10, 11, 1, 2] (by decide) rfl
          exact W.vret hx hb hr (fun t ht hW => ⟨⟨(), rfl, trivial, fk, fp, onx_72376, otk_72377, otpl_72378, otv_72379, on_72389, n_gkind_72390, n_gpay_72391, n_gname_72392, n_gways_72393, n_gheld_72394, n_ftargets, n_fweights, (tr_w h_fk (by decide) (by decide)), (tr_w h_fp (by decide) (by decide)), (tr_w hf_72380 (by decide) (by decide)), (tr_w hf_72381 (by decide) (by decide)), (tr_w hf_72382 (by decide) (by decide)), (tr_w hf_72395 (by decide) (by decide)), (tr_wa hf_72396 (by decide) (by decide)), (tr_wa hf_72397 (by decide) (by decide)), (tr_wa hf_72398 (by decide) (by decide)), (tr_wa h_n_ftargets (by decide) (by decide)), (fun _ => nok_in nf_9 hf_72364 hw_72366_p0_u (absC_fd hw_72371_p0) (by have z_0 := tk_0; have z_1 := tk_1; have z_2 := tk_2; have z_3 := tk_3; have z_m := tk_m1; have z_9 := tk_9; have z_4 := tk_4; (first | (clear h_p0 h_nx h_tk h_tpl h_tl hww hw_72352 c_72353_i h_72354 hw_72366 c_72367_i h_72368 hw_72371 c_72372_i h_72373 c_72384_i h_72385 c_72405_i; omega) | omega)) hf_72383 (by have z_0 := tk_0; have z_1 := tk_1; have z_2 := tk_2; have z_3 := tk_3; have z_m := tk_m1; have z_9 := tk_9; have z_4 := tk_4; (first | (clear h_p0 h_nx h_tk h_tpl h_tl hww hw_72352 c_72353_i h_72354 hw_72366 c_72367_i h_72368 hw_72371 c_72372_i h_72373 c_72384_i h_72385 c_72405_i; omega) | omega)) (absC_addN h_n_nodes.1 (by (first | (clear h_p0 h_nx h_tk h_tpl h_tl hww hw_72352 c_72353_i h_72354 hw_72366 c_72367_i h_72368 hw_72371 c_72372_i h_72373 c_72384_i h_72385 c_72405_i; omega) | omega)) hf_72399 hf_72400 hf_72402 hf_72401 hf_72403 hf_72404 (by decide) (by decide) h_n_fways rfl tk_0)), (fun h9 => absurd hfk h9), by rw [ht]; exact hP9, hD9⟩, hS.F ht⟩) hS.2.2 dX4_readNode_98
        · skip
          have c_72384_i : (p0 : Int32).toInt = (0 : Int32).toInt := congrArg Int32.toInt c_72384
          have h_72386 : 0 ≤ (p0 : Int32).toInt ∧ (p0 : Int32).toInt ≤ 0 := nr_eq_l h_p0 (⟨by decide, by decide⟩ : 0 ≤ (0 : Int32).toInt ∧ (0 : Int32).toInt ≤ 0) c_72384_i (by decide) (by decide)
          refine lv_aload_n hx hb dX4_readNode_72 rfl (lv_at hl 1 rfl) ?_
          refine va_get (D := D) (ci := 4) (v := .int otv_72379) (C := RX4) (T := TX4) (N := 10) hx hb hts inlX4 hown hK hP 9 rfl rfl 9 (by decide) (hts (Cond.fieldLink RX4 86 "ChanceRings$Reader" "tokenValue" "I") qw_394) (fun _ h9 => h9) rfl dX4_readNode_73 ?_
          refine lv_goto (tgt := 80) hx hb dX4_readNode_76 (by decide) ?_
          have h_72406 : 0 ≤ (n_nodes : Int32).toInt ∧ (n_nodes : Int32).toInt ≤ 11 := by (first | (clear h_p0 h_fk h_fp h_nx h_tk h_tpl h_tl hww hfk hw_72352 c_72353_i h_72354 hw_72366 c_72367_i h_72368 hw_72371 c_72372_i h_72373 c_72384_i h_72386; omega) | omega)
          have hPc := hP.sub (ws' := [(wO2 n n_nodes n_kind n_pay n_name n_ways n_held n_targets n_weights), (wI g n_kind 0 12 n_fkind), (wI g n_pay 0 12 n_fpay), (wI g n_name 0 12 n_fname), (wI g n_ways 0 12 n_fways), (wI g n_held 0 12 n_fheld)]) [1, 2, 3, 4, 5, 6] rfl
          have hDc := hD.sub (ws' := [(wO2 n n_nodes n_kind n_pay n_name n_ways n_held n_targets n_weights), (wI g n_kind 0 12 n_fkind), (wI g n_pay 0 12 n_fpay), (wI g n_name 0 12 n_fname), (wI g n_ways 0 12 n_fways), (wI g n_held 0 12 n_fheld)]) [1, 2, 3, 4, 5, 6] (by decide) rfl
          have hFc := va_free (wc := [(wO2 n n_nodes n_kind n_pay n_name n_ways n_held n_targets n_weights), (wI g n_kind 0 12 n_fkind), (wI g n_pay 0 12 n_fpay), (wI g n_name 0 12 n_fname), (wI g n_ways 0 12 n_fways), (wI g n_held 0 12 n_fheld)]) hD hS hA [1, 2, 3, 4, 5, 6] rfl
          refine va_callv (va_runV (As := [.int p0, .int otv_72360, .int otv_72379]) (rest := []) ⟨hx, hb, hml, hown, hts⟩ (c_X2_addNode l D g H.size n p0 otv_72360 otv_72379 n_nodes n_kind n_pay n_name n_ways n_held n_targets n_weights n_fkind n_fpay n_fname n_fways n_fheld (tr_w h_72386 (by decide) (by decide)) (tr_w h_72406 (by decide) (by decide)) (tr_wa h_n_fkind (by decide) (by decide)) (tr_wa h_n_fways (by decide) (by decide)) (tr_wa h_n_fheld (by decide) (by decide))) (cwV 3 hts (tz_gV qw_434 qw_435 qw_436 qw_322 qw_437) rfl rfl rfl (by decide +kernel) ⟨Nat.le_of_ble_eq_true rfl, Nat.le_of_ble_eq_true rfl⟩) ⟨tz_blQ, va_recv hK hPc (ci := 2) (q0 := 0) rfl rfl, tz_preQ hPc hK hDc⟩ rfl rfl hl.1 rfl (lv_room (Nat.le_of_ble_eq_true rfl)) dX4_readNode_80 ⟨Nat.le_of_ble_eq_true rfl, Nat.le_of_ble_eq_true rfl⟩) hS (fun q _ h => hFc q h) hFc (fun u t H1 locs ht hvm hw hB hz1 hk1 hS => ?_)
          obtain ⟨on_72408, n_gkind_72409, n_gpay_72410, n_gname_72411, n_gways_72412, n_gheld_72413, hf_72414, hf_72415, hf_72416, hf_72417, hf_72418, hf_72419, hf_72420, hf_72421, hf_72422, hf_72423, hP1, hD1⟩ := hB
          rw [ht] at hP1
          obtain ⟨hP, hD⟩ := va_join (wr := [(wI g rd_kindWords 0 4 kwf), (wI g n_targets 0 36 n_ftargets), (wI g n_weights 0 36 n_fweights), (wO4 rd tp n rd_kindWords ww fk fp onx_72376 otk_72377 otpl_72378 otv_72379), (wO8 tp tp_bytes tl), (wI g tp_bytes 0 440 tf)]) (w1 := [(wO2 n on_72408 n_kind n_pay n_name n_ways n_held n_targets n_weights), (wI g n_kind 0 12 n_gkind_72409), (wI g n_pay 0 12 n_gpay_72410), (wI g n_name 0 12 n_gname_72411), (wI g n_ways 0 12 n_gways_72412), (wI g n_held 0 12 n_gheld_72413)]) hP hD [1, 2, 3, 4, 5, 6] [0, 7, 8, 9, 10, 11] rfl rfl (by decide) (by decide) hk1 hFc hP1 hD1
          generalize H1 = H at hP hS ⊢
          have hP : va_P D vwCl [(wI g rd_kindWords 0 4 kwf), (wI g n_targets 0 36 n_ftargets), (wI g n_weights 0 36 n_fweights), (wO4 rd tp n rd_kindWords ww fk fp onx_72376 otk_72377 otpl_72378 otv_72379), (wO8 tp tp_bytes tl), (wI g tp_bytes 0 440 tf), (wO2 n on_72408 n_kind n_pay n_name n_ways n_held n_targets n_weights), (wI g n_kind 0 12 n_gkind_72409), (wI g n_pay 0 12 n_gpay_72410), (wI g n_name 0 12 n_gname_72411), (wI g n_ways 0 12 n_gways_72412), (wI g n_held 0 12 n_gheld_72413)] H := hP
          have hD : va_D A [(wI g rd_kindWords 0 4 kwf), (wI g n_targets 0 36 n_ftargets), (wI g n_weights 0 36 n_fweights), (wO4 rd tp n rd_kindWords ww fk fp onx_72376 otk_72377 otpl_72378 otv_72379), (wO8 tp tp_bytes tl), (wI g tp_bytes 0 440 tf), (wO2 n on_72408 n_kind n_pay n_name n_ways n_held n_targets n_weights), (wI g n_kind 0 12 n_gkind_72409), (wI g n_pay 0 12 n_gpay_72410), (wI g n_name 0 12 n_gname_72411), (wI g n_ways 0 12 n_gways_72412), (wI g n_held 0 12 n_gheld_72413)] := hD
          refine lv_iload_n hx hb dX4_readNode_83 rfl (lv_at hl 2 rfl) ?_
          refine lv_if_ne (tgt := 98) hx hb dX4_readNode_84 (by decide) (fun h9 => (nr_x_ne h_72386 (⟨by decide, by decide⟩ : 0 ≤ (0 : Int32).toInt ∧ (0 : Int32).toInt ≤ 0) (fun q => h9 (Int32.toInt_inj.mp q)) (by decide)).elim) (fun c_72424 => ?_)
          have c_72424_i : (p0 : Int32).toInt = (0 : Int32).toInt := congrArg Int32.toInt c_72424
          refine lv_aload_n hx hb dX4_readNode_87 rfl (lv_at hl 1 rfl) ?_
          have hPc := hP.sub (ws' := [(wO4 rd tp n rd_kindWords ww fk fp onx_72376 otk_72377 otpl_72378 otv_72379)]) [3] rfl
          have hDc := hD.sub (ws' := [(wO4 rd tp n rd_kindWords ww fk fp onx_72376 otk_72377 otpl_72378 otv_72379)]) [3] (by decide) rfl
          have hFc := va_free (wc := [(wO4 rd tp n rd_kindWords ww fk fp onx_72376 otk_72377 otpl_72378 otv_72379)]) hD hS hA [3] rfl
          refine va_calli (va_runV (As := []) (rest := []) ⟨hx, hb, hml, hown, hts⟩ (c_X4_isPay l D g H.size rd tp n rd_kindWords ww fk fp onx_72376 otk_72377 otpl_72378 otv_72379 (tr_w h_fk (by decide) (by decide)) (tr_w h_fp (by decide) (by decide)) (tr_w hf_72380 (by decide) (by decide)) (tr_w hf_72381 (by decide) (by decide)) (tr_w hf_72382 (by decide) (by decide)) hfk) (cwV 0 hts (tz_gV qw_438 qw_439 qw_440 qw_384 qw_441) rfl rfl rfl (by decide +kernel) ⟨Nat.le_of_ble_eq_true rfl, Nat.le_of_ble_eq_true rfl⟩) ⟨tz_blQ, va_recv hK hPc (ci := 4) (q0 := 0) rfl rfl, tz_preQ hPc hK hDc⟩ rfl rfl hl.1 rfl (lv_room (Nat.le_of_ble_eq_true rfl)) dX4_readNode_88 ⟨Nat.le_of_ble_eq_true rfl, Nat.le_of_ble_eq_true rfl⟩) hS (fun q _ h => hFc q h) hFc (fun r_72425 u t H1 locs ht hvm hw hB hz1 hk1 hS => ?_)
          have hgu := hw.1
          rw [hgu] at hB
          obtain ⟨ofk_72426, ofp_72427, hf_72428, hf_72429, hf_72430, hf_72431, hP1, hD1⟩ := hB
          rw [ht] at hP1
          obtain ⟨hP, hD⟩ := va_join (wr := [(wI g rd_kindWords 0 4 kwf), (wI g n_targets 0 36 n_ftargets), (wI g n_weights 0 36 n_fweights), (wO8 tp tp_bytes tl), (wI g tp_bytes 0 440 tf), (wO2 n on_72408 n_kind n_pay n_name n_ways n_held n_targets n_weights), (wI g n_kind 0 12 n_gkind_72409), (wI g n_pay 0 12 n_gpay_72410), (wI g n_name 0 12 n_gname_72411), (wI g n_ways 0 12 n_gways_72412), (wI g n_held 0 12 n_gheld_72413)]) (w1 := [(wO4 rd tp n rd_kindWords ww ofk_72426 ofp_72427 onx_72376 otk_72377 otpl_72378 otv_72379)]) hP hD [3] [0, 1, 2, 4, 5, 6, 7, 8, 9, 10, 11] rfl rfl (by decide) (by decide) hk1 hFc hP1 hD1
          generalize H1 = H at hP hS ⊢
          have hP : va_P D vwCl [(wI g rd_kindWords 0 4 kwf), (wI g n_targets 0 36 n_ftargets), (wI g n_weights 0 36 n_fweights), (wO8 tp tp_bytes tl), (wI g tp_bytes 0 440 tf), (wO2 n on_72408 n_kind n_pay n_name n_ways n_held n_targets n_weights), (wI g n_kind 0 12 n_gkind_72409), (wI g n_pay 0 12 n_gpay_72410), (wI g n_name 0 12 n_gname_72411), (wI g n_ways 0 12 n_gways_72412), (wI g n_held 0 12 n_gheld_72413), (wO4 rd tp n rd_kindWords ww ofk_72426 ofp_72427 onx_72376 otk_72377 otpl_72378 otv_72379)] H := hP
          have hD : va_D A [(wI g rd_kindWords 0 4 kwf), (wI g n_targets 0 36 n_ftargets), (wI g n_weights 0 36 n_fweights), (wO8 tp tp_bytes tl), (wI g tp_bytes 0 440 tf), (wO2 n on_72408 n_kind n_pay n_name n_ways n_held n_targets n_weights), (wI g n_kind 0 12 n_gkind_72409), (wI g n_pay 0 12 n_gpay_72410), (wI g n_name 0 12 n_gname_72411), (wI g n_ways 0 12 n_gways_72412), (wI g n_held 0 12 n_gheld_72413), (wO4 rd tp n rd_kindWords ww ofk_72426 ofp_72427 onx_72376 otk_72377 otpl_72378 otv_72379)] := hD
          have hw := hw.2
          have hw_72432 : 0 ≤ (r_72425 : Int32).toInt ∧ (r_72425 : Int32).toInt ≤ 1 := hw
          refine lv_if_eq (tgt := 98) hx hb dX4_readNode_91 (by decide) (fun c_72433 => ?_) (fun c_72433 => ?_)
          · skip
            have c_72433_i : (r_72425 : Int32).toInt = (0 : Int32).toInt := congrArg Int32.toInt c_72433
            have h_72434 : 0 ≤ (r_72425 : Int32).toInt ∧ (r_72425 : Int32).toInt ≤ 0 := nr_eq_l hw_72432 (⟨by decide, by decide⟩ : 0 ≤ (0 : Int32).toInt ∧ (0 : Int32).toInt ≤ 0) c_72433_i (by decide) (by decide)
            have ip_9 := (hf_72431).get (by have z_0 := tk_0; have z_1 := tk_1; have z_2 := tk_2; have z_3 := tk_3; have z_m := tk_m1; have z_9 := tk_9; have z_4 := tk_4; (first | (clear h_p0 h_fk h_fp h_nx h_tk h_tpl h_tl h_n_nodes hww hfk hw_72352 c_72353_i h_72354 hw_72366 c_72367_i h_72368 hw_72371 c_72372_i h_72373 nb_9 c_72384_i h_72386 h_72406 c_72424_i hw_72432 c_72433_i h_72434; omega) | omega))
            have hP9 := hP.sub (ws' := [(wO4 rd tp n rd_kindWords ww ofk_72426 ofp_72427 onx_72376 otk_72377 otpl_72378 otv_72379), (wO8 tp tp_bytes tl), (wI g tp_bytes 0 440 tf), (wI g rd_kindWords 0 4 kwf), (wO2 n on_72408 n_kind n_pay n_name n_ways n_held n_targets n_weights), (wI g n_kind 0 12 n_gkind_72409), (wI g n_pay 0 12 n_gpay_72410), (wI g n_name 0 12 n_gname_72411), (wI g n_ways 0 12 n_gways_72412), (wI g n_held 0 12 n_gheld_72413), (wI g n_targets 0 36 n_ftargets), (wI g n_weights 0 36 n_fweights)]) [11, 3, 4, 0, 5, 6, 7, 8, 9, 10, 1, 2] rfl
            have hD9 := hD.sub (ws' := [(wO4 rd tp n rd_kindWords ww ofk_72426 ofp_72427 onx_72376 otk_72377 otpl_72378 otv_72379), (wO8 tp tp_bytes tl), (wI g tp_bytes 0 440 tf), (wI g rd_kindWords 0 4 kwf), (wO2 n on_72408 n_kind n_pay n_name n_ways n_held n_targets n_weights), (wI g n_kind 0 12 n_gkind_72409), (wI g n_pay 0 12 n_gpay_72410), (wI g n_name 0 12 n_gname_72411), (wI g n_ways 0 12 n_gways_72412), (wI g n_held 0 12 n_gheld_72413), (wI g n_targets 0 36 n_ftargets), (wI g n_weights 0 36 n_fweights)]) [11, 3, 4, 0, 5, 6, 7, 8, 9, 10, 1, 2] (by decide) rfl
            exact W.vret hx hb hr (fun t ht hW => ⟨⟨(), rfl, trivial, ofk_72426, ofp_72427, onx_72376, otk_72377, otpl_72378, otv_72379, on_72408, n_gkind_72409, n_gpay_72410, n_gname_72411, n_gways_72412, n_gheld_72413, n_ftargets, n_fweights, (tr_w hf_72428 (by decide) (by decide)), (tr_w hf_72429 (by decide) (by decide)), (tr_w hf_72380 (by decide) (by decide)), (tr_w hf_72381 (by decide) (by decide)), (tr_w hf_72382 (by decide) (by decide)), (tr_w hf_72414 (by decide) (by decide)), (tr_wa hf_72415 (by decide) (by decide)), (tr_wa hf_72416 (by decide) (by decide)), (tr_wa hf_72417 (by decide) (by decide)), (tr_wa h_n_ftargets (by decide) (by decide)), (fun h9 => absurd h9 ip_9.2.1), (fun _ => nfl_pay nf_9 hf_72364 hw_72366_p0_u (absC_fd hw_72371_p0) (by have z_0 := tk_0; have z_1 := tk_1; have z_2 := tk_2; have z_3 := tk_3; have z_m := tk_m1; have z_9 := tk_9; have z_4 := tk_4; (first | (clear h_p0 h_fk h_fp h_nx h_tk h_tpl h_tl h_n_nodes hww hfk hw_72352 c_72353_i h_72354 hw_72366 c_72367_i h_72368 hw_72371 c_72372_i h_72373 nb_9 c_72384_i h_72386 h_72406 c_72424_i hw_72432 c_72433_i h_72434; omega) | omega)) (by have z_0 := tk_0; have z_1 := tk_1; have z_2 := tk_2; have z_3 := tk_3; have z_m := tk_m1; have z_9 := tk_9; have z_4 := tk_4; (first | (clear h_p0 h_fk h_fp h_nx h_tk h_tpl h_tl h_n_nodes hww hfk hw_72352 c_72353_i h_72354 hw_72366 c_72367_i h_72368 hw_72371 c_72372_i h_72373 nb_9 c_72384_i h_72386 h_72406 c_72424_i hw_72432 c_72433_i h_72434; omega) | omega)) hf_72383 ip_9.1 (by have q9 := ip_9.2.2; (first | (clear h_p0 h_fk h_fp h_nx h_tk h_tpl h_tl h_n_nodes hww hfk hw_72352 c_72353_i h_72354 hw_72366 c_72367_i h_72368 hw_72371 c_72372_i h_72373 nb_9 c_72384_i h_72386 h_72406 c_72424_i hw_72432 c_72433_i h_72434; omega) | omega))), by rw [ht]; exact hP9, hD9⟩, hS.F ht⟩) hS.2.2 dX4_readNode_98
          · skip
            have c_72433_i : ¬ (r_72425 : Int32).toInt = (0 : Int32).toInt := (fun q => c_72433 (Int32.toInt_inj.mp q))
            have h_72435 : 1 ≤ (r_72425 : Int32).toInt ∧ (r_72425 : Int32).toInt ≤ 1 := nr_ne_l hw_72432 (⟨by decide, by decide⟩ : 0 ≤ (0 : Int32).toInt ∧ (0 : Int32).toInt ≤ 0) c_72433_i (by decide) (by decide)
            have ip_9 := (hf_72430).get (by have z_0 := tk_0; have z_1 := tk_1; have z_2 := tk_2; have z_3 := tk_3; have z_m := tk_m1; have z_9 := tk_9; have z_4 := tk_4; (first | (clear h_p0 h_fk h_fp h_nx h_tk h_tpl h_tl h_n_nodes hww hfk hw_72352 c_72353_i h_72354 hw_72366 c_72367_i h_72368 hw_72371 c_72372_i h_72373 nb_9 c_72384_i h_72386 h_72406 c_72424_i hw_72432 c_72433_i h_72435; omega) | omega))
            refine lv_aload_n hx hb dX4_readNode_94 rfl (lv_at hl 1 rfl) ?_
            have hPc := hP.sub (ws' := [(wO4 rd tp n rd_kindWords ww ofk_72426 ofp_72427 onx_72376 otk_72377 otpl_72378 otv_72379), (wO8 tp tp_bytes tl), (wI g tp_bytes 0 440 tf)]) [11, 3, 4] rfl
            have hDc := hD.sub (ws' := [(wO4 rd tp n rd_kindWords ww ofk_72426 ofp_72427 onx_72376 otk_72377 otpl_72378 otv_72379), (wO8 tp tp_bytes tl), (wI g tp_bytes 0 440 tf)]) [11, 3, 4] (by decide) rfl
            have hFc := va_free (wc := [(wO4 rd tp n rd_kindWords ww ofk_72426 ofp_72427 onx_72376 otk_72377 otpl_72378 otv_72379), (wO8 tp tp_bytes tl), (wI g tp_bytes 0 440 tf)]) hD hS hA [11, 3, 4] rfl
            refine va_callv (va_runV (As := []) (rest := []) ⟨hx, hb, hml, hown, hts⟩ (c_X4_advance l D g H.size rd tp n rd_kindWords ww ofk_72426 ofp_72427 onx_72376 otk_72377 otpl_72378 otv_72379 tp_bytes tl tf (tr_w hf_72428 (by decide) (by decide)) (tr_w hf_72429 (by decide) (by decide)) (tr_w hf_72380 (by decide) (by decide)) (tr_w hf_72381 (by decide) (by decide)) (tr_w hf_72382 (by decide) (by decide)) (tr_w h_tl (by decide) (by decide)) (tr_wa h_tf (by decide) (by decide))) (cwV 0 hts (tz_gV qw_422 qw_423 qw_424 qw_384 qw_425) rfl rfl rfl (by decide +kernel) ⟨Nat.le_of_ble_eq_true rfl, Nat.le_of_ble_eq_true rfl⟩) ⟨tz_blQ, va_recv hK hPc (ci := 4) (q0 := 0) rfl rfl, tz_preQ hPc hK hDc⟩ rfl rfl hl.1 rfl (lv_room (Nat.le_of_ble_eq_true rfl)) dX4_readNode_95 ⟨Nat.le_of_ble_eq_true rfl, Nat.le_of_ble_eq_true rfl⟩) hS (fun q _ h => hFc q h) hFc (fun u t H1 locs ht hvm hw hB hz1 hk1 hS => ?_)
            obtain ⟨onx_72437, otk_72438, otpl_72439, otv_72440, hf_72441, hf_72442, hf_72443, hf_72444, hP1, hD1⟩ := hB
            rw [ht] at hP1
            obtain ⟨hP, hD⟩ := va_join (wr := [(wI g rd_kindWords 0 4 kwf), (wI g n_targets 0 36 n_ftargets), (wI g n_weights 0 36 n_fweights), (wO2 n on_72408 n_kind n_pay n_name n_ways n_held n_targets n_weights), (wI g n_kind 0 12 n_gkind_72409), (wI g n_pay 0 12 n_gpay_72410), (wI g n_name 0 12 n_gname_72411), (wI g n_ways 0 12 n_gways_72412), (wI g n_held 0 12 n_gheld_72413)]) (w1 := [(wO4 rd tp n rd_kindWords ww ofk_72426 ofp_72427 onx_72437 otk_72438 otpl_72439 otv_72440), (wO8 tp tp_bytes tl), (wI g tp_bytes 0 440 tf)]) hP hD [11, 3, 4] [0, 1, 2, 5, 6, 7, 8, 9, 10] rfl rfl (by decide) (by decide) hk1 hFc hP1 hD1
            generalize H1 = H at hP hS ⊢
            have hP : va_P D vwCl [(wI g rd_kindWords 0 4 kwf), (wI g n_targets 0 36 n_ftargets), (wI g n_weights 0 36 n_fweights), (wO2 n on_72408 n_kind n_pay n_name n_ways n_held n_targets n_weights), (wI g n_kind 0 12 n_gkind_72409), (wI g n_pay 0 12 n_gpay_72410), (wI g n_name 0 12 n_gname_72411), (wI g n_ways 0 12 n_gways_72412), (wI g n_held 0 12 n_gheld_72413), (wO4 rd tp n rd_kindWords ww ofk_72426 ofp_72427 onx_72437 otk_72438 otpl_72439 otv_72440), (wO8 tp tp_bytes tl), (wI g tp_bytes 0 440 tf)] H := hP
            have hD : va_D A [(wI g rd_kindWords 0 4 kwf), (wI g n_targets 0 36 n_ftargets), (wI g n_weights 0 36 n_fweights), (wO2 n on_72408 n_kind n_pay n_name n_ways n_held n_targets n_weights), (wI g n_kind 0 12 n_gkind_72409), (wI g n_pay 0 12 n_gpay_72410), (wI g n_name 0 12 n_gname_72411), (wI g n_ways 0 12 n_gways_72412), (wI g n_held 0 12 n_gheld_72413), (wO4 rd tp n rd_kindWords ww ofk_72426 ofp_72427 onx_72437 otk_72438 otpl_72439 otv_72440), (wO8 tp tp_bytes tl), (wI g tp_bytes 0 440 tf)] := hD
            have hP9 := hP.sub (ws' := [(wO4 rd tp n rd_kindWords ww ofk_72426 ofp_72427 onx_72437 otk_72438 otpl_72439 otv_72440), (wO8 tp tp_bytes tl), (wI g tp_bytes 0 440 tf), (wI g rd_kindWords 0 4 kwf), (wO2 n on_72408 n_kind n_pay n_name n_ways n_held n_targets n_weights), (wI g n_kind 0 12 n_gkind_72409), (wI g n_pay 0 12 n_gpay_72410), (wI g n_name 0 12 n_gname_72411), (wI g n_ways 0 12 n_gways_72412), (wI g n_held 0 12 n_gheld_72413), (wI g n_targets 0 36 n_ftargets), (wI g n_weights 0 36 n_fweights)]) [9, 10, 11, 0, 3, 4, 5, 6, 7, 8, 1, 2] rfl
            have hD9 := hD.sub (ws' := [(wO4 rd tp n rd_kindWords ww ofk_72426 ofp_72427 onx_72437 otk_72438 otpl_72439 otv_72440), (wO8 tp tp_bytes tl), (wI g tp_bytes 0 440 tf), (wI g rd_kindWords 0 4 kwf), (wO2 n on_72408 n_kind n_pay n_name n_ways n_held n_targets n_weights), (wI g n_kind 0 12 n_gkind_72409), (wI g n_pay 0 12 n_gpay_72410), (wI g n_name 0 12 n_gname_72411), (wI g n_ways 0 12 n_gways_72412), (wI g n_held 0 12 n_gheld_72413), (wI g n_targets 0 36 n_ftargets), (wI g n_weights 0 36 n_fweights)]) [9, 10, 11, 0, 3, 4, 5, 6, 7, 8, 1, 2] (by decide) rfl
            exact W.vret hx hb hr (fun t ht hW => ⟨⟨(), rfl, trivial, ofk_72426, ofp_72427, onx_72437, otk_72438, otpl_72439, otv_72440, on_72408, n_gkind_72409, n_gpay_72410, n_gname_72411, n_gways_72412, n_gheld_72413, n_ftargets, n_fweights, (tr_w hf_72428 (by decide) (by decide)), (tr_w hf_72429 (by decide) (by decide)), (tr_w hf_72441 (by decide) (by decide)), (tr_w hf_72442 (by decide) (by decide)), (tr_w hf_72443 (by decide) (by decide)), (tr_w hf_72414 (by decide) (by decide)), (tr_wa hf_72415 (by decide) (by decide)), (tr_wa hf_72416 (by decide) (by decide)), (tr_wa hf_72417 (by decide) (by decide)), (tr_wa h_n_ftargets (by decide) (by decide)), (fun _ => nok_end nf_9 hf_72364 hw_72366_p0_u (absC_fd hw_72371_p0) (by have z_0 := tk_0; have z_1 := tk_1; have z_2 := tk_2; have z_3 := tk_3; have z_m := tk_m1; have z_9 := tk_9; have z_4 := tk_4; (first | (clear h_p0 h_fk h_fp h_nx h_tk h_tpl h_tl hww hfk hw_72352 c_72353_i h_72354 hw_72366 c_72367_i h_72368 hw_72371 c_72372_i h_72373 c_72384_i h_72386 c_72424_i hw_72432 c_72433_i h_72435; omega) | omega)) hf_72383 (by have z_0 := tk_0; have z_1 := tk_1; have z_2 := tk_2; have z_3 := tk_3; have z_m := tk_m1; have z_9 := tk_9; have z_4 := tk_4; (first | (clear h_p0 h_fk h_fp h_nx h_tk h_tpl h_tl hww hfk hw_72352 c_72353_i h_72354 hw_72366 c_72367_i h_72368 hw_72371 c_72372_i h_72373 c_72384_i h_72386 c_72424_i hw_72432 c_72433_i h_72435; omega) | omega)) ip_9.1 ip_9.2.1 hf_72444 (absC_addN h_n_nodes.1 (by (first | (clear h_p0 h_fk h_fp h_nx h_tk h_tpl h_tl hww hfk hw_72352 c_72353_i h_72354 hw_72366 c_72367_i h_72368 hw_72371 c_72372_i h_72373 c_72384_i h_72386 c_72424_i hw_72432 c_72433_i h_72435; omega) | omega)) hf_72418 hf_72419 hf_72421 hf_72420 hf_72422 hf_72423 (by decide) (by decide) h_n_fways (by have z_0 := tk_0; have z_1 := tk_1; have z_2 := tk_2; have z_3 := tk_3; have z_m := tk_m1; have z_9 := tk_9; have z_4 := tk_4; (first | (clear h_p0 h_fk h_fp h_nx h_tk h_tpl h_tl hww hfk hw_72352 c_72353_i h_72354 hw_72366 c_72367_i h_72368 hw_72371 c_72372_i h_72373 c_72384_i h_72386 c_72424_i hw_72432 c_72433_i h_72435; omega) | omega)) rfl)), (fun h9 => absurd ip_9.2.2 h9), by rw [ht]; exact hP9, hD9⟩, hS.F ht⟩) hS.2.2 dX4_readNode_98
      · skip
        have kk_m1 := tk_m1
        have c_72372_i : ¬ (r_72370 : Int32).toInt = ((-1) : Int32).toInt := (fun q => c_72372 (Int32.toInt_inj.mp q))
        have h_72374 : 0 ≤ (r_72370 : Int32).toInt ∧ (r_72370 : Int32).toInt ≤ 11 := nr_ne_l hw_72371 (⟨by decide, by decide⟩ : (-1) ≤ ((-1) : Int32).toInt ∧ ((-1) : Int32).toInt ≤ (-1)) c_72372_i (by decide) (by decide)
        refine lv_aload_n hx hb dX4_readNode_50 rfl (lv_at hl 1 rfl) ?_
        refine lv_iconst (v := 3) hx hb dX4_readNode_51 (by decide) ?_
        have hPc := hP.sub (ws' := [(wO4 rd tp n rd_kindWords ww fk fp onx_72357 otk_72358 otpl_72359 otv_72360)]) [9] rfl
        have hDc := hD.sub (ws' := [(wO4 rd tp n rd_kindWords ww fk fp onx_72357 otk_72358 otpl_72359 otv_72360)]) [9] (by decide) rfl
        have hFc := va_free (wc := [(wO4 rd tp n rd_kindWords ww fk fp onx_72357 otk_72358 otpl_72359 otv_72360)]) hD hS hA [9] rfl
        refine va_callv (va_runV (As := [.int 3]) (rest := []) ⟨hx, hb, hml, hown, hts⟩ (c_X4_fail l D g H.size rd 3 tp n rd_kindWords ww fk fp onx_72357 otk_72358 otpl_72359 otv_72360 (⟨by decide, by decide⟩ : 0 ≤ (3 : Int32).toInt ∧ (3 : Int32).toInt ≤ 5) (tr_w h_fk (by decide) (by decide)) (tr_w h_fp (by decide) (by decide)) (tr_w hf_72361 (by decide) (by decide)) (tr_w hf_72362 (by decide) (by decide)) (tr_w hf_72363 (by decide) (by decide))) (cwV 1 hts (tz_gV qw_414 qw_415 qw_416 qw_384 qw_417) rfl rfl rfl (by decide +kernel) ⟨Nat.le_of_ble_eq_true rfl, Nat.le_of_ble_eq_true rfl⟩) ⟨tz_blQ, va_recv hK hPc (ci := 4) (q0 := 0) rfl rfl, tz_preQ hPc hK hDc⟩ rfl rfl hl.1 rfl (lv_room (Nat.le_of_ble_eq_true rfl)) dX4_readNode_52 ⟨Nat.le_of_ble_eq_true rfl, Nat.le_of_ble_eq_true rfl⟩) hS (fun q _ h => hFc q h) hFc (fun u t H1 locs ht hvm hw hB hz1 hk1 hS => ?_)
        obtain ⟨hP1, hD1⟩ := hB
        rw [ht] at hP1
        obtain ⟨hP, hD⟩ := va_join (wr := [(wI g rd_kindWords 0 4 kwf), (wO2 n n_nodes n_kind n_pay n_name n_ways n_held n_targets n_weights), (wI g n_kind 0 12 n_fkind), (wI g n_pay 0 12 n_fpay), (wI g n_name 0 12 n_fname), (wI g n_ways 0 12 n_fways), (wI g n_held 0 12 n_fheld), (wI g n_targets 0 36 n_ftargets), (wI g n_weights 0 36 n_fweights), (wO8 tp tp_bytes tl), (wI g tp_bytes 0 440 tf)]) (w1 := [(wO4 rd tp n rd_kindWords ww 3 otpl_72359 onx_72357 otk_72358 otpl_72359 otv_72360)]) hP hD [9] [0, 1, 2, 3, 4, 5, 6, 7, 8, 10, 11] rfl rfl (by decide) (by decide) hk1 hFc hP1 hD1
        generalize H1 = H at hP hS ⊢
        have hP : va_P D vwCl [(wI g rd_kindWords 0 4 kwf), (wO2 n n_nodes n_kind n_pay n_name n_ways n_held n_targets n_weights), (wI g n_kind 0 12 n_fkind), (wI g n_pay 0 12 n_fpay), (wI g n_name 0 12 n_fname), (wI g n_ways 0 12 n_fways), (wI g n_held 0 12 n_fheld), (wI g n_targets 0 36 n_ftargets), (wI g n_weights 0 36 n_fweights), (wO8 tp tp_bytes tl), (wI g tp_bytes 0 440 tf), (wO4 rd tp n rd_kindWords ww 3 otpl_72359 onx_72357 otk_72358 otpl_72359 otv_72360)] H := hP
        have hD : va_D A [(wI g rd_kindWords 0 4 kwf), (wO2 n n_nodes n_kind n_pay n_name n_ways n_held n_targets n_weights), (wI g n_kind 0 12 n_fkind), (wI g n_pay 0 12 n_fpay), (wI g n_name 0 12 n_fname), (wI g n_ways 0 12 n_fways), (wI g n_held 0 12 n_fheld), (wI g n_targets 0 36 n_ftargets), (wI g n_weights 0 36 n_fweights), (wO8 tp tp_bytes tl), (wI g tp_bytes 0 440 tf), (wO4 rd tp n rd_kindWords ww 3 otpl_72359 onx_72357 otk_72358 otpl_72359 otv_72360)] := hD
        refine lv_goto (tgt := 98) hx hb dX4_readNode_55 (by decide) ?_
        have hP9 := hP.sub (ws' := [(wO4 rd tp n rd_kindWords ww 3 otpl_72359 onx_72357 otk_72358 otpl_72359 otv_72360), (wO8 tp tp_bytes tl), (wI g tp_bytes 0 440 tf), (wI g rd_kindWords 0 4 kwf), (wO2 n n_nodes n_kind n_pay n_name n_ways n_held n_targets n_weights), (wI g n_kind 0 12 n_fkind), (wI g n_pay 0 12 n_fpay), (wI g n_name 0 12 n_fname), (wI g n_ways 0 12 n_fways), (wI g n_held 0 12 n_fheld), (wI g n_targets 0 36 n_ftargets), (wI g n_weights 0 36 n_fweights)]) [11, 9, 10, 0, 1, 2, 3, 4, 5, 6, 7, 8] rfl
        have hD9 := hD.sub (ws' := [(wO4 rd tp n rd_kindWords ww 3 otpl_72359 onx_72357 otk_72358 otpl_72359 otv_72360), (wO8 tp tp_bytes tl), (wI g tp_bytes 0 440 tf), (wI g rd_kindWords 0 4 kwf), (wO2 n n_nodes n_kind n_pay n_name n_ways n_held n_targets n_weights), (wI g n_kind 0 12 n_fkind), (wI g n_pay 0 12 n_fpay), (wI g n_name 0 12 n_fname), (wI g n_ways 0 12 n_fways), (wI g n_held 0 12 n_fheld), (wI g n_targets 0 36 n_ftargets), (wI g n_weights 0 36 n_fweights)]) [11, 9, 10, 0, 1, 2, 3, 4, 5, 6, 7, 8] (by decide) rfl
        exact W.vret hx hb hr (fun t ht hW => ⟨⟨(), rfl, trivial, 3, otpl_72359, onx_72357, otk_72358, otpl_72359, otv_72360, n_nodes, n_fkind, n_fpay, n_fname, n_fways, n_fheld, n_ftargets, n_fweights, (⟨by decide, by decide⟩ : 0 ≤ (3 : Int32).toInt ∧ (3 : Int32).toInt ≤ 5), (tr_w hf_72363 (by decide) (by decide)), (tr_w hf_72361 (by decide) (by decide)), (tr_w hf_72362 (by decide) (by decide)), (tr_w hf_72363 (by decide) (by decide)), (tr_w h_n_nodes (by decide) (by decide)), (tr_wa h_n_fkind (by decide) (by decide)), (tr_wa h_n_fways (by decide) (by decide)), (tr_wa h_n_fheld (by decide) (by decide)), (tr_wa h_n_ftargets (by decide) (by decide)), (fun h9 => absurd h9 (by decide)), (fun _ => nfl_twice (fun q9 => hw_72352_p1_u ((absC_full (by (first | (clear h_p0 h_fk h_fp h_nx h_tk h_tpl h_tl hww hfk hw_72352 c_72353_i h_72354 hw_72366 c_72367_i h_72368 hw_72371 c_72372_i h_72374; omega) | omega))).mpr q9)) hf_72364 hw_72366_p0_u (absC_fd hw_72371_p0) (by have z_0 := tk_0; have z_1 := tk_1; have z_2 := tk_2; have z_3 := tk_3; have z_m := tk_m1; have z_9 := tk_9; have z_4 := tk_4; (first | (clear h_p0 h_fk h_fp h_nx h_tk h_tpl h_tl hww hfk hw_72352 c_72353_i h_72354 hw_72366 c_72367_i h_72368 hw_72371 c_72372_i h_72374; omega) | omega)) (by (first | (clear h_p0 h_fk h_fp h_nx h_tk h_tpl h_tl hww hfk hw_72352 c_72353_i h_72354 hw_72366 c_72367_i h_72368 hw_72371 c_72372_i h_72374; omega) | omega))), by rw [ht]; exact hP9, hD9⟩, hS.F ht⟩) hS.2.2 dX4_readNode_98
    · skip
      have c_72367_i : (r_72365 : Int32).toInt = (0 : Int32).toInt := congrArg Int32.toInt c_72367
      have hw_72366_p1_u := (hw_72366_p1).get (c_72367_i.trans tk_0)
      have h_72369 : 0 ≤ (r_72365 : Int32).toInt ∧ (r_72365 : Int32).toInt ≤ 0 := nr_eq_l hw_72366 (⟨by decide, by decide⟩ : 0 ≤ (0 : Int32).toInt ∧ (0 : Int32).toInt ≤ 0) c_72367_i (by decide) (by decide)
      refine lv_aload_n hx hb dX4_readNode_30 rfl (lv_at hl 1 rfl) ?_
      refine lv_iconst (v := 1) hx hb dX4_readNode_31 (by decide) ?_
      have hPc := hP.sub (ws' := [(wO4 rd tp n rd_kindWords ww fk fp onx_72357 otk_72358 otpl_72359 otv_72360)]) [9] rfl
      have hDc := hD.sub (ws' := [(wO4 rd tp n rd_kindWords ww fk fp onx_72357 otk_72358 otpl_72359 otv_72360)]) [9] (by decide) rfl
      have hFc := va_free (wc := [(wO4 rd tp n rd_kindWords ww fk fp onx_72357 otk_72358 otpl_72359 otv_72360)]) hD hS hA [9] rfl
      refine va_callv (va_runV (As := [.int 1]) (rest := []) ⟨hx, hb, hml, hown, hts⟩ (c_X4_fail l D g H.size rd 1 tp n rd_kindWords ww fk fp onx_72357 otk_72358 otpl_72359 otv_72360 (⟨by decide, by decide⟩ : 0 ≤ (1 : Int32).toInt ∧ (1 : Int32).toInt ≤ 5) (tr_w h_fk (by decide) (by decide)) (tr_w h_fp (by decide) (by decide)) (tr_w hf_72361 (by decide) (by decide)) (tr_w hf_72362 (by decide) (by decide)) (tr_w hf_72363 (by decide) (by decide))) (cwV 1 hts (tz_gV qw_414 qw_415 qw_416 qw_384 qw_417) rfl rfl rfl (by decide +kernel) ⟨Nat.le_of_ble_eq_true rfl, Nat.le_of_ble_eq_true rfl⟩) ⟨tz_blQ, va_recv hK hPc (ci := 4) (q0 := 0) rfl rfl, tz_preQ hPc hK hDc⟩ rfl rfl hl.1 rfl (lv_room (Nat.le_of_ble_eq_true rfl)) dX4_readNode_32 ⟨Nat.le_of_ble_eq_true rfl, Nat.le_of_ble_eq_true rfl⟩) hS (fun q _ h => hFc q h) hFc (fun u t H1 locs ht hvm hw hB hz1 hk1 hS => ?_)
      obtain ⟨hP1, hD1⟩ := hB
      rw [ht] at hP1
      obtain ⟨hP, hD⟩ := va_join (wr := [(wI g rd_kindWords 0 4 kwf), (wO2 n n_nodes n_kind n_pay n_name n_ways n_held n_targets n_weights), (wI g n_kind 0 12 n_fkind), (wI g n_pay 0 12 n_fpay), (wI g n_name 0 12 n_fname), (wI g n_ways 0 12 n_fways), (wI g n_held 0 12 n_fheld), (wI g n_targets 0 36 n_ftargets), (wI g n_weights 0 36 n_fweights), (wO8 tp tp_bytes tl), (wI g tp_bytes 0 440 tf)]) (w1 := [(wO4 rd tp n rd_kindWords ww 1 otpl_72359 onx_72357 otk_72358 otpl_72359 otv_72360)]) hP hD [9] [0, 1, 2, 3, 4, 5, 6, 7, 8, 10, 11] rfl rfl (by decide) (by decide) hk1 hFc hP1 hD1
      generalize H1 = H at hP hS ⊢
      have hP : va_P D vwCl [(wI g rd_kindWords 0 4 kwf), (wO2 n n_nodes n_kind n_pay n_name n_ways n_held n_targets n_weights), (wI g n_kind 0 12 n_fkind), (wI g n_pay 0 12 n_fpay), (wI g n_name 0 12 n_fname), (wI g n_ways 0 12 n_fways), (wI g n_held 0 12 n_fheld), (wI g n_targets 0 36 n_ftargets), (wI g n_weights 0 36 n_fweights), (wO8 tp tp_bytes tl), (wI g tp_bytes 0 440 tf), (wO4 rd tp n rd_kindWords ww 1 otpl_72359 onx_72357 otk_72358 otpl_72359 otv_72360)] H := hP
      have hD : va_D A [(wI g rd_kindWords 0 4 kwf), (wO2 n n_nodes n_kind n_pay n_name n_ways n_held n_targets n_weights), (wI g n_kind 0 12 n_fkind), (wI g n_pay 0 12 n_fpay), (wI g n_name 0 12 n_fname), (wI g n_ways 0 12 n_fways), (wI g n_held 0 12 n_fheld), (wI g n_targets 0 36 n_ftargets), (wI g n_weights 0 36 n_fweights), (wO8 tp tp_bytes tl), (wI g tp_bytes 0 440 tf), (wO4 rd tp n rd_kindWords ww 1 otpl_72359 onx_72357 otk_72358 otpl_72359 otv_72360)] := hD
      refine lv_goto (tgt := 98) hx hb dX4_readNode_35 (by decide) ?_
      have hP9 := hP.sub (ws' := [(wO4 rd tp n rd_kindWords ww 1 otpl_72359 onx_72357 otk_72358 otpl_72359 otv_72360), (wO8 tp tp_bytes tl), (wI g tp_bytes 0 440 tf), (wI g rd_kindWords 0 4 kwf), (wO2 n n_nodes n_kind n_pay n_name n_ways n_held n_targets n_weights), (wI g n_kind 0 12 n_fkind), (wI g n_pay 0 12 n_fpay), (wI g n_name 0 12 n_fname), (wI g n_ways 0 12 n_fways), (wI g n_held 0 12 n_fheld), (wI g n_targets 0 36 n_ftargets), (wI g n_weights 0 36 n_fweights)]) [11, 9, 10, 0, 1, 2, 3, 4, 5, 6, 7, 8] rfl
      have hD9 := hD.sub (ws' := [(wO4 rd tp n rd_kindWords ww 1 otpl_72359 onx_72357 otk_72358 otpl_72359 otv_72360), (wO8 tp tp_bytes tl), (wI g tp_bytes 0 440 tf), (wI g rd_kindWords 0 4 kwf), (wO2 n n_nodes n_kind n_pay n_name n_ways n_held n_targets n_weights), (wI g n_kind 0 12 n_fkind), (wI g n_pay 0 12 n_fpay), (wI g n_name 0 12 n_fname), (wI g n_ways 0 12 n_fways), (wI g n_held 0 12 n_fheld), (wI g n_targets 0 36 n_ftargets), (wI g n_weights 0 36 n_fweights)]) [11, 9, 10, 0, 1, 2, 3, 4, 5, 6, 7, 8] (by decide) rfl
      exact W.vret hx hb hr (fun t ht hW => ⟨⟨(), rfl, trivial, 1, otpl_72359, onx_72357, otk_72358, otpl_72359, otv_72360, n_nodes, n_fkind, n_fpay, n_fname, n_fways, n_fheld, n_ftargets, n_fweights, (⟨by decide, by decide⟩ : 0 ≤ (1 : Int32).toInt ∧ (1 : Int32).toInt ≤ 5), (tr_w hf_72363 (by decide) (by decide)), (tr_w hf_72361 (by decide) (by decide)), (tr_w hf_72362 (by decide) (by decide)), (tr_w hf_72363 (by decide) (by decide)), (tr_w h_n_nodes (by decide) (by decide)), (tr_wa h_n_fkind (by decide) (by decide)), (tr_wa h_n_fways (by decide) (by decide)), (tr_wa h_n_fheld (by decide) (by decide)), (tr_wa h_n_ftargets (by decide) (by decide)), (fun h9 => absurd h9 (by decide)), (fun _ => nfl_name (fun q9 => hw_72352_p1_u ((absC_full (by (first | (clear h_p0 h_fk h_fp h_nx h_tk h_tpl h_tl hww hfk hw_72352 c_72353_i h_72354 hw_72366 c_72367_i h_72369; omega) | omega))).mpr q9)) hf_72364 hw_72366_p1_u (by (first | (clear h_p0 h_fk h_fp h_nx h_tk h_tpl h_tl hww hfk hw_72352 c_72353_i h_72354 hw_72366 c_72367_i h_72369; omega) | omega))), by rw [ht]; exact hP9, hD9⟩, hS.F ht⟩) hS.2.2 dX4_readNode_98
  · skip
    have kk_0 := tk_0
    have c_72353_i : ¬ (r_72351 : Int32).toInt = (0 : Int32).toInt := (fun q => c_72353 (Int32.toInt_inj.mp q))
    have hw_72352_p0_u := (hw_72352_p0).get (fun q => c_72353_i (q.trans tk_0.symm))
    have h_72355 : 1 ≤ (r_72351 : Int32).toInt ∧ (r_72351 : Int32).toInt ≤ 1 := nr_ne_l hw_72352 (⟨by decide, by decide⟩ : 0 ≤ (0 : Int32).toInt ∧ (0 : Int32).toInt ≤ 0) c_72353_i (by decide) (by decide)
    refine lv_aload_n hx hb dX4_readNode_8 rfl (lv_at hl 0 rfl) ?_
    refine lv_iconst (v := 4) hx hb dX4_readNode_9 (by decide) ?_
    have hPc := hP.sub (ws' := [(wO4 rd tp n rd_kindWords ww fk fp nx tk tpl tv)]) [0] rfl
    have hDc := hD.sub (ws' := [(wO4 rd tp n rd_kindWords ww fk fp nx tk tpl tv)]) [0] (by decide) rfl
    have hFc := va_free (wc := [(wO4 rd tp n rd_kindWords ww fk fp nx tk tpl tv)]) hD hS hA [0] rfl
    refine va_callv (va_runV (As := [.int 4]) (rest := []) ⟨hx, hb, hml, hown, hts⟩ (c_X4_fail l D g s.heap.size rd 4 tp n rd_kindWords ww fk fp nx tk tpl tv (⟨by decide, by decide⟩ : 0 ≤ (4 : Int32).toInt ∧ (4 : Int32).toInt ≤ 5) (tr_w h_fk (by decide) (by decide)) (tr_w h_fp (by decide) (by decide)) (tr_w h_nx (by decide) (by decide)) (tr_w h_tk (by decide) (by decide)) (tr_w h_tpl (by decide) (by decide))) (cwV 1 hts (tz_gV qw_414 qw_415 qw_416 qw_384 qw_417) rfl rfl rfl (by decide +kernel) ⟨Nat.le_of_ble_eq_true rfl, Nat.le_of_ble_eq_true rfl⟩) ⟨tz_blQ, va_recv hK hPc (ci := 4) (q0 := 0) rfl rfl, tz_preQ hPc hK hDc⟩ rfl rfl hl.1 rfl (lv_room (Nat.le_of_ble_eq_true rfl)) dX4_readNode_10 ⟨Nat.le_of_ble_eq_true rfl, Nat.le_of_ble_eq_true rfl⟩) hS (fun q _ h => hFc q h) hFc (fun u t H1 locs ht hvm hw hB hz1 hk1 hS => ?_)
    obtain ⟨hP1, hD1⟩ := hB
    rw [ht] at hP1
    obtain ⟨hP, hD⟩ := va_join (wr := [(wO8 tp tp_bytes tl), (wI g tp_bytes 0 440 tf), (wI g rd_kindWords 0 4 kwf), (wO2 n n_nodes n_kind n_pay n_name n_ways n_held n_targets n_weights), (wI g n_kind 0 12 n_fkind), (wI g n_pay 0 12 n_fpay), (wI g n_name 0 12 n_fname), (wI g n_ways 0 12 n_fways), (wI g n_held 0 12 n_fheld), (wI g n_targets 0 36 n_ftargets), (wI g n_weights 0 36 n_fweights)]) (w1 := [(wO4 rd tp n rd_kindWords ww 4 tpl nx tk tpl tv)]) hP hD [0] [1, 2, 3, 4, 5, 6, 7, 8, 9, 10, 11] rfl rfl (by decide) (by decide) hk1 hFc hP1 hD1
    generalize H1 = H at hP hS ⊢
    have hP : va_P D vwCl [(wO8 tp tp_bytes tl), (wI g tp_bytes 0 440 tf), (wI g rd_kindWords 0 4 kwf), (wO2 n n_nodes n_kind n_pay n_name n_ways n_held n_targets n_weights), (wI g n_kind 0 12 n_fkind), (wI g n_pay 0 12 n_fpay), (wI g n_name 0 12 n_fname), (wI g n_ways 0 12 n_fways), (wI g n_held 0 12 n_fheld), (wI g n_targets 0 36 n_ftargets), (wI g n_weights 0 36 n_fweights), (wO4 rd tp n rd_kindWords ww 4 tpl nx tk tpl tv)] H := hP
    have hD : va_D A [(wO8 tp tp_bytes tl), (wI g tp_bytes 0 440 tf), (wI g rd_kindWords 0 4 kwf), (wO2 n n_nodes n_kind n_pay n_name n_ways n_held n_targets n_weights), (wI g n_kind 0 12 n_fkind), (wI g n_pay 0 12 n_fpay), (wI g n_name 0 12 n_fname), (wI g n_ways 0 12 n_fways), (wI g n_held 0 12 n_fheld), (wI g n_targets 0 36 n_ftargets), (wI g n_weights 0 36 n_fweights), (wO4 rd tp n rd_kindWords ww 4 tpl nx tk tpl tv)] := hD
    have hP9 := hP.sub (ws' := [(wO4 rd tp n rd_kindWords ww 4 tpl nx tk tpl tv), (wO8 tp tp_bytes tl), (wI g tp_bytes 0 440 tf), (wI g rd_kindWords 0 4 kwf), (wO2 n n_nodes n_kind n_pay n_name n_ways n_held n_targets n_weights), (wI g n_kind 0 12 n_fkind), (wI g n_pay 0 12 n_fpay), (wI g n_name 0 12 n_fname), (wI g n_ways 0 12 n_fways), (wI g n_held 0 12 n_fheld), (wI g n_targets 0 36 n_ftargets), (wI g n_weights 0 36 n_fweights)]) [11, 0, 1, 2, 3, 4, 5, 6, 7, 8, 9, 10] rfl
    have hD9 := hD.sub (ws' := [(wO4 rd tp n rd_kindWords ww 4 tpl nx tk tpl tv), (wO8 tp tp_bytes tl), (wI g tp_bytes 0 440 tf), (wI g rd_kindWords 0 4 kwf), (wO2 n n_nodes n_kind n_pay n_name n_ways n_held n_targets n_weights), (wI g n_kind 0 12 n_fkind), (wI g n_pay 0 12 n_fpay), (wI g n_name 0 12 n_fname), (wI g n_ways 0 12 n_fways), (wI g n_held 0 12 n_fheld), (wI g n_targets 0 36 n_ftargets), (wI g n_weights 0 36 n_fweights)]) [11, 0, 1, 2, 3, 4, 5, 6, 7, 8, 9, 10] (by decide) rfl
    exact W.vret hx hb hr (fun t ht hW => ⟨⟨(), rfl, trivial, 4, tpl, nx, tk, tpl, tv, n_nodes, n_fkind, n_fpay, n_fname, n_fways, n_fheld, n_ftargets, n_fweights, (⟨by decide, by decide⟩ : 0 ≤ (4 : Int32).toInt ∧ (4 : Int32).toInt ≤ 5), (tr_w h_tpl (by decide) (by decide)), (tr_w h_nx (by decide) (by decide)), (tr_w h_tk (by decide) (by decide)), (tr_w h_tpl (by decide) (by decide)), (tr_w h_n_nodes (by decide) (by decide)), (tr_wa h_n_fkind (by decide) (by decide)), (tr_wa h_n_fways (by decide) (by decide)), (tr_wa h_n_fheld (by decide) (by decide)), (tr_wa h_n_ftargets (by decide) (by decide)), (fun h9 => absurd h9 (by decide)), (fun _ => nfl_full ((absC_full (by (first | (clear h_p0 h_fk h_fp h_tl hww hfk hw_72352 c_72353_i h_72355; omega) | omega))).mp hw_72352_p0_u) (by (first | (clear h_p0 h_fk h_fp h_tl hww hfk hw_72352 c_72353_i h_72355; omega) | omega))), by rw [ht]; exact hP9, hD9⟩, hS.F ht⟩) hS.2.2 dX4_readNode_13
set_option maxHeartbeats 4000000 in
set_option maxRecDepth 100000 in
theorem c_X4_readStart (l : Launch) (D : va_G) (g : Nat → ClassId) (sz : Nat) (rd : Nat) (tp : Nat) (n : Nat) (rd_kindWords : Nat) (ww : Int32) (fk : Int32) (fp : Int32) (nx : Int32) (tk : Int32) (tpl : Int32) (tv : Int32) (tp_bytes : Nat) (tl : Int32) (tf : Nat → Int32) (kwf : Nat → Int32) (n_nodes : Int32) (n_kind : Nat) (n_pay : Nat) (n_name : Nat) (n_ways : Nat) (n_held : Nat) (n_targets : Nat) (n_weights : Nat) (n_fkind : Nat → Int32) (n_fpay : Nat → Int32) (n_fname : Nat → Int32) (n_fways : Nat → Int32) (n_fheld : Nat → Int32) (n_ftargets : Nat → Int32) (n_fweights : Nat → Int32) (h_fk : 0 ≤ (fk : Int32).toInt ∧ (fk : Int32).toInt ≤ 5) (h_fp : 0 ≤ (fp : Int32).toInt ∧ (fp : Int32).toInt ≤ 440) (h_nx : 0 ≤ (nx : Int32).toInt ∧ (nx : Int32).toInt ≤ 440) (h_tk : 0 ≤ (tk : Int32).toInt ∧ (tk : Int32).toInt ≤ 4) (h_tpl : 0 ≤ (tpl : Int32).toInt ∧ (tpl : Int32).toInt ≤ 440) (h_tl : 0 ≤ (tl : Int32).toInt ∧ (tl : Int32).toInt ≤ 440) (h_tf : ∀ j : Nat, 0 ≤ (tf j).toInt ∧ (tf j).toInt ≤ 255) (h_n_nodes : 0 ≤ (n_nodes : Int32).toInt ∧ (n_nodes : Int32).toInt ≤ 12) (h_n_fkind : ∀ j : Nat, 0 ≤ (n_fkind j).toInt ∧ (n_fkind j).toInt ≤ 3) (h_n_fways : ∀ j : Nat, 0 ≤ (n_fways j).toInt ∧ (n_fways j).toInt ≤ 3) (h_n_fheld : ∀ j : Nat, (-1) ≤ (n_fheld j).toInt ∧ (n_fheld j).toInt ≤ 2) (h_n_ftargets : ∀ j : Nat, 0 ≤ (n_ftargets j).toInt ∧ (n_ftargets j).toInt ≤ 11) (hkw : KWs kwf) (hww : (ww : Int32).toInt = 16819) (hfk : (fk : Int32).toInt = 0) : Met l yX4_readStart (.code yX4_readStart cX4_readStart 2 (some .int) :: wsL_law) ({ frames := 3, cells := 0, slots := 0, locals := 63 }) (va_Pc [.ref rd] (fun U => U.heap.size = sz ∧ va_P D vwCl [(wO4 rd tp n rd_kindWords ww fk fp nx tk tpl tv), (wO8 tp tp_bytes tl), (wI g tp_bytes 0 440 tf), (wI g rd_kindWords 0 4 kwf), (wO2 n n_nodes n_kind n_pay n_name n_ways n_held n_targets n_weights), (wI g n_kind 0 12 n_fkind), (wI g n_pay 0 12 n_fpay), (wI g n_name 0 12 n_fname), (wI g n_ways 0 12 n_fways), (wI g n_held 0 12 n_fheld), (wI g n_targets 0 36 n_ftargets), (wI g n_weights 0 36 n_fweights)] U.heap ∧ va_K D vwCl (TY g) U ∧ va_D (fun _ => True) [(wO4 rd tp n rd_kindWords ww fk fp nx tk tpl tv), (wO8 tp tp_bytes tl), (wI g tp_bytes 0 440 tf), (wI g rd_kindWords 0 4 kwf), (wO2 n n_nodes n_kind n_pay n_name n_ways n_held n_targets n_weights), (wI g n_kind 0 12 n_fkind), (wI g n_pay 0 12 n_fpay), (wI g n_name 0 12 n_fname), (wI g n_ways 0 12 n_fways), (wI g n_held 0 12 n_fheld), (wI g n_targets 0 36 n_ftargets), (wI g n_weights 0 36 n_fweights)])) (va_Qi (fun (r u : Int32) => u = r ∧ ((-1) ≤ (r : Int32).toInt ∧ (r : Int32).toInt ≤ 11)) (fun r t => ∃ ofk : Int32, ∃ ofp : Int32, ∃ onx : Int32, ∃ otk : Int32, ∃ otpl : Int32, ∃ otv : Int32, (0 ≤ (ofk : Int32).toInt ∧ (ofk : Int32).toInt ≤ 5) ∧ (0 ≤ (ofp : Int32).toInt ∧ (ofp : Int32).toInt ≤ 440) ∧ (0 ≤ (onx : Int32).toInt ∧ (onx : Int32).toInt ≤ 440) ∧ (0 ≤ (otk : Int32).toInt ∧ (otk : Int32).toInt ≤ 4) ∧ (0 ≤ (otpl : Int32).toInt ∧ (otpl : Int32).toInt ≤ 440) ∧ (Hide ((ofk : Int32).toInt = 0 → 0 ≤ (r : Int32).toInt ∧ WS1 (bg tf (tl : Int32).toInt) (nx : Int32).toInt.toNat (absC n_nodes n_fkind n_fpay n_fname n_fways n_fheld n_ftargets n_fweights) (r : Int32).toInt (otk : Int32).toInt (otpl : Int32).toInt.toNat (onx : Int32).toInt.toNat (otv : Int32).toInt)) ∧ (Hide (¬ (ofk : Int32).toInt = 0 → (r : Int32).toInt = -1 ∧ WFl (bg tf (tl : Int32).toInt) (nx : Int32).toInt.toNat (absC n_nodes n_fkind n_fpay n_fname n_fways n_fheld n_ftargets n_fweights) (ofp : Int32).toInt)) ∧ va_P D vwCl [(wO4 rd tp n rd_kindWords ww ofk ofp onx otk otpl otv), (wO8 tp tp_bytes tl), (wI g tp_bytes 0 440 tf), (wI g rd_kindWords 0 4 kwf), (wO2 n n_nodes n_kind n_pay n_name n_ways n_held n_targets n_weights), (wI g n_kind 0 12 n_fkind), (wI g n_pay 0 12 n_fpay), (wI g n_name 0 12 n_fname), (wI g n_ways 0 12 n_fways), (wI g n_held 0 12 n_fheld), (wI g n_targets 0 36 n_ftargets), (wI g n_weights 0 36 n_fweights)] t.heap ∧ va_D (va_A [(wO4 rd tp n rd_kindWords ww fk fp nx tk tpl tv), (wO8 tp tp_bytes tl), (wI g tp_bytes 0 440 tf), (wI g rd_kindWords 0 4 kwf), (wO2 n n_nodes n_kind n_pay n_name n_ways n_held n_targets n_weights), (wI g n_kind 0 12 n_fkind), (wI g n_pay 0 12 n_fpay), (wI g n_name 0 12 n_fname), (wI g n_ways 0 12 n_fways), (wI g n_held 0 12 n_fheld), (wI g n_targets 0 36 n_ftargets), (wI g n_weights 0 36 n_fweights)] sz) [(wO4 rd tp n rd_kindWords ww ofk ofp onx otk otpl otv), (wO8 tp tp_bytes tl), (wI g tp_bytes 0 440 tf), (wI g rd_kindWords 0 4 kwf), (wO2 n n_nodes n_kind n_pay n_name n_ways n_held n_targets n_weights), (wI g n_kind 0 12 n_fkind), (wI g n_pay 0 12 n_fpay), (wI g n_name 0 12 n_fname), (wI g n_ways 0 12 n_fways), (wI g n_held 0 12 n_fheld), (wI g n_targets 0 36 n_ftargets), (wI g n_weights 0 36 n_fweights)]) (va_A [(wO4 rd tp n rd_kindWords ww fk fp nx tk tpl tv), (wO8 tp tp_bytes tl), (wI g tp_bytes 0 440 tf), (wI g rd_kindWords 0 4 kwf), (wO2 n n_nodes n_kind n_pay n_name n_ways n_held n_targets n_weights), (wI g n_kind 0 12 n_fkind), (wI g n_pay 0 12 n_fpay), (wI g n_name 0 12 n_fname), (wI g n_ways 0 12 n_fways), (wI g n_held 0 12 n_fheld), (wI g n_targets 0 36 n_ftargets), (wI g n_weights 0 36 n_fweights)] sz)) 0 0 (va_A [(wO4 rd tp n rd_kindWords ww fk fp nx tk tpl tv), (wO8 tp tp_bytes tl), (wI g tp_bytes 0 440 tf), (wI g rd_kindWords 0 4 kwf), (wO2 n n_nodes n_kind n_pay n_name n_ways n_held n_targets n_weights), (wI g n_kind 0 12 n_fkind), (wI g n_pay 0 12 n_fpay), (wI g n_name 0 12 n_fname), (wI g n_ways 0 12 n_fways), (wI g n_held 0 12 n_fheld), (wI g n_targets 0 36 n_ftargets), (wI g n_weights 0 36 n_fweights)] sz) := by
  refine Met.ofW (cc := cX4_readStart) (maxL := 2) (ret := (some .int)) (by decide) rfl ?_
  intro p e s m args below meth c s₁ B hml hv
  obtain ⟨ha, hsz, hP, hK, hD0⟩ := hv
  have hx := B.exec
  have hb := B.bytes
  have hr := B.returns
  have hts0 := atoms_spec (ws := (.code yX4_readStart cX4_readStart 2 (some .int) :: wsL_law)) B.pre
  have hts : ∀ w ∈ wsL_law, w.before args s = true := fun w h => hts0 w (List.mem_cons_of_mem _ h)
  have hown : s.vm.findClass RX4 = some m.cls := findClass_of_methodNamed B.named
  have hlocks := B.notSynchronized
  subst hsz
  have hD := hD0.self (sz := s.heap.size)
  generalize hAe : va_A [(wO4 rd tp n rd_kindWords ww fk fp nx tk tpl tv), (wO8 tp tp_bytes tl), (wI g tp_bytes 0 440 tf), (wI g rd_kindWords 0 4 kwf), (wO2 n n_nodes n_kind n_pay n_name n_ways n_held n_targets n_weights), (wI g n_kind 0 12 n_fkind), (wI g n_pay 0 12 n_fpay), (wI g n_name 0 12 n_fname), (wI g n_ways 0 12 n_fways), (wI g n_held 0 12 n_fheld), (wI g n_targets 0 36 n_ftargets), (wI g n_weights 0 36 n_fweights)] s.heap.size = A at hD ⊢
  have hA : ∀ q : Nat, s.heap.size ≤ q → A q := fun q h => by rw [← hAe]; exact Or.inr h
  have hS : va_S A s.heap s.heap [] := va_S.rf
  have hP : va_P D vwCl [(wO4 rd tp n rd_kindWords ww fk fp nx tk tpl tv), (wO8 tp tp_bytes tl), (wI g tp_bytes 0 440 tf), (wI g rd_kindWords 0 4 kwf), (wO2 n n_nodes n_kind n_pay n_name n_ways n_held n_targets n_weights), (wI g n_kind 0 12 n_fkind), (wI g n_pay 0 12 n_fpay), (wI g n_name 0 12 n_fname), (wI g n_ways 0 12 n_fways), (wI g n_held 0 12 n_fheld), (wI g n_targets 0 36 n_ftargets), (wI g n_weights 0 36 n_fweights)] s.heap := hP
  refine W.eq (g2 := entryFrame m ([.ref rd] : List Value).toArray 2) (by rw [ha]) ?_
  have hl := lv_entry ([.ref rd]) (n := 2) (Nat.le_of_ble_eq_true rfl)
  rw [lg_entry_eq]
  generalize (lg_sl ([.ref rd]) ++ List.replicate (2 - (lg_sl ([.ref rd])).length) Slot.unset).toArray = ls at hl ⊢
  have hl : lv_has ls 2 [(0, .ref rd)] := hl
  have h_72448 : 0 ≤ (fk : Int32).toInt ∧ (fk : Int32).toInt ≤ 0 := by (first | (clear h_fp h_nx h_tk h_tpl h_tl h_n_nodes hww; omega) | omega)
  refine lv_aload_n hx hb dX4_readStart_0 rfl (lv_at hl 0 rfl) ?_
  have hPc := hP.sub (ws' := [(wO4 rd tp n rd_kindWords ww fk fp nx tk tpl tv), (wO8 tp tp_bytes tl), (wI g tp_bytes 0 440 tf)]) [0, 1, 2] rfl
  have hDc := hD.sub (ws' := [(wO4 rd tp n rd_kindWords ww fk fp nx tk tpl tv), (wO8 tp tp_bytes tl), (wI g tp_bytes 0 440 tf)]) [0, 1, 2] (by decide) rfl
  have hFc := va_free (wc := [(wO4 rd tp n rd_kindWords ww fk fp nx tk tpl tv), (wO8 tp tp_bytes tl), (wI g tp_bytes 0 440 tf)]) hD hS hA [0, 1, 2] rfl
  refine va_callv (va_runV (As := []) (rest := []) ⟨hx, hb, hml, hown, hts⟩ (c_X4_advance l D g s.heap.size rd tp n rd_kindWords ww fk fp nx tk tpl tv tp_bytes tl tf (tr_w h_72448 (by decide) (by decide)) (tr_w h_fp (by decide) (by decide)) (tr_w h_nx (by decide) (by decide)) (tr_w h_tk (by decide) (by decide)) (tr_w h_tpl (by decide) (by decide)) (tr_w h_tl (by decide) (by decide)) (tr_wa h_tf (by decide) (by decide))) (cwV 0 hts (tz_gV qw_422 qw_423 qw_424 qw_384 qw_425) rfl rfl rfl (by decide +kernel) ⟨Nat.le_of_ble_eq_true rfl, Nat.le_of_ble_eq_true rfl⟩) ⟨tz_blQ, va_recv hK hPc (ci := 4) (q0 := 0) rfl rfl, tz_preQ hPc hK hDc⟩ rfl rfl hl.1 rfl (lv_room (Nat.le_of_ble_eq_true rfl)) dX4_readStart_1 ⟨Nat.le_of_ble_eq_true rfl, Nat.le_of_ble_eq_true rfl⟩) hS (fun q _ h => hFc q h) hFc (fun u t H1 locs ht hvm hw hB hz1 hk1 hS => ?_)
  obtain ⟨onx_72450, otk_72451, otpl_72452, otv_72453, hf_72454, hf_72455, hf_72456, hf_72457, hP1, hD1⟩ := hB
  rw [ht] at hP1
  obtain ⟨hP, hD⟩ := va_join (wr := [(wI g rd_kindWords 0 4 kwf), (wO2 n n_nodes n_kind n_pay n_name n_ways n_held n_targets n_weights), (wI g n_kind 0 12 n_fkind), (wI g n_pay 0 12 n_fpay), (wI g n_name 0 12 n_fname), (wI g n_ways 0 12 n_fways), (wI g n_held 0 12 n_fheld), (wI g n_targets 0 36 n_ftargets), (wI g n_weights 0 36 n_fweights)]) (w1 := [(wO4 rd tp n rd_kindWords ww fk fp onx_72450 otk_72451 otpl_72452 otv_72453), (wO8 tp tp_bytes tl), (wI g tp_bytes 0 440 tf)]) hP hD [0, 1, 2] [3, 4, 5, 6, 7, 8, 9, 10, 11] rfl rfl (by decide) (by decide) hk1 hFc hP1 hD1
  generalize H1 = H at hP hS ⊢
  have hP : va_P D vwCl [(wI g rd_kindWords 0 4 kwf), (wO2 n n_nodes n_kind n_pay n_name n_ways n_held n_targets n_weights), (wI g n_kind 0 12 n_fkind), (wI g n_pay 0 12 n_fpay), (wI g n_name 0 12 n_fname), (wI g n_ways 0 12 n_fways), (wI g n_held 0 12 n_fheld), (wI g n_targets 0 36 n_ftargets), (wI g n_weights 0 36 n_fweights), (wO4 rd tp n rd_kindWords ww fk fp onx_72450 otk_72451 otpl_72452 otv_72453), (wO8 tp tp_bytes tl), (wI g tp_bytes 0 440 tf)] H := hP
  have hD : va_D A [(wI g rd_kindWords 0 4 kwf), (wO2 n n_nodes n_kind n_pay n_name n_ways n_held n_targets n_weights), (wI g n_kind 0 12 n_fkind), (wI g n_pay 0 12 n_fpay), (wI g n_name 0 12 n_fname), (wI g n_ways 0 12 n_fways), (wI g n_held 0 12 n_fheld), (wI g n_targets 0 36 n_ftargets), (wI g n_weights 0 36 n_fweights), (wO4 rd tp n rd_kindWords ww fk fp onx_72450 otk_72451 otpl_72452 otv_72453), (wO8 tp tp_bytes tl), (wI g tp_bytes 0 440 tf)] := hD
  refine lv_aload_n hx hb dX4_readStart_4 rfl (lv_at hl 0 rfl) ?_
  have hPc := hP.sub (ws' := [(wO4 rd tp n rd_kindWords ww fk fp onx_72450 otk_72451 otpl_72452 otv_72453), (wI g rd_kindWords 0 4 kwf)]) [9, 0] rfl
  refine vp_callSi (va_Run.run (va_runV (As := []) (rest := []) ⟨hx, hb, hml, hown, hts⟩ (c_X4_isName l D g rd tp n rd_kindWords ww fk fp onx_72450 otk_72451 otpl_72452 otv_72453 kwf (tr_w h_72448 (by decide) (by decide)) (tr_w h_fp (by decide) (by decide)) (tr_w hf_72454 (by decide) (by decide)) (tr_w hf_72455 (by decide) (by decide)) (tr_w hf_72456 (by decide) (by decide)) hkw hww) (cwV 0 hts (tz_gV qw_426 qw_427 qw_428 qw_384 qw_429) rfl rfl rfl (by decide +kernel) ⟨Nat.le_of_ble_eq_true rfl, Nat.le_of_ble_eq_true rfl⟩) ⟨tz_blS, va_recv hK hPc (ci := 4) (q0 := 0) rfl rfl, tz_preS hPc hK⟩ rfl rfl hl.1 rfl (lv_room (Nat.le_of_ble_eq_true rfl)) dX4_readStart_5 ⟨Nat.le_of_ble_eq_true rfl, Nat.le_of_ble_eq_true rfl⟩)) (fun r_72458 hw => ?_)
  have hw_72459 : 0 ≤ (r_72458 : Int32).toInt ∧ (r_72458 : Int32).toInt ≤ 1 := hw.1
  have hw_72459_p0 : Hide (¬ (r_72458 : Int32).toInt = 0 → NMC (otk_72451 : Int32).toInt (otv_72453 : Int32).toInt) := hw.2.1
  have hw_72459_p1 : Hide ((r_72458 : Int32).toInt = 0 → ¬ NMC (otk_72451 : Int32).toInt (otv_72453 : Int32).toInt) := hw.2.2
  refine lv_if_eq (tgt := 25) hx hb dX4_readStart_8 (by decide) (fun c_72460 => ?_) (fun c_72460 => ?_)
  · skip
    have kk_0 := tk_0
    have c_72460_i : (r_72458 : Int32).toInt = (0 : Int32).toInt := congrArg Int32.toInt c_72460
    have hw_72459_p1_u := (hw_72459_p1).get (c_72460_i.trans tk_0)
    have h_72461 : 0 ≤ (r_72458 : Int32).toInt ∧ (r_72458 : Int32).toInt ≤ 0 := nr_eq_l hw_72459 (⟨by decide, by decide⟩ : 0 ≤ (0 : Int32).toInt ∧ (0 : Int32).toInt ≤ 0) c_72460_i (by decide) (by decide)
    refine lv_iconst (v := (-1)) hx hb dX4_readStart_25 (by decide) ?_
    refine lv_istore_n (lv' := [(1, .int (-1)), (0, .ref rd)]) hx hb dX4_readStart_26 rfl hl (by decide) rfl (fun ls hl => ?_)
    refine lv_aload_n hx hb dX4_readStart_27 rfl (lv_at hl 1 rfl) ?_
    have hPc := hP.sub (ws' := [(wO4 rd tp n rd_kindWords ww fk fp onx_72450 otk_72451 otpl_72452 otv_72453), (wI g rd_kindWords 0 4 kwf)]) [9, 0] rfl
    refine vp_callSi (va_Run.run (va_runV (As := []) (rest := []) ⟨hx, hb, hml, hown, hts⟩ (c_X4_isName l D g rd tp n rd_kindWords ww fk fp onx_72450 otk_72451 otpl_72452 otv_72453 kwf (tr_w h_72448 (by decide) (by decide)) (tr_w h_fp (by decide) (by decide)) (tr_w hf_72454 (by decide) (by decide)) (tr_w hf_72455 (by decide) (by decide)) (tr_w hf_72456 (by decide) (by decide)) hkw hww) (cwV 0 hts (tz_gV qw_426 qw_427 qw_428 qw_384 qw_429) rfl rfl rfl (by decide +kernel) ⟨Nat.le_of_ble_eq_true rfl, Nat.le_of_ble_eq_true rfl⟩) ⟨tz_blS, va_recv hK hPc (ci := 4) (q0 := 0) rfl rfl, tz_preS hPc hK⟩ rfl rfl hl.1 rfl (lv_room (Nat.le_of_ble_eq_true rfl)) dX4_readStart_28 ⟨Nat.le_of_ble_eq_true rfl, Nat.le_of_ble_eq_true rfl⟩)) (fun r_72463 hw => ?_)
    have hw_72464 : 0 ≤ (r_72463 : Int32).toInt ∧ (r_72463 : Int32).toInt ≤ 1 := hw.1
    have hw_72464_p0 : Hide (¬ (r_72463 : Int32).toInt = 0 → NMC (otk_72451 : Int32).toInt (otv_72453 : Int32).toInt) := hw.2.1
    have hw_72464_p1 : Hide ((r_72463 : Int32).toInt = 0 → ¬ NMC (otk_72451 : Int32).toInt (otv_72453 : Int32).toInt) := hw.2.2
    refine lv_if_ne (tgt := 42) hx hb dX4_readStart_31 (by decide) (fun c_72465 => ?_) (fun c_72465 => ?_)
    · skip
      have c_72465_i : ¬ (r_72463 : Int32).toInt = (0 : Int32).toInt := (fun q => c_72465 (Int32.toInt_inj.mp q))
      have hw_72464_p0_u := (hw_72464_p0).get (fun q => c_72465_i (q.trans tk_0.symm))
      have h_72466 : 1 ≤ (r_72463 : Int32).toInt ∧ (r_72463 : Int32).toInt ≤ 1 := nr_ne_l hw_72464 (⟨by decide, by decide⟩ : 0 ≤ (0 : Int32).toInt ∧ (0 : Int32).toInt ≤ 0) c_72465_i (by decide) (by decide)
      refine lv_iload_n hx hb dX4_readStart_42 rfl (lv_at hl 0 rfl) ?_
      refine lv_iconst (v := (-1)) hx hb dX4_readStart_43 (by decide) ?_
      refine lv_icmp_eq (tgt := 59) hx hb dX4_readStart_44 (by decide) (fun _ => ?_) (fun h9 => (h9 (by decide)).elim)
      refine lv_aload_n hx hb dX4_readStart_59 rfl (lv_at hl 1 rfl) ?_
      refine lv_iconst (v := 3) hx hb dX4_readStart_60 (by decide) ?_
      have hPc := hP.sub (ws' := [(wO4 rd tp n rd_kindWords ww fk fp onx_72450 otk_72451 otpl_72452 otv_72453)]) [9] rfl
      have hDc := hD.sub (ws' := [(wO4 rd tp n rd_kindWords ww fk fp onx_72450 otk_72451 otpl_72452 otv_72453)]) [9] (by decide) rfl
      have hFc := va_free (wc := [(wO4 rd tp n rd_kindWords ww fk fp onx_72450 otk_72451 otpl_72452 otv_72453)]) hD hS hA [9] rfl
      refine va_callv (va_runV (As := [.int 3]) (rest := []) ⟨hx, hb, hml, hown, hts⟩ (c_X4_fail l D g H.size rd 3 tp n rd_kindWords ww fk fp onx_72450 otk_72451 otpl_72452 otv_72453 (⟨by decide, by decide⟩ : 0 ≤ (3 : Int32).toInt ∧ (3 : Int32).toInt ≤ 5) (tr_w h_72448 (by decide) (by decide)) (tr_w h_fp (by decide) (by decide)) (tr_w hf_72454 (by decide) (by decide)) (tr_w hf_72455 (by decide) (by decide)) (tr_w hf_72456 (by decide) (by decide))) (cwV 1 hts (tz_gV qw_414 qw_415 qw_416 qw_384 qw_417) rfl rfl rfl (by decide +kernel) ⟨Nat.le_of_ble_eq_true rfl, Nat.le_of_ble_eq_true rfl⟩) ⟨tz_blQ, va_recv hK hPc (ci := 4) (q0 := 0) rfl rfl, tz_preQ hPc hK hDc⟩ rfl rfl hl.1 rfl (lv_room (Nat.le_of_ble_eq_true rfl)) dX4_readStart_61 ⟨Nat.le_of_ble_eq_true rfl, Nat.le_of_ble_eq_true rfl⟩) hS (fun q _ h => hFc q h) hFc (fun u t H1 locs ht hvm hw hB hz1 hk1 hS => ?_)
      obtain ⟨hP1, hD1⟩ := hB
      rw [ht] at hP1
      obtain ⟨hP, hD⟩ := va_join (wr := [(wI g rd_kindWords 0 4 kwf), (wO2 n n_nodes n_kind n_pay n_name n_ways n_held n_targets n_weights), (wI g n_kind 0 12 n_fkind), (wI g n_pay 0 12 n_fpay), (wI g n_name 0 12 n_fname), (wI g n_ways 0 12 n_fways), (wI g n_held 0 12 n_fheld), (wI g n_targets 0 36 n_ftargets), (wI g n_weights 0 36 n_fweights), (wO8 tp tp_bytes tl), (wI g tp_bytes 0 440 tf)]) (w1 := [(wO4 rd tp n rd_kindWords ww 3 otpl_72452 onx_72450 otk_72451 otpl_72452 otv_72453)]) hP hD [9] [0, 1, 2, 3, 4, 5, 6, 7, 8, 10, 11] rfl rfl (by decide) (by decide) hk1 hFc hP1 hD1
      generalize H1 = H at hP hS ⊢
      have hP : va_P D vwCl [(wI g rd_kindWords 0 4 kwf), (wO2 n n_nodes n_kind n_pay n_name n_ways n_held n_targets n_weights), (wI g n_kind 0 12 n_fkind), (wI g n_pay 0 12 n_fpay), (wI g n_name 0 12 n_fname), (wI g n_ways 0 12 n_fways), (wI g n_held 0 12 n_fheld), (wI g n_targets 0 36 n_ftargets), (wI g n_weights 0 36 n_fweights), (wO8 tp tp_bytes tl), (wI g tp_bytes 0 440 tf), (wO4 rd tp n rd_kindWords ww 3 otpl_72452 onx_72450 otk_72451 otpl_72452 otv_72453)] H := hP
      have hD : va_D A [(wI g rd_kindWords 0 4 kwf), (wO2 n n_nodes n_kind n_pay n_name n_ways n_held n_targets n_weights), (wI g n_kind 0 12 n_fkind), (wI g n_pay 0 12 n_fpay), (wI g n_name 0 12 n_fname), (wI g n_ways 0 12 n_fways), (wI g n_held 0 12 n_fheld), (wI g n_targets 0 36 n_ftargets), (wI g n_weights 0 36 n_fweights), (wO8 tp tp_bytes tl), (wI g tp_bytes 0 440 tf), (wO4 rd tp n rd_kindWords ww 3 otpl_72452 onx_72450 otk_72451 otpl_72452 otv_72453)] := hD
      refine lv_goto (tgt := 85) hx hb dX4_readStart_64 (by decide) ?_
      refine lv_aload_n hx hb dX4_readStart_85 rfl (lv_at hl 1 rfl) ?_
      refine va_get (D := D) (ci := 4) (v := .int 3) (C := RX4) (T := TX4) (N := 10) hx hb hts inlX4 hown hK hP 11 rfl rfl 4 (by decide) (hts (Cond.fieldLink RX4 41 "ChanceRings$Reader" "faultKind" "I") qw_378) (fun _ h9 => h9) rfl dX4_readStart_86 ?_
      refine lv_if_ne (tgt := 96) hx hb dX4_readStart_89 (by decide) (fun _ => ?_) (fun h9 => absurd h9 (by decide))
      refine lv_iconst (v := (-1)) hx hb dX4_readStart_96 (by decide) ?_
      have hP9 := hP.sub (ws' := [(wO4 rd tp n rd_kindWords ww 3 otpl_72452 onx_72450 otk_72451 otpl_72452 otv_72453), (wO8 tp tp_bytes tl), (wI g tp_bytes 0 440 tf), (wI g rd_kindWords 0 4 kwf), (wO2 n n_nodes n_kind n_pay n_name n_ways n_held n_targets n_weights), (wI g n_kind 0 12 n_fkind), (wI g n_pay 0 12 n_fpay), (wI g n_name 0 12 n_fname), (wI g n_ways 0 12 n_fways), (wI g n_held 0 12 n_fheld), (wI g n_targets 0 36 n_ftargets), (wI g n_weights 0 36 n_fweights)]) [11, 9, 10, 0, 1, 2, 3, 4, 5, 6, 7, 8] rfl
      have hD9 := hD.sub (ws' := [(wO4 rd tp n rd_kindWords ww 3 otpl_72452 onx_72450 otk_72451 otpl_72452 otv_72453), (wO8 tp tp_bytes tl), (wI g tp_bytes 0 440 tf), (wI g rd_kindWords 0 4 kwf), (wO2 n n_nodes n_kind n_pay n_name n_ways n_held n_targets n_weights), (wI g n_kind 0 12 n_fkind), (wI g n_pay 0 12 n_fpay), (wI g n_name 0 12 n_fname), (wI g n_ways 0 12 n_fways), (wI g n_held 0 12 n_fheld), (wI g n_targets 0 36 n_ftargets), (wI g n_weights 0 36 n_fweights)]) [11, 9, 10, 0, 1, 2, 3, 4, 5, 6, 7, 8] (by decide) rfl
      exact W.iret (v := (-1)) hx hb hr (fun t ht hW => ⟨⟨(-1), (-1), rfl, ⟨rfl, (⟨by decide, by decide⟩ : (-1) ≤ ((-1) : Int32).toInt ∧ ((-1) : Int32).toInt ≤ 11)⟩, 3, otpl_72452, onx_72450, otk_72451, otpl_72452, otv_72453, (⟨by decide, by decide⟩ : 0 ≤ (3 : Int32).toInt ∧ (3 : Int32).toInt ≤ 5), (tr_w hf_72456 (by decide) (by decide)), (tr_w hf_72454 (by decide) (by decide)), (tr_w hf_72455 (by decide) (by decide)), (tr_w hf_72456 (by decide) (by decide)), (fun h9 => absurd h9 (by decide)), (fun _ => ⟨by decide, absurd hw_72464_p0_u hw_72459_p1_u⟩), by rw [ht]; exact hP9, hD9⟩, hS.F ht⟩) hS.2.2 dX4_readStart_97
    · skip
      have c_72465_i : (r_72463 : Int32).toInt = (0 : Int32).toInt := congrArg Int32.toInt c_72465
      have hw_72464_p1_u := (hw_72464_p1).get (c_72465_i.trans tk_0)
      have h_72467 : 0 ≤ (r_72463 : Int32).toInt ∧ (r_72463 : Int32).toInt ≤ 0 := nr_eq_l hw_72464 (⟨by decide, by decide⟩ : 0 ≤ (0 : Int32).toInt ∧ (0 : Int32).toInt ≤ 0) c_72465_i (by decide) (by decide)
      refine lv_aload_n hx hb dX4_readStart_34 rfl (lv_at hl 1 rfl) ?_
      refine lv_iconst (v := 1) hx hb dX4_readStart_35 (by decide) ?_
      have hPc := hP.sub (ws' := [(wO4 rd tp n rd_kindWords ww fk fp onx_72450 otk_72451 otpl_72452 otv_72453)]) [9] rfl
      have hDc := hD.sub (ws' := [(wO4 rd tp n rd_kindWords ww fk fp onx_72450 otk_72451 otpl_72452 otv_72453)]) [9] (by decide) rfl
      have hFc := va_free (wc := [(wO4 rd tp n rd_kindWords ww fk fp onx_72450 otk_72451 otpl_72452 otv_72453)]) hD hS hA [9] rfl
      refine va_callv (va_runV (As := [.int 1]) (rest := []) ⟨hx, hb, hml, hown, hts⟩ (c_X4_fail l D g H.size rd 1 tp n rd_kindWords ww fk fp onx_72450 otk_72451 otpl_72452 otv_72453 (⟨by decide, by decide⟩ : 0 ≤ (1 : Int32).toInt ∧ (1 : Int32).toInt ≤ 5) (tr_w h_72448 (by decide) (by decide)) (tr_w h_fp (by decide) (by decide)) (tr_w hf_72454 (by decide) (by decide)) (tr_w hf_72455 (by decide) (by decide)) (tr_w hf_72456 (by decide) (by decide))) (cwV 1 hts (tz_gV qw_414 qw_415 qw_416 qw_384 qw_417) rfl rfl rfl (by decide +kernel) ⟨Nat.le_of_ble_eq_true rfl, Nat.le_of_ble_eq_true rfl⟩) ⟨tz_blQ, va_recv hK hPc (ci := 4) (q0 := 0) rfl rfl, tz_preQ hPc hK hDc⟩ rfl rfl hl.1 rfl (lv_room (Nat.le_of_ble_eq_true rfl)) dX4_readStart_36 ⟨Nat.le_of_ble_eq_true rfl, Nat.le_of_ble_eq_true rfl⟩) hS (fun q _ h => hFc q h) hFc (fun u t H1 locs ht hvm hw hB hz1 hk1 hS => ?_)
      obtain ⟨hP1, hD1⟩ := hB
      rw [ht] at hP1
      obtain ⟨hP, hD⟩ := va_join (wr := [(wI g rd_kindWords 0 4 kwf), (wO2 n n_nodes n_kind n_pay n_name n_ways n_held n_targets n_weights), (wI g n_kind 0 12 n_fkind), (wI g n_pay 0 12 n_fpay), (wI g n_name 0 12 n_fname), (wI g n_ways 0 12 n_fways), (wI g n_held 0 12 n_fheld), (wI g n_targets 0 36 n_ftargets), (wI g n_weights 0 36 n_fweights), (wO8 tp tp_bytes tl), (wI g tp_bytes 0 440 tf)]) (w1 := [(wO4 rd tp n rd_kindWords ww 1 otpl_72452 onx_72450 otk_72451 otpl_72452 otv_72453)]) hP hD [9] [0, 1, 2, 3, 4, 5, 6, 7, 8, 10, 11] rfl rfl (by decide) (by decide) hk1 hFc hP1 hD1
      generalize H1 = H at hP hS ⊢
      have hP : va_P D vwCl [(wI g rd_kindWords 0 4 kwf), (wO2 n n_nodes n_kind n_pay n_name n_ways n_held n_targets n_weights), (wI g n_kind 0 12 n_fkind), (wI g n_pay 0 12 n_fpay), (wI g n_name 0 12 n_fname), (wI g n_ways 0 12 n_fways), (wI g n_held 0 12 n_fheld), (wI g n_targets 0 36 n_ftargets), (wI g n_weights 0 36 n_fweights), (wO8 tp tp_bytes tl), (wI g tp_bytes 0 440 tf), (wO4 rd tp n rd_kindWords ww 1 otpl_72452 onx_72450 otk_72451 otpl_72452 otv_72453)] H := hP
      have hD : va_D A [(wI g rd_kindWords 0 4 kwf), (wO2 n n_nodes n_kind n_pay n_name n_ways n_held n_targets n_weights), (wI g n_kind 0 12 n_fkind), (wI g n_pay 0 12 n_fpay), (wI g n_name 0 12 n_fname), (wI g n_ways 0 12 n_fways), (wI g n_held 0 12 n_fheld), (wI g n_targets 0 36 n_ftargets), (wI g n_weights 0 36 n_fweights), (wO8 tp tp_bytes tl), (wI g tp_bytes 0 440 tf), (wO4 rd tp n rd_kindWords ww 1 otpl_72452 onx_72450 otk_72451 otpl_72452 otv_72453)] := hD
      refine lv_goto (tgt := 85) hx hb dX4_readStart_39 (by decide) ?_
      refine lv_aload_n hx hb dX4_readStart_85 rfl (lv_at hl 1 rfl) ?_
      refine va_get (D := D) (ci := 4) (v := .int 1) (C := RX4) (T := TX4) (N := 10) hx hb hts inlX4 hown hK hP 11 rfl rfl 4 (by decide) (hts (Cond.fieldLink RX4 41 "ChanceRings$Reader" "faultKind" "I") qw_378) (fun _ h9 => h9) rfl dX4_readStart_86 ?_
      refine lv_if_ne (tgt := 96) hx hb dX4_readStart_89 (by decide) (fun _ => ?_) (fun h9 => absurd h9 (by decide))
      refine lv_iconst (v := (-1)) hx hb dX4_readStart_96 (by decide) ?_
      have hP9 := hP.sub (ws' := [(wO4 rd tp n rd_kindWords ww 1 otpl_72452 onx_72450 otk_72451 otpl_72452 otv_72453), (wO8 tp tp_bytes tl), (wI g tp_bytes 0 440 tf), (wI g rd_kindWords 0 4 kwf), (wO2 n n_nodes n_kind n_pay n_name n_ways n_held n_targets n_weights), (wI g n_kind 0 12 n_fkind), (wI g n_pay 0 12 n_fpay), (wI g n_name 0 12 n_fname), (wI g n_ways 0 12 n_fways), (wI g n_held 0 12 n_fheld), (wI g n_targets 0 36 n_ftargets), (wI g n_weights 0 36 n_fweights)]) [11, 9, 10, 0, 1, 2, 3, 4, 5, 6, 7, 8] rfl
      have hD9 := hD.sub (ws' := [(wO4 rd tp n rd_kindWords ww 1 otpl_72452 onx_72450 otk_72451 otpl_72452 otv_72453), (wO8 tp tp_bytes tl), (wI g tp_bytes 0 440 tf), (wI g rd_kindWords 0 4 kwf), (wO2 n n_nodes n_kind n_pay n_name n_ways n_held n_targets n_weights), (wI g n_kind 0 12 n_fkind), (wI g n_pay 0 12 n_fpay), (wI g n_name 0 12 n_fname), (wI g n_ways 0 12 n_fways), (wI g n_held 0 12 n_fheld), (wI g n_targets 0 36 n_ftargets), (wI g n_weights 0 36 n_fweights)]) [11, 9, 10, 0, 1, 2, 3, 4, 5, 6, 7, 8] (by decide) rfl
      exact W.iret (v := (-1)) hx hb hr (fun t ht hW => ⟨⟨(-1), (-1), rfl, ⟨rfl, (⟨by decide, by decide⟩ : (-1) ≤ ((-1) : Int32).toInt ∧ ((-1) : Int32).toInt ≤ 11)⟩, 1, otpl_72452, onx_72450, otk_72451, otpl_72452, otv_72453, (⟨by decide, by decide⟩ : 0 ≤ (1 : Int32).toInt ∧ (1 : Int32).toInt ≤ 5), (tr_w hf_72456 (by decide) (by decide)), (tr_w hf_72454 (by decide) (by decide)), (tr_w hf_72455 (by decide) (by decide)), (tr_w hf_72456 (by decide) (by decide)), (fun h9 => absurd h9 (by decide)), (fun _ => ⟨by decide, wfl_name hf_72457 hw_72464_p1_u (by (first | (clear h_fk h_fp h_nx h_tk h_tpl h_tl h_n_nodes hww hfk h_72448 hw_72459 c_72460_i h_72461 hw_72464 c_72465_i h_72467; omega) | omega))⟩), by rw [ht]; exact hP9, hD9⟩, hS.F ht⟩) hS.2.2 dX4_readStart_97
  · skip
    have kk_0 := tk_0
    have c_72460_i : ¬ (r_72458 : Int32).toInt = (0 : Int32).toInt := (fun q => c_72460 (Int32.toInt_inj.mp q))
    have hw_72459_p0_u := (hw_72459_p0).get (fun q => c_72460_i (q.trans tk_0.symm))
    have h_72462 : 1 ≤ (r_72458 : Int32).toInt ∧ (r_72458 : Int32).toInt ≤ 1 := nr_ne_l hw_72459 (⟨by decide, by decide⟩ : 0 ≤ (0 : Int32).toInt ∧ (0 : Int32).toInt ≤ 0) c_72460_i (by decide) (by decide)
    refine lv_aload_n hx hb dX4_readStart_11 rfl (lv_at hl 0 rfl) ?_
    refine va_get (D := D) (ci := 4) (v := .ref n) (C := RX4) (T := TX4) (N := 10) hx hb hts inlX4 hown hK hP 9 rfl rfl 1 (by decide) (hts (Cond.fieldLink RX4 15 "ChanceRings$Reader" "net" "LChanceRings$Net;") qw_408) (fun _ h9 => h9) rfl dX4_readStart_12 ?_
    refine lv_aload_n hx hb dX4_readStart_15 rfl (lv_at hl 0 rfl) ?_
    refine va_get (D := D) (ci := 4) (v := .int otv_72453) (C := RX4) (T := TX4) (N := 10) hx hb hts inlX4 hown hK hP 9 rfl rfl 9 (by decide) (hts (Cond.fieldLink RX4 86 "ChanceRings$Reader" "tokenValue" "I") qw_394) (fun _ h9 => h9) rfl dX4_readStart_16 ?_
    have hPc := hP.sub (ws' := [(wO2 n n_nodes n_kind n_pay n_name n_ways n_held n_targets n_weights), (wI g n_name 0 12 n_fname)]) [1, 4] rfl
    refine vp_callSi (va_Run.run (va_runV (As := [.int otv_72453]) (rest := []) ⟨hx, hb, hml, hown, hts⟩ (c_X2_find l D g n otv_72453 n_nodes n_kind n_pay n_name n_ways n_held n_targets n_weights n_fname (tr_w h_n_nodes (by decide) (by decide))) (cwV 1 hts (tz_gV qw_430 qw_431 qw_432 qw_322 qw_433) rfl rfl rfl (by decide +kernel) ⟨Nat.le_of_ble_eq_true rfl, Nat.le_of_ble_eq_true rfl⟩) ⟨tz_blS, va_recv hK hPc (ci := 2) (q0 := 0) rfl rfl, tz_preS hPc hK⟩ rfl rfl hl.1 rfl (lv_room (Nat.le_of_ble_eq_true rfl)) dX4_readStart_19 ⟨Nat.le_of_ble_eq_true rfl, Nat.le_of_ble_eq_true rfl⟩)) (fun r_72470 hw => ?_)
    have hw_72471 : (-1) ≤ (r_72470 : Int32).toInt ∧ (r_72470 : Int32).toInt ≤ 11 := hw.1
    have hw_72471_p0 : FN (n_nodes : Int32).toInt (fun p => (n_fname p).toInt) (otv_72453 : Int32).toInt (r_72470 : Int32).toInt := hw.2
    refine lv_goto (tgt := 26) hx hb dX4_readStart_22 (by decide) ?_
    refine lv_istore_n (lv' := [(1, .int r_72470), (0, .ref rd)]) hx hb dX4_readStart_26 rfl hl (by decide) rfl (fun ls hl => ?_)
    refine lv_aload_n hx hb dX4_readStart_27 rfl (lv_at hl 1 rfl) ?_
    have hPc := hP.sub (ws' := [(wO4 rd tp n rd_kindWords ww fk fp onx_72450 otk_72451 otpl_72452 otv_72453), (wI g rd_kindWords 0 4 kwf)]) [9, 0] rfl
    refine vp_callSi (va_Run.run (va_runV (As := []) (rest := []) ⟨hx, hb, hml, hown, hts⟩ (c_X4_isName l D g rd tp n rd_kindWords ww fk fp onx_72450 otk_72451 otpl_72452 otv_72453 kwf (tr_w h_72448 (by decide) (by decide)) (tr_w h_fp (by decide) (by decide)) (tr_w hf_72454 (by decide) (by decide)) (tr_w hf_72455 (by decide) (by decide)) (tr_w hf_72456 (by decide) (by decide)) hkw hww) (cwV 0 hts (tz_gV qw_426 qw_427 qw_428 qw_384 qw_429) rfl rfl rfl (by decide +kernel) ⟨Nat.le_of_ble_eq_true rfl, Nat.le_of_ble_eq_true rfl⟩) ⟨tz_blS, va_recv hK hPc (ci := 4) (q0 := 0) rfl rfl, tz_preS hPc hK⟩ rfl rfl hl.1 rfl (lv_room (Nat.le_of_ble_eq_true rfl)) dX4_readStart_28 ⟨Nat.le_of_ble_eq_true rfl, Nat.le_of_ble_eq_true rfl⟩)) (fun r_72472 hw => ?_)
    have hw_72473 : 0 ≤ (r_72472 : Int32).toInt ∧ (r_72472 : Int32).toInt ≤ 1 := hw.1
    have hw_72473_p0 : Hide (¬ (r_72472 : Int32).toInt = 0 → NMC (otk_72451 : Int32).toInt (otv_72453 : Int32).toInt) := hw.2.1
    have hw_72473_p1 : Hide ((r_72472 : Int32).toInt = 0 → ¬ NMC (otk_72451 : Int32).toInt (otv_72453 : Int32).toInt) := hw.2.2
    refine lv_if_ne (tgt := 42) hx hb dX4_readStart_31 (by decide) (fun c_72474 => ?_) (fun c_72474 => ?_)
    · skip
      have c_72474_i : ¬ (r_72472 : Int32).toInt = (0 : Int32).toInt := (fun q => c_72474 (Int32.toInt_inj.mp q))
      have hw_72473_p0_u := (hw_72473_p0).get (fun q => c_72474_i (q.trans tk_0.symm))
      have h_72475 : 1 ≤ (r_72472 : Int32).toInt ∧ (r_72472 : Int32).toInt ≤ 1 := nr_ne_l hw_72473 (⟨by decide, by decide⟩ : 0 ≤ (0 : Int32).toInt ∧ (0 : Int32).toInt ≤ 0) c_72474_i (by decide) (by decide)
      refine lv_iload_n hx hb dX4_readStart_42 rfl (lv_at hl 0 rfl) ?_
      refine lv_iconst (v := (-1)) hx hb dX4_readStart_43 (by decide) ?_
      refine lv_icmp_eq (tgt := 59) hx hb dX4_readStart_44 (by decide) (fun c_72477 => ?_) (fun c_72477 => ?_)
      · skip
        have kk_m1 := tk_m1
        have c_72477_i : (r_72470 : Int32).toInt = ((-1) : Int32).toInt := congrArg Int32.toInt c_72477
        have h_72478 : (-1) ≤ (r_72470 : Int32).toInt ∧ (r_72470 : Int32).toInt ≤ (-1) := nr_eq_l hw_72471 (⟨by decide, by decide⟩ : (-1) ≤ ((-1) : Int32).toInt ∧ ((-1) : Int32).toInt ≤ (-1)) c_72477_i (by decide) (by decide)
        refine lv_aload_n hx hb dX4_readStart_59 rfl (lv_at hl 1 rfl) ?_
        refine lv_iconst (v := 3) hx hb dX4_readStart_60 (by decide) ?_
        have hPc := hP.sub (ws' := [(wO4 rd tp n rd_kindWords ww fk fp onx_72450 otk_72451 otpl_72452 otv_72453)]) [9] rfl
        have hDc := hD.sub (ws' := [(wO4 rd tp n rd_kindWords ww fk fp onx_72450 otk_72451 otpl_72452 otv_72453)]) [9] (by decide) rfl
        have hFc := va_free (wc := [(wO4 rd tp n rd_kindWords ww fk fp onx_72450 otk_72451 otpl_72452 otv_72453)]) hD hS hA [9] rfl
        refine va_callv (va_runV (As := [.int 3]) (rest := []) ⟨hx, hb, hml, hown, hts⟩ (c_X4_fail l D g H.size rd 3 tp n rd_kindWords ww fk fp onx_72450 otk_72451 otpl_72452 otv_72453 (⟨by decide, by decide⟩ : 0 ≤ (3 : Int32).toInt ∧ (3 : Int32).toInt ≤ 5) (tr_w h_72448 (by decide) (by decide)) (tr_w h_fp (by decide) (by decide)) (tr_w hf_72454 (by decide) (by decide)) (tr_w hf_72455 (by decide) (by decide)) (tr_w hf_72456 (by decide) (by decide))) (cwV 1 hts (tz_gV qw_414 qw_415 qw_416 qw_384 qw_417) rfl rfl rfl (by decide +kernel) ⟨Nat.le_of_ble_eq_true rfl, Nat.le_of_ble_eq_true rfl⟩) ⟨tz_blQ, va_recv hK hPc (ci := 4) (q0 := 0) rfl rfl, tz_preQ hPc hK hDc⟩ rfl rfl hl.1 rfl (lv_room (Nat.le_of_ble_eq_true rfl)) dX4_readStart_61 ⟨Nat.le_of_ble_eq_true rfl, Nat.le_of_ble_eq_true rfl⟩) hS (fun q _ h => hFc q h) hFc (fun u t H1 locs ht hvm hw hB hz1 hk1 hS => ?_)
        obtain ⟨hP1, hD1⟩ := hB
        rw [ht] at hP1
        obtain ⟨hP, hD⟩ := va_join (wr := [(wI g rd_kindWords 0 4 kwf), (wO2 n n_nodes n_kind n_pay n_name n_ways n_held n_targets n_weights), (wI g n_kind 0 12 n_fkind), (wI g n_pay 0 12 n_fpay), (wI g n_name 0 12 n_fname), (wI g n_ways 0 12 n_fways), (wI g n_held 0 12 n_fheld), (wI g n_targets 0 36 n_ftargets), (wI g n_weights 0 36 n_fweights), (wO8 tp tp_bytes tl), (wI g tp_bytes 0 440 tf)]) (w1 := [(wO4 rd tp n rd_kindWords ww 3 otpl_72452 onx_72450 otk_72451 otpl_72452 otv_72453)]) hP hD [9] [0, 1, 2, 3, 4, 5, 6, 7, 8, 10, 11] rfl rfl (by decide) (by decide) hk1 hFc hP1 hD1
        generalize H1 = H at hP hS ⊢
        have hP : va_P D vwCl [(wI g rd_kindWords 0 4 kwf), (wO2 n n_nodes n_kind n_pay n_name n_ways n_held n_targets n_weights), (wI g n_kind 0 12 n_fkind), (wI g n_pay 0 12 n_fpay), (wI g n_name 0 12 n_fname), (wI g n_ways 0 12 n_fways), (wI g n_held 0 12 n_fheld), (wI g n_targets 0 36 n_ftargets), (wI g n_weights 0 36 n_fweights), (wO8 tp tp_bytes tl), (wI g tp_bytes 0 440 tf), (wO4 rd tp n rd_kindWords ww 3 otpl_72452 onx_72450 otk_72451 otpl_72452 otv_72453)] H := hP
        have hD : va_D A [(wI g rd_kindWords 0 4 kwf), (wO2 n n_nodes n_kind n_pay n_name n_ways n_held n_targets n_weights), (wI g n_kind 0 12 n_fkind), (wI g n_pay 0 12 n_fpay), (wI g n_name 0 12 n_fname), (wI g n_ways 0 12 n_fways), (wI g n_held 0 12 n_fheld), (wI g n_targets 0 36 n_ftargets), (wI g n_weights 0 36 n_fweights), (wO8 tp tp_bytes tl), (wI g tp_bytes 0 440 tf), (wO4 rd tp n rd_kindWords ww 3 otpl_72452 onx_72450 otk_72451 otpl_72452 otv_72453)] := hD
        refine lv_goto (tgt := 85) hx hb dX4_readStart_64 (by decide) ?_
        refine lv_aload_n hx hb dX4_readStart_85 rfl (lv_at hl 1 rfl) ?_
        refine va_get (D := D) (ci := 4) (v := .int 3) (C := RX4) (T := TX4) (N := 10) hx hb hts inlX4 hown hK hP 11 rfl rfl 4 (by decide) (hts (Cond.fieldLink RX4 41 "ChanceRings$Reader" "faultKind" "I") qw_378) (fun _ h9 => h9) rfl dX4_readStart_86 ?_
        refine lv_if_ne (tgt := 96) hx hb dX4_readStart_89 (by decide) (fun _ => ?_) (fun h9 => absurd h9 (by decide))
        refine lv_iconst (v := (-1)) hx hb dX4_readStart_96 (by decide) ?_
        have hP9 := hP.sub (ws' := [(wO4 rd tp n rd_kindWords ww 3 otpl_72452 onx_72450 otk_72451 otpl_72452 otv_72453), (wO8 tp tp_bytes tl), (wI g tp_bytes 0 440 tf), (wI g rd_kindWords 0 4 kwf), (wO2 n n_nodes n_kind n_pay n_name n_ways n_held n_targets n_weights), (wI g n_kind 0 12 n_fkind), (wI g n_pay 0 12 n_fpay), (wI g n_name 0 12 n_fname), (wI g n_ways 0 12 n_fways), (wI g n_held 0 12 n_fheld), (wI g n_targets 0 36 n_ftargets), (wI g n_weights 0 36 n_fweights)]) [11, 9, 10, 0, 1, 2, 3, 4, 5, 6, 7, 8] rfl
        have hD9 := hD.sub (ws' := [(wO4 rd tp n rd_kindWords ww 3 otpl_72452 onx_72450 otk_72451 otpl_72452 otv_72453), (wO8 tp tp_bytes tl), (wI g tp_bytes 0 440 tf), (wI g rd_kindWords 0 4 kwf), (wO2 n n_nodes n_kind n_pay n_name n_ways n_held n_targets n_weights), (wI g n_kind 0 12 n_fkind), (wI g n_pay 0 12 n_fpay), (wI g n_name 0 12 n_fname), (wI g n_ways 0 12 n_fways), (wI g n_held 0 12 n_fheld), (wI g n_targets 0 36 n_ftargets), (wI g n_weights 0 36 n_fweights)]) [11, 9, 10, 0, 1, 2, 3, 4, 5, 6, 7, 8] (by decide) rfl
        exact W.iret (v := (-1)) hx hb hr (fun t ht hW => ⟨⟨(-1), (-1), rfl, ⟨rfl, (⟨by decide, by decide⟩ : (-1) ≤ ((-1) : Int32).toInt ∧ ((-1) : Int32).toInt ≤ 11)⟩, 3, otpl_72452, onx_72450, otk_72451, otpl_72452, otv_72453, (⟨by decide, by decide⟩ : 0 ≤ (3 : Int32).toInt ∧ (3 : Int32).toInt ≤ 5), (tr_w hf_72456 (by decide) (by decide)), (tr_w hf_72454 (by decide) (by decide)), (tr_w hf_72455 (by decide) (by decide)), (tr_w hf_72456 (by decide) (by decide)), (fun h9 => absurd h9 (by decide)), (fun _ => ⟨by decide, wfl_from hf_72457 hw_72473_p0_u (absC_fd hw_72471_p0) (Or.inl (by have z_0 := tk_0; have z_1 := tk_1; have z_2 := tk_2; have z_3 := tk_3; have z_m := tk_m1; have z_9 := tk_9; have z_4 := tk_4; (first | (clear h_fk h_fp h_nx h_tk h_tpl h_tl h_n_nodes hww hfk h_72448 hw_72459 c_72460_i h_72462 hw_72471 hw_72473 c_72474_i h_72475 c_72477_i h_72478; omega) | omega))) (by (first | (clear h_fk h_fp h_nx h_tk h_tpl h_tl h_n_nodes hww hfk h_72448 hw_72459 c_72460_i h_72462 hw_72471 hw_72473 c_72474_i h_72475 c_72477_i h_72478; omega) | omega))⟩), by rw [ht]; exact hP9, hD9⟩, hS.F ht⟩) hS.2.2 dX4_readStart_97
      · skip
        have kk_m1 := tk_m1
        have c_72477_i : ¬ (r_72470 : Int32).toInt = ((-1) : Int32).toInt := (fun q => c_72477 (Int32.toInt_inj.mp q))
        have h_72479 : 0 ≤ (r_72470 : Int32).toInt ∧ (r_72470 : Int32).toInt ≤ 11 := nr_ne_l hw_72471 (⟨by decide, by decide⟩ : (-1) ≤ ((-1) : Int32).toInt ∧ ((-1) : Int32).toInt ≤ (-1)) c_72477_i (by decide) (by decide)
        refine lv_aload_n hx hb dX4_readStart_47 rfl (lv_at hl 1 rfl) ?_
        refine va_get (D := D) (ci := 4) (v := .ref n) (C := RX4) (T := TX4) (N := 10) hx hb hts inlX4 hown hK hP 9 rfl rfl 1 (by decide) (hts (Cond.fieldLink RX4 15 "ChanceRings$Reader" "net" "LChanceRings$Net;") qw_408) (fun _ h9 => h9) rfl dX4_readStart_48 ?_
        refine va_get (D := D) (ci := 2) (v := .ref n_kind) (C := RX2) (T := TX2) (N := 8) hx hb hts inlX2 hown hK hP 1 rfl rfl 1 (by decide) (hts (Cond.fieldLink RX4 80 "ChanceRings$Net" "kind" "[I") qw_442) (fun _ h9 => h9) rfl dX4_readStart_51 ?_
        refine lv_iload_n hx hb dX4_readStart_54 rfl (lv_at hl 0 rfl) ?_
        refine va_iald hx hb hK hP 2 0 rfl rfl (tr_in h_72479 (by decide) (by decide)) dX4_readStart_55 ?_
        refine lv_topi (fun v_72481 v_72481_e => ?_)
        have h_v_72481 : 0 ≤ (v_72481 : Int32).toInt ∧ (v_72481 : Int32).toInt ≤ 3 := by rw [v_72481_e]; exact h_n_fkind _
        have g_v_72481 : v_72481 = n_fkind (r_72470.toInt.toNat) := v_72481_e.trans (congrArg n_fkind rfl)
        have gi_v_72481 := congrArg Int32.toInt g_v_72481
        refine lv_if_ne (tgt := 67) hx hb dX4_readStart_56 (by decide) (fun c_72482 => ?_) (fun c_72482 => ?_)
        · skip
          have c_72482_i : ¬ (v_72481 : Int32).toInt = (0 : Int32).toInt := (fun q => c_72482 (Int32.toInt_inj.mp q))
          have h_72483 : 1 ≤ (v_72481 : Int32).toInt ∧ (v_72481 : Int32).toInt ≤ 3 := nr_ne_l h_v_72481 (⟨by decide, by decide⟩ : 0 ≤ (0 : Int32).toInt ∧ (0 : Int32).toInt ≤ 0) c_72482_i (by decide) (by decide)
          refine lv_aload_n hx hb dX4_readStart_67 rfl (lv_at hl 1 rfl) ?_
          refine va_get (D := D) (ci := 4) (v := .ref n) (C := RX4) (T := TX4) (N := 10) hx hb hts inlX4 hown hK hP 9 rfl rfl 1 (by decide) (hts (Cond.fieldLink RX4 15 "ChanceRings$Reader" "net" "LChanceRings$Net;") qw_408) (fun _ h9 => h9) rfl dX4_readStart_68 ?_
          refine va_get (D := D) (ci := 2) (v := .ref n_ways) (C := RX2) (T := TX2) (N := 8) hx hb hts inlX2 hown hK hP 1 rfl rfl 4 (by decide) (hts (Cond.fieldLink RX4 83 "ChanceRings$Net" "ways" "[I") qw_443) (fun _ h9 => h9) rfl dX4_readStart_71 ?_
          refine lv_iload_n hx hb dX4_readStart_74 rfl (lv_at hl 0 rfl) ?_
          refine va_iald hx hb hK hP 5 0 rfl rfl (tr_in h_72479 (by decide) (by decide)) dX4_readStart_75 ?_
          refine lv_topi (fun v_72485 v_72485_e => ?_)
          have h_v_72485 : 0 ≤ (v_72485 : Int32).toInt ∧ (v_72485 : Int32).toInt ≤ 3 := by rw [v_72485_e]; exact h_n_fways _
          have g_v_72485 : v_72485 = n_fways (r_72470.toInt.toNat) := v_72485_e.trans (congrArg n_fways rfl)
          have gi_v_72485 := congrArg Int32.toInt g_v_72485
          refine lv_iconst (v := 3) hx hb dX4_readStart_76 (by decide) ?_
          refine lv_icmp_lt (tgt := 85) hx hb dX4_readStart_77 (by decide) (fun c_72486 => ?_) (fun c_72486 => ?_)
          · skip
            have kk_3 := tk_3
            have c_72486_i := Int32.lt_iff_toInt_lt.mp c_72486
            have h_72487 : 0 ≤ (v_72485 : Int32).toInt ∧ (v_72485 : Int32).toInt ≤ 2 := nr_lt_l h_v_72485 (⟨by decide, by decide⟩ : 3 ≤ (3 : Int32).toInt ∧ (3 : Int32).toInt ≤ 3) c_72486_i (by decide) (by decide)
            refine lv_aload_n hx hb dX4_readStart_85 rfl (lv_at hl 1 rfl) ?_
            refine va_get (D := D) (ci := 4) (v := .int fk) (C := RX4) (T := TX4) (N := 10) hx hb hts inlX4 hown hK hP 9 rfl rfl 4 (by decide) (hts (Cond.fieldLink RX4 41 "ChanceRings$Reader" "faultKind" "I") qw_378) (fun _ h9 => h9) rfl dX4_readStart_86 ?_
            refine lv_if_ne (tgt := 96) hx hb dX4_readStart_89 (by decide) (fun h9 => (nr_x_ne h_72448 (⟨by decide, by decide⟩ : 0 ≤ (0 : Int32).toInt ∧ (0 : Int32).toInt ≤ 0) (fun q => h9 (Int32.toInt_inj.mp q)) (by decide)).elim) (fun c_72489 => ?_)
            have c_72489_i : (fk : Int32).toInt = (0 : Int32).toInt := congrArg Int32.toInt c_72489
            refine lv_iload_n hx hb dX4_readStart_92 rfl (lv_at hl 0 rfl) ?_
            refine lv_goto (tgt := 97) hx hb dX4_readStart_93 (by decide) ?_
            have hP9 := hP.sub (ws' := [(wO4 rd tp n rd_kindWords ww fk fp onx_72450 otk_72451 otpl_72452 otv_72453), (wO8 tp tp_bytes tl), (wI g tp_bytes 0 440 tf), (wI g rd_kindWords 0 4 kwf), (wO2 n n_nodes n_kind n_pay n_name n_ways n_held n_targets n_weights), (wI g n_kind 0 12 n_fkind), (wI g n_pay 0 12 n_fpay), (wI g n_name 0 12 n_fname), (wI g n_ways 0 12 n_fways), (wI g n_held 0 12 n_fheld), (wI g n_targets 0 36 n_ftargets), (wI g n_weights 0 36 n_fweights)]) [9, 10, 11, 0, 1, 2, 3, 4, 5, 6, 7, 8] rfl
            have hD9 := hD.sub (ws' := [(wO4 rd tp n rd_kindWords ww fk fp onx_72450 otk_72451 otpl_72452 otv_72453), (wO8 tp tp_bytes tl), (wI g tp_bytes 0 440 tf), (wI g rd_kindWords 0 4 kwf), (wO2 n n_nodes n_kind n_pay n_name n_ways n_held n_targets n_weights), (wI g n_kind 0 12 n_fkind), (wI g n_pay 0 12 n_fpay), (wI g n_name 0 12 n_fname), (wI g n_ways 0 12 n_fways), (wI g n_held 0 12 n_fheld), (wI g n_targets 0 36 n_ftargets), (wI g n_weights 0 36 n_fweights)]) [9, 10, 11, 0, 1, 2, 3, 4, 5, 6, 7, 8] (by decide) rfl
            exact W.iret (v := r_72470) hx hb hr (fun t ht hW => ⟨⟨r_72470, r_72470, rfl, ⟨rfl, (tr_w h_72479 (by decide) (by decide))⟩, fk, fp, onx_72450, otk_72451, otpl_72452, otv_72453, (tr_w h_72448 (by decide) (by decide)), (tr_w h_fp (by decide) (by decide)), (tr_w hf_72454 (by decide) (by decide)), (tr_w hf_72455 (by decide) (by decide)), (tr_w hf_72456 (by decide) (by decide)), (fun _ => ⟨by (first | (clear h_nx h_tk h_tpl h_tl h_n_nodes hww hw_72459 c_72460_i h_72462 hw_72473 c_72474_i h_72475; omega) | omega), hf_72457, hw_72473_p0_u, (absC_fd hw_72471_p0), by (first | (clear h_nx h_tk h_tpl h_tl h_n_nodes hww hw_72459 c_72460_i h_72462 hw_72473 c_72474_i h_72475; omega) | omega), by rw [absC_k (by (first | (clear h_nx h_tk h_tpl h_tl h_n_nodes hww hw_72459 c_72460_i h_72462 hw_72473 c_72474_i h_72475; omega) | omega))]; have q8 := gi_v_72481; have z_0 := tk_0; have z_1 := tk_1; have z_2 := tk_2; have z_3 := tk_3; have z_m := tk_m1; have z_9 := tk_9; have z_4 := tk_4; (first | (clear h_nx h_tk h_tpl h_tl h_n_nodes hww hw_72459 c_72460_i h_72462 hw_72473 c_72474_i h_72475; omega) | omega), by rw [absC_w (by (first | (clear h_nx h_tk h_tpl h_tl h_n_nodes hww hw_72459 c_72460_i h_72462 hw_72473 c_72474_i h_72475; omega) | omega))]; have q8 := gi_v_72485; have z_0 := tk_0; have z_1 := tk_1; have z_2 := tk_2; have z_3 := tk_3; have z_m := tk_m1; have z_9 := tk_9; have z_4 := tk_4; (first | (clear h_nx h_tk h_tpl h_tl h_n_nodes hww hw_72459 c_72460_i h_72462 hw_72473 c_72474_i h_72475; omega) | omega)⟩), (fun h9 => absurd hfk h9), by rw [ht]; exact hP9, hD9⟩, hS.F ht⟩) hS.2.2 dX4_readStart_97
          · skip
            have kk_3 := tk_3
            have c_72486_i := Int32.le_iff_toInt_le.mp (Int32.not_lt.mp c_72486)
            have h_72488 : 3 ≤ (v_72485 : Int32).toInt ∧ (v_72485 : Int32).toInt ≤ 3 := nr_le_r (⟨by decide, by decide⟩ : 3 ≤ (3 : Int32).toInt ∧ (3 : Int32).toInt ≤ 3) h_v_72485 c_72486_i (by decide) (by decide)
            refine lv_aload_n hx hb dX4_readStart_80 rfl (lv_at hl 1 rfl) ?_
            refine lv_iconst (v := 4) hx hb dX4_readStart_81 (by decide) ?_
            have hPc := hP.sub (ws' := [(wO4 rd tp n rd_kindWords ww fk fp onx_72450 otk_72451 otpl_72452 otv_72453)]) [9] rfl
            have hDc := hD.sub (ws' := [(wO4 rd tp n rd_kindWords ww fk fp onx_72450 otk_72451 otpl_72452 otv_72453)]) [9] (by decide) rfl
            have hFc := va_free (wc := [(wO4 rd tp n rd_kindWords ww fk fp onx_72450 otk_72451 otpl_72452 otv_72453)]) hD hS hA [9] rfl
            refine va_callv (va_runV (As := [.int 4]) (rest := []) ⟨hx, hb, hml, hown, hts⟩ (c_X4_fail l D g H.size rd 4 tp n rd_kindWords ww fk fp onx_72450 otk_72451 otpl_72452 otv_72453 (⟨by decide, by decide⟩ : 0 ≤ (4 : Int32).toInt ∧ (4 : Int32).toInt ≤ 5) (tr_w h_72448 (by decide) (by decide)) (tr_w h_fp (by decide) (by decide)) (tr_w hf_72454 (by decide) (by decide)) (tr_w hf_72455 (by decide) (by decide)) (tr_w hf_72456 (by decide) (by decide))) (cwV 1 hts (tz_gV qw_414 qw_415 qw_416 qw_384 qw_417) rfl rfl rfl (by decide +kernel) ⟨Nat.le_of_ble_eq_true rfl, Nat.le_of_ble_eq_true rfl⟩) ⟨tz_blQ, va_recv hK hPc (ci := 4) (q0 := 0) rfl rfl, tz_preQ hPc hK hDc⟩ rfl rfl hl.1 rfl (lv_room (Nat.le_of_ble_eq_true rfl)) dX4_readStart_82 ⟨Nat.le_of_ble_eq_true rfl, Nat.le_of_ble_eq_true rfl⟩) hS (fun q _ h => hFc q h) hFc (fun u t H1 locs ht hvm hw hB hz1 hk1 hS => ?_)
            obtain ⟨hP1, hD1⟩ := hB
            rw [ht] at hP1
            obtain ⟨hP, hD⟩ := va_join (wr := [(wI g rd_kindWords 0 4 kwf), (wO2 n n_nodes n_kind n_pay n_name n_ways n_held n_targets n_weights), (wI g n_kind 0 12 n_fkind), (wI g n_pay 0 12 n_fpay), (wI g n_name 0 12 n_fname), (wI g n_ways 0 12 n_fways), (wI g n_held 0 12 n_fheld), (wI g n_targets 0 36 n_ftargets), (wI g n_weights 0 36 n_fweights), (wO8 tp tp_bytes tl), (wI g tp_bytes 0 440 tf)]) (w1 := [(wO4 rd tp n rd_kindWords ww 4 otpl_72452 onx_72450 otk_72451 otpl_72452 otv_72453)]) hP hD [9] [0, 1, 2, 3, 4, 5, 6, 7, 8, 10, 11] rfl rfl (by decide) (by decide) hk1 hFc hP1 hD1
            generalize H1 = H at hP hS ⊢
            have hP : va_P D vwCl [(wI g rd_kindWords 0 4 kwf), (wO2 n n_nodes n_kind n_pay n_name n_ways n_held n_targets n_weights), (wI g n_kind 0 12 n_fkind), (wI g n_pay 0 12 n_fpay), (wI g n_name 0 12 n_fname), (wI g n_ways 0 12 n_fways), (wI g n_held 0 12 n_fheld), (wI g n_targets 0 36 n_ftargets), (wI g n_weights 0 36 n_fweights), (wO8 tp tp_bytes tl), (wI g tp_bytes 0 440 tf), (wO4 rd tp n rd_kindWords ww 4 otpl_72452 onx_72450 otk_72451 otpl_72452 otv_72453)] H := hP
            have hD : va_D A [(wI g rd_kindWords 0 4 kwf), (wO2 n n_nodes n_kind n_pay n_name n_ways n_held n_targets n_weights), (wI g n_kind 0 12 n_fkind), (wI g n_pay 0 12 n_fpay), (wI g n_name 0 12 n_fname), (wI g n_ways 0 12 n_fways), (wI g n_held 0 12 n_fheld), (wI g n_targets 0 36 n_ftargets), (wI g n_weights 0 36 n_fweights), (wO8 tp tp_bytes tl), (wI g tp_bytes 0 440 tf), (wO4 rd tp n rd_kindWords ww 4 otpl_72452 onx_72450 otk_72451 otpl_72452 otv_72453)] := hD
            refine lv_aload_n hx hb dX4_readStart_85 rfl (lv_at hl 1 rfl) ?_
            refine va_get (D := D) (ci := 4) (v := .int 4) (C := RX4) (T := TX4) (N := 10) hx hb hts inlX4 hown hK hP 11 rfl rfl 4 (by decide) (hts (Cond.fieldLink RX4 41 "ChanceRings$Reader" "faultKind" "I") qw_378) (fun _ h9 => h9) rfl dX4_readStart_86 ?_
            refine lv_if_ne (tgt := 96) hx hb dX4_readStart_89 (by decide) (fun _ => ?_) (fun h9 => absurd h9 (by decide))
            refine lv_iconst (v := (-1)) hx hb dX4_readStart_96 (by decide) ?_
            have hP9 := hP.sub (ws' := [(wO4 rd tp n rd_kindWords ww 4 otpl_72452 onx_72450 otk_72451 otpl_72452 otv_72453), (wO8 tp tp_bytes tl), (wI g tp_bytes 0 440 tf), (wI g rd_kindWords 0 4 kwf), (wO2 n n_nodes n_kind n_pay n_name n_ways n_held n_targets n_weights), (wI g n_kind 0 12 n_fkind), (wI g n_pay 0 12 n_fpay), (wI g n_name 0 12 n_fname), (wI g n_ways 0 12 n_fways), (wI g n_held 0 12 n_fheld), (wI g n_targets 0 36 n_ftargets), (wI g n_weights 0 36 n_fweights)]) [11, 9, 10, 0, 1, 2, 3, 4, 5, 6, 7, 8] rfl
            have hD9 := hD.sub (ws' := [(wO4 rd tp n rd_kindWords ww 4 otpl_72452 onx_72450 otk_72451 otpl_72452 otv_72453), (wO8 tp tp_bytes tl), (wI g tp_bytes 0 440 tf), (wI g rd_kindWords 0 4 kwf), (wO2 n n_nodes n_kind n_pay n_name n_ways n_held n_targets n_weights), (wI g n_kind 0 12 n_fkind), (wI g n_pay 0 12 n_fpay), (wI g n_name 0 12 n_fname), (wI g n_ways 0 12 n_fways), (wI g n_held 0 12 n_fheld), (wI g n_targets 0 36 n_ftargets), (wI g n_weights 0 36 n_fweights)]) [11, 9, 10, 0, 1, 2, 3, 4, 5, 6, 7, 8] (by decide) rfl
            exact W.iret (v := (-1)) hx hb hr (fun t ht hW => ⟨⟨(-1), (-1), rfl, ⟨rfl, (⟨by decide, by decide⟩ : (-1) ≤ ((-1) : Int32).toInt ∧ ((-1) : Int32).toInt ≤ 11)⟩, 4, otpl_72452, onx_72450, otk_72451, otpl_72452, otv_72453, (⟨by decide, by decide⟩ : 0 ≤ (4 : Int32).toInt ∧ (4 : Int32).toInt ≤ 5), (tr_w hf_72456 (by decide) (by decide)), (tr_w hf_72454 (by decide) (by decide)), (tr_w hf_72455 (by decide) (by decide)), (tr_w hf_72456 (by decide) (by decide)), (fun h9 => absurd h9 (by decide)), (fun _ => ⟨by decide, wfl_from hf_72457 hw_72473_p0_u (absC_fd hw_72471_p0) (Or.inr (Or.inr (by rw [absC_w (by (first | (clear h_fk h_fp h_nx h_tk h_tpl h_tl h_n_nodes hww hfk h_72448 hw_72459 c_72460_i h_72462 hw_72473 c_72474_i h_72475; omega) | omega))]; have q8 := gi_v_72485; have z_0 := tk_0; have z_1 := tk_1; have z_2 := tk_2; have z_3 := tk_3; have z_m := tk_m1; have z_9 := tk_9; have z_4 := tk_4; (first | (clear h_fk h_fp h_nx h_tk h_tpl h_tl h_n_nodes hww hfk h_72448 hw_72459 c_72460_i h_72462 hw_72473 c_72474_i h_72475; omega) | omega)))) (by (first | (clear h_fk h_fp h_nx h_tk h_tpl h_tl h_n_nodes hww hfk h_72448 hw_72459 c_72460_i h_72462 hw_72473 c_72474_i h_72475; omega) | omega))⟩), by rw [ht]; exact hP9, hD9⟩, hS.F ht⟩) hS.2.2 dX4_readStart_97
        · skip
          have c_72482_i : (v_72481 : Int32).toInt = (0 : Int32).toInt := congrArg Int32.toInt c_72482
          have h_72484 : 0 ≤ (v_72481 : Int32).toInt ∧ (v_72481 : Int32).toInt ≤ 0 := nr_eq_l h_v_72481 (⟨by decide, by decide⟩ : 0 ≤ (0 : Int32).toInt ∧ (0 : Int32).toInt ≤ 0) c_72482_i (by decide) (by decide)
          refine lv_aload_n hx hb dX4_readStart_59 rfl (lv_at hl 1 rfl) ?_
          refine lv_iconst (v := 3) hx hb dX4_readStart_60 (by decide) ?_
          have hPc := hP.sub (ws' := [(wO4 rd tp n rd_kindWords ww fk fp onx_72450 otk_72451 otpl_72452 otv_72453)]) [9] rfl
          have hDc := hD.sub (ws' := [(wO4 rd tp n rd_kindWords ww fk fp onx_72450 otk_72451 otpl_72452 otv_72453)]) [9] (by decide) rfl
          have hFc := va_free (wc := [(wO4 rd tp n rd_kindWords ww fk fp onx_72450 otk_72451 otpl_72452 otv_72453)]) hD hS hA [9] rfl
          refine va_callv (va_runV (As := [.int 3]) (rest := []) ⟨hx, hb, hml, hown, hts⟩ (c_X4_fail l D g H.size rd 3 tp n rd_kindWords ww fk fp onx_72450 otk_72451 otpl_72452 otv_72453 (⟨by decide, by decide⟩ : 0 ≤ (3 : Int32).toInt ∧ (3 : Int32).toInt ≤ 5) (tr_w h_72448 (by decide) (by decide)) (tr_w h_fp (by decide) (by decide)) (tr_w hf_72454 (by decide) (by decide)) (tr_w hf_72455 (by decide) (by decide)) (tr_w hf_72456 (by decide) (by decide))) (cwV 1 hts (tz_gV qw_414 qw_415 qw_416 qw_384 qw_417) rfl rfl rfl (by decide +kernel) ⟨Nat.le_of_ble_eq_true rfl, Nat.le_of_ble_eq_true rfl⟩) ⟨tz_blQ, va_recv hK hPc (ci := 4) (q0 := 0) rfl rfl, tz_preQ hPc hK hDc⟩ rfl rfl hl.1 rfl (lv_room (Nat.le_of_ble_eq_true rfl)) dX4_readStart_61 ⟨Nat.le_of_ble_eq_true rfl, Nat.le_of_ble_eq_true rfl⟩) hS (fun q _ h => hFc q h) hFc (fun u t H1 locs ht hvm hw hB hz1 hk1 hS => ?_)
          obtain ⟨hP1, hD1⟩ := hB
          rw [ht] at hP1
          obtain ⟨hP, hD⟩ := va_join (wr := [(wI g rd_kindWords 0 4 kwf), (wO2 n n_nodes n_kind n_pay n_name n_ways n_held n_targets n_weights), (wI g n_kind 0 12 n_fkind), (wI g n_pay 0 12 n_fpay), (wI g n_name 0 12 n_fname), (wI g n_ways 0 12 n_fways), (wI g n_held 0 12 n_fheld), (wI g n_targets 0 36 n_ftargets), (wI g n_weights 0 36 n_fweights), (wO8 tp tp_bytes tl), (wI g tp_bytes 0 440 tf)]) (w1 := [(wO4 rd tp n rd_kindWords ww 3 otpl_72452 onx_72450 otk_72451 otpl_72452 otv_72453)]) hP hD [9] [0, 1, 2, 3, 4, 5, 6, 7, 8, 10, 11] rfl rfl (by decide) (by decide) hk1 hFc hP1 hD1
          generalize H1 = H at hP hS ⊢
          have hP : va_P D vwCl [(wI g rd_kindWords 0 4 kwf), (wO2 n n_nodes n_kind n_pay n_name n_ways n_held n_targets n_weights), (wI g n_kind 0 12 n_fkind), (wI g n_pay 0 12 n_fpay), (wI g n_name 0 12 n_fname), (wI g n_ways 0 12 n_fways), (wI g n_held 0 12 n_fheld), (wI g n_targets 0 36 n_ftargets), (wI g n_weights 0 36 n_fweights), (wO8 tp tp_bytes tl), (wI g tp_bytes 0 440 tf), (wO4 rd tp n rd_kindWords ww 3 otpl_72452 onx_72450 otk_72451 otpl_72452 otv_72453)] H := hP
          have hD : va_D A [(wI g rd_kindWords 0 4 kwf), (wO2 n n_nodes n_kind n_pay n_name n_ways n_held n_targets n_weights), (wI g n_kind 0 12 n_fkind), (wI g n_pay 0 12 n_fpay), (wI g n_name 0 12 n_fname), (wI g n_ways 0 12 n_fways), (wI g n_held 0 12 n_fheld), (wI g n_targets 0 36 n_ftargets), (wI g n_weights 0 36 n_fweights), (wO8 tp tp_bytes tl), (wI g tp_bytes 0 440 tf), (wO4 rd tp n rd_kindWords ww 3 otpl_72452 onx_72450 otk_72451 otpl_72452 otv_72453)] := hD
          refine lv_goto (tgt := 85) hx hb dX4_readStart_64 (by decide) ?_
          refine lv_aload_n hx hb dX4_readStart_85 rfl (lv_at hl 1 rfl) ?_
          refine va_get (D := D) (ci := 4) (v := .int 3) (C := RX4) (T := TX4) (N := 10) hx hb hts inlX4 hown hK hP 11 rfl rfl 4 (by decide) (hts (Cond.fieldLink RX4 41 "ChanceRings$Reader" "faultKind" "I") qw_378) (fun _ h9 => h9) rfl dX4_readStart_86 ?_
          refine lv_if_ne (tgt := 96) hx hb dX4_readStart_89 (by decide) (fun _ => ?_) (fun h9 => absurd h9 (by decide))
          refine lv_iconst (v := (-1)) hx hb dX4_readStart_96 (by decide) ?_
          have hP9 := hP.sub (ws' := [(wO4 rd tp n rd_kindWords ww 3 otpl_72452 onx_72450 otk_72451 otpl_72452 otv_72453), (wO8 tp tp_bytes tl), (wI g tp_bytes 0 440 tf), (wI g rd_kindWords 0 4 kwf), (wO2 n n_nodes n_kind n_pay n_name n_ways n_held n_targets n_weights), (wI g n_kind 0 12 n_fkind), (wI g n_pay 0 12 n_fpay), (wI g n_name 0 12 n_fname), (wI g n_ways 0 12 n_fways), (wI g n_held 0 12 n_fheld), (wI g n_targets 0 36 n_ftargets), (wI g n_weights 0 36 n_fweights)]) [11, 9, 10, 0, 1, 2, 3, 4, 5, 6, 7, 8] rfl
          have hD9 := hD.sub (ws' := [(wO4 rd tp n rd_kindWords ww 3 otpl_72452 onx_72450 otk_72451 otpl_72452 otv_72453), (wO8 tp tp_bytes tl), (wI g tp_bytes 0 440 tf), (wI g rd_kindWords 0 4 kwf), (wO2 n n_nodes n_kind n_pay n_name n_ways n_held n_targets n_weights), (wI g n_kind 0 12 n_fkind), (wI g n_pay 0 12 n_fpay), (wI g n_name 0 12 n_fname), (wI g n_ways 0 12 n_fways), (wI g n_held 0 12 n_fheld), (wI g n_targets 0 36 n_ftargets), (wI g n_weights 0 36 n_fweights)]) [11, 9, 10, 0, 1, 2, 3, 4, 5, 6, 7, 8] (by decide) rfl
          exact W.iret (v := (-1)) hx hb hr (fun t ht hW => ⟨⟨(-1), (-1), rfl, ⟨rfl, (⟨by decide, by decide⟩ : (-1) ≤ ((-1) : Int32).toInt ∧ ((-1) : Int32).toInt ≤ 11)⟩, 3, otpl_72452, onx_72450, otk_72451, otpl_72452, otv_72453, (⟨by decide, by decide⟩ : 0 ≤ (3 : Int32).toInt ∧ (3 : Int32).toInt ≤ 5), (tr_w hf_72456 (by decide) (by decide)), (tr_w hf_72454 (by decide) (by decide)), (tr_w hf_72455 (by decide) (by decide)), (tr_w hf_72456 (by decide) (by decide)), (fun h9 => absurd h9 (by decide)), (fun _ => ⟨by decide, wfl_from hf_72457 hw_72473_p0_u (absC_fd hw_72471_p0) (Or.inr (Or.inl (by rw [absC_k (by (first | (clear h_fk h_fp h_nx h_tk h_tpl h_tl h_n_nodes hww hfk h_72448 hw_72459 c_72460_i h_72462 hw_72473 c_72474_i h_72475; omega) | omega))]; have q8 := gi_v_72481; have z_0 := tk_0; have z_1 := tk_1; have z_2 := tk_2; have z_3 := tk_3; have z_m := tk_m1; have z_9 := tk_9; have z_4 := tk_4; (first | (clear h_fk h_fp h_nx h_tk h_tpl h_tl h_n_nodes hww hfk h_72448 hw_72459 c_72460_i h_72462 hw_72473 c_72474_i h_72475; omega) | omega)))) (by (first | (clear h_fk h_fp h_nx h_tk h_tpl h_tl h_n_nodes hww hfk h_72448 hw_72459 c_72460_i h_72462 hw_72473 c_72474_i h_72475; omega) | omega))⟩), by rw [ht]; exact hP9, hD9⟩, hS.F ht⟩) hS.2.2 dX4_readStart_97
    · skip
      have c_72474_i : (r_72472 : Int32).toInt = (0 : Int32).toInt := congrArg Int32.toInt c_72474
      have hw_72473_p1_u := (hw_72473_p1).get (c_72474_i.trans tk_0)
      have h_72476 : 0 ≤ (r_72472 : Int32).toInt ∧ (r_72472 : Int32).toInt ≤ 0 := nr_eq_l hw_72473 (⟨by decide, by decide⟩ : 0 ≤ (0 : Int32).toInt ∧ (0 : Int32).toInt ≤ 0) c_72474_i (by decide) (by decide)
      refine lv_aload_n hx hb dX4_readStart_34 rfl (lv_at hl 1 rfl) ?_
      refine lv_iconst (v := 1) hx hb dX4_readStart_35 (by decide) ?_
      have hPc := hP.sub (ws' := [(wO4 rd tp n rd_kindWords ww fk fp onx_72450 otk_72451 otpl_72452 otv_72453)]) [9] rfl
      have hDc := hD.sub (ws' := [(wO4 rd tp n rd_kindWords ww fk fp onx_72450 otk_72451 otpl_72452 otv_72453)]) [9] (by decide) rfl
      have hFc := va_free (wc := [(wO4 rd tp n rd_kindWords ww fk fp onx_72450 otk_72451 otpl_72452 otv_72453)]) hD hS hA [9] rfl
      refine va_callv (va_runV (As := [.int 1]) (rest := []) ⟨hx, hb, hml, hown, hts⟩ (c_X4_fail l D g H.size rd 1 tp n rd_kindWords ww fk fp onx_72450 otk_72451 otpl_72452 otv_72453 (⟨by decide, by decide⟩ : 0 ≤ (1 : Int32).toInt ∧ (1 : Int32).toInt ≤ 5) (tr_w h_72448 (by decide) (by decide)) (tr_w h_fp (by decide) (by decide)) (tr_w hf_72454 (by decide) (by decide)) (tr_w hf_72455 (by decide) (by decide)) (tr_w hf_72456 (by decide) (by decide))) (cwV 1 hts (tz_gV qw_414 qw_415 qw_416 qw_384 qw_417) rfl rfl rfl (by decide +kernel) ⟨Nat.le_of_ble_eq_true rfl, Nat.le_of_ble_eq_true rfl⟩) ⟨tz_blQ, va_recv hK hPc (ci := 4) (q0 := 0) rfl rfl, tz_preQ hPc hK hDc⟩ rfl rfl hl.1 rfl (lv_room (Nat.le_of_ble_eq_true rfl)) dX4_readStart_36 ⟨Nat.le_of_ble_eq_true rfl, Nat.le_of_ble_eq_true rfl⟩) hS (fun q _ h => hFc q h) hFc (fun u t H1 locs ht hvm hw hB hz1 hk1 hS => ?_)
      obtain ⟨hP1, hD1⟩ := hB
      rw [ht] at hP1
      obtain ⟨hP, hD⟩ := va_join (wr := [(wI g rd_kindWords 0 4 kwf), (wO2 n n_nodes n_kind n_pay n_name n_ways n_held n_targets n_weights), (wI g n_kind 0 12 n_fkind), (wI g n_pay 0 12 n_fpay), (wI g n_name 0 12 n_fname), (wI g n_ways 0 12 n_fways), (wI g n_held 0 12 n_fheld), (wI g n_targets 0 36 n_ftargets), (wI g n_weights 0 36 n_fweights), (wO8 tp tp_bytes tl), (wI g tp_bytes 0 440 tf)]) (w1 := [(wO4 rd tp n rd_kindWords ww 1 otpl_72452 onx_72450 otk_72451 otpl_72452 otv_72453)]) hP hD [9] [0, 1, 2, 3, 4, 5, 6, 7, 8, 10, 11] rfl rfl (by decide) (by decide) hk1 hFc hP1 hD1
      generalize H1 = H at hP hS ⊢
      have hP : va_P D vwCl [(wI g rd_kindWords 0 4 kwf), (wO2 n n_nodes n_kind n_pay n_name n_ways n_held n_targets n_weights), (wI g n_kind 0 12 n_fkind), (wI g n_pay 0 12 n_fpay), (wI g n_name 0 12 n_fname), (wI g n_ways 0 12 n_fways), (wI g n_held 0 12 n_fheld), (wI g n_targets 0 36 n_ftargets), (wI g n_weights 0 36 n_fweights), (wO8 tp tp_bytes tl), (wI g tp_bytes 0 440 tf), (wO4 rd tp n rd_kindWords ww 1 otpl_72452 onx_72450 otk_72451 otpl_72452 otv_72453)] H := hP
      have hD : va_D A [(wI g rd_kindWords 0 4 kwf), (wO2 n n_nodes n_kind n_pay n_name n_ways n_held n_targets n_weights), (wI g n_kind 0 12 n_fkind), (wI g n_pay 0 12 n_fpay), (wI g n_name 0 12 n_fname), (wI g n_ways 0 12 n_fways), (wI g n_held 0 12 n_fheld), (wI g n_targets 0 36 n_ftargets), (wI g n_weights 0 36 n_fweights), (wO8 tp tp_bytes tl), (wI g tp_bytes 0 440 tf), (wO4 rd tp n rd_kindWords ww 1 otpl_72452 onx_72450 otk_72451 otpl_72452 otv_72453)] := hD
      refine lv_goto (tgt := 85) hx hb dX4_readStart_39 (by decide) ?_
      refine lv_aload_n hx hb dX4_readStart_85 rfl (lv_at hl 1 rfl) ?_
      refine va_get (D := D) (ci := 4) (v := .int 1) (C := RX4) (T := TX4) (N := 10) hx hb hts inlX4 hown hK hP 11 rfl rfl 4 (by decide) (hts (Cond.fieldLink RX4 41 "ChanceRings$Reader" "faultKind" "I") qw_378) (fun _ h9 => h9) rfl dX4_readStart_86 ?_
      refine lv_if_ne (tgt := 96) hx hb dX4_readStart_89 (by decide) (fun _ => ?_) (fun h9 => absurd h9 (by decide))
      refine lv_iconst (v := (-1)) hx hb dX4_readStart_96 (by decide) ?_
      have hP9 := hP.sub (ws' := [(wO4 rd tp n rd_kindWords ww 1 otpl_72452 onx_72450 otk_72451 otpl_72452 otv_72453), (wO8 tp tp_bytes tl), (wI g tp_bytes 0 440 tf), (wI g rd_kindWords 0 4 kwf), (wO2 n n_nodes n_kind n_pay n_name n_ways n_held n_targets n_weights), (wI g n_kind 0 12 n_fkind), (wI g n_pay 0 12 n_fpay), (wI g n_name 0 12 n_fname), (wI g n_ways 0 12 n_fways), (wI g n_held 0 12 n_fheld), (wI g n_targets 0 36 n_ftargets), (wI g n_weights 0 36 n_fweights)]) [11, 9, 10, 0, 1, 2, 3, 4, 5, 6, 7, 8] rfl
      have hD9 := hD.sub (ws' := [(wO4 rd tp n rd_kindWords ww 1 otpl_72452 onx_72450 otk_72451 otpl_72452 otv_72453), (wO8 tp tp_bytes tl), (wI g tp_bytes 0 440 tf), (wI g rd_kindWords 0 4 kwf), (wO2 n n_nodes n_kind n_pay n_name n_ways n_held n_targets n_weights), (wI g n_kind 0 12 n_fkind), (wI g n_pay 0 12 n_fpay), (wI g n_name 0 12 n_fname), (wI g n_ways 0 12 n_fways), (wI g n_held 0 12 n_fheld), (wI g n_targets 0 36 n_ftargets), (wI g n_weights 0 36 n_fweights)]) [11, 9, 10, 0, 1, 2, 3, 4, 5, 6, 7, 8] (by decide) rfl
      exact W.iret (v := (-1)) hx hb hr (fun t ht hW => ⟨⟨(-1), (-1), rfl, ⟨rfl, (⟨by decide, by decide⟩ : (-1) ≤ ((-1) : Int32).toInt ∧ ((-1) : Int32).toInt ≤ 11)⟩, 1, otpl_72452, onx_72450, otk_72451, otpl_72452, otv_72453, (⟨by decide, by decide⟩ : 0 ≤ (1 : Int32).toInt ∧ (1 : Int32).toInt ≤ 5), (tr_w hf_72456 (by decide) (by decide)), (tr_w hf_72454 (by decide) (by decide)), (tr_w hf_72455 (by decide) (by decide)), (tr_w hf_72456 (by decide) (by decide)), (fun h9 => absurd h9 (by decide)), (fun _ => ⟨by decide, wfl_name hf_72457 hw_72473_p1_u (by (first | (clear h_fk h_fp h_nx h_tk h_tpl h_tl h_n_nodes hww hfk h_72448 hw_72459 c_72460_i h_72462 hw_72471 hw_72473 c_72474_i h_72476; omega) | omega))⟩), by rw [ht]; exact hP9, hD9⟩, hS.F ht⟩) hS.2.2 dX4_readStart_97
set_option maxHeartbeats 4000000 in
set_option maxRecDepth 100000 in
theorem c_X4_isWeightFor (l : Launch) (D : va_G) (g : Nat → ClassId) (sz : Nat) (rd : Nat) (p0 : Int32) (tp : Nat) (n : Nat) (rd_kindWords : Nat) (ww : Int32) (fk : Int32) (fp : Int32) (nx : Int32) (tk : Int32) (tpl : Int32) (tv : Int32) (n_nodes : Int32) (n_kind : Nat) (n_pay : Nat) (n_name : Nat) (n_ways : Nat) (n_held : Nat) (n_targets : Nat) (n_weights : Nat) (n_fkind : Nat → Int32) (n_fways : Nat → Int32) (n_fweights : Nat → Int32) (h_p0 : 0 ≤ (p0 : Int32).toInt ∧ (p0 : Int32).toInt ≤ 11) (h_fk : 0 ≤ (fk : Int32).toInt ∧ (fk : Int32).toInt ≤ 5) (h_fp : 0 ≤ (fp : Int32).toInt ∧ (fp : Int32).toInt ≤ 440) (h_nx : 0 ≤ (nx : Int32).toInt ∧ (nx : Int32).toInt ≤ 440) (h_tk : 0 ≤ (tk : Int32).toInt ∧ (tk : Int32).toInt ≤ 4) (h_tpl : 0 ≤ (tpl : Int32).toInt ∧ (tpl : Int32).toInt ≤ 440) (h_n_nodes : 0 ≤ (n_nodes : Int32).toInt ∧ (n_nodes : Int32).toInt ≤ 12) (h_n_fkind : ∀ j : Nat, 0 ≤ (n_fkind j).toInt ∧ (n_fkind j).toInt ≤ 3) (h_n_fways : ∀ j : Nat, 0 ≤ (n_fways j).toInt ∧ (n_fways j).toInt ≤ 3) (hfk : (fk : Int32).toInt = 0) (hwr : ∀ i : Nat, (i : Int) < (n_fways (p0 : Int32).toInt.toNat).toInt → 0 ≤ (n_fweights (3 * (p0 : Int32).toInt.toNat + i)).toInt ∧ (n_fweights (3 * (p0 : Int32).toInt.toNat + i)).toInt ≤ 3) : Met l yX4_isWeightFor (.code yX4_isWeightFor cX4_isWeightFor 2 (some .boolean) :: wsL_law) ({ frames := 2, cells := 0, slots := 0, locals := 43 }) (va_Pc [.ref rd, .int p0] (fun U => U.heap.size = sz ∧ va_P D vwCl [(wO4 rd tp n rd_kindWords ww fk fp nx tk tpl tv), (wO2 n n_nodes n_kind n_pay n_name n_ways n_held n_targets n_weights), (wI g n_kind 0 12 n_fkind), (wI g n_ways 0 12 n_fways), (wI g n_weights 0 36 n_fweights)] U.heap ∧ va_K D vwCl (TY g) U ∧ va_D (fun _ => True) [(wO4 rd tp n rd_kindWords ww fk fp nx tk tpl tv), (wO2 n n_nodes n_kind n_pay n_name n_ways n_held n_targets n_weights), (wI g n_kind 0 12 n_fkind), (wI g n_ways 0 12 n_fways), (wI g n_weights 0 36 n_fweights)])) (va_Qi (fun (r u : Int32) => u = r ∧ (0 ≤ (r : Int32).toInt ∧ (r : Int32).toInt ≤ 1)) (fun r t => ∃ ofk : Int32, ∃ ofp : Int32, (0 ≤ (ofk : Int32).toInt ∧ (ofk : Int32).toInt ≤ 5) ∧ (0 ≤ (ofp : Int32).toInt ∧ (ofp : Int32).toInt ≤ 440) ∧ (Hide (¬ (r : Int32).toInt = 0 → (n_fkind (p0 : Int32).toInt.toNat).toInt = 3 ∧ 1 ≤ (tv : Int32).toInt ∧ (tv : Int32).toInt ≤ 3 ∧ wsf (fun i => (n_fweights (3 * (p0 : Int32).toInt.toNat + i)).toInt) (n_fways (p0 : Int32).toInt.toNat).toInt.toNat + (tv : Int32).toInt ≤ 4 ∧ (ofk : Int32).toInt = 0)) ∧ (Hide ((r : Int32).toInt = 0 → ((n_fkind (p0 : Int32).toInt.toNat).toInt ≠ 3 ∨ ((n_fkind (p0 : Int32).toInt.toNat).toInt = 3 ∧ ¬ (1 ≤ (tv : Int32).toInt ∧ (tv : Int32).toInt ≤ 3 ∧ wsf (fun i => (n_fweights (3 * (p0 : Int32).toInt.toNat + i)).toInt) (n_fways (p0 : Int32).toInt.toNat).toInt.toNat + (tv : Int32).toInt ≤ 4))) ∧ (¬ (ofk : Int32).toInt = 0) ∧ (ofp : Int32).toInt = (tpl : Int32).toInt)) ∧ va_P D vwCl [(wO4 rd tp n rd_kindWords ww ofk ofp nx tk tpl tv), (wO2 n n_nodes n_kind n_pay n_name n_ways n_held n_targets n_weights), (wI g n_kind 0 12 n_fkind), (wI g n_ways 0 12 n_fways), (wI g n_weights 0 36 n_fweights)] t.heap ∧ va_D (va_A [(wO4 rd tp n rd_kindWords ww fk fp nx tk tpl tv), (wO2 n n_nodes n_kind n_pay n_name n_ways n_held n_targets n_weights), (wI g n_kind 0 12 n_fkind), (wI g n_ways 0 12 n_fways), (wI g n_weights 0 36 n_fweights)] sz) [(wO4 rd tp n rd_kindWords ww ofk ofp nx tk tpl tv), (wO2 n n_nodes n_kind n_pay n_name n_ways n_held n_targets n_weights), (wI g n_kind 0 12 n_fkind), (wI g n_ways 0 12 n_fways), (wI g n_weights 0 36 n_fweights)]) (va_A [(wO4 rd tp n rd_kindWords ww fk fp nx tk tpl tv), (wO2 n n_nodes n_kind n_pay n_name n_ways n_held n_targets n_weights), (wI g n_kind 0 12 n_fkind), (wI g n_ways 0 12 n_fways), (wI g n_weights 0 36 n_fweights)] sz)) 0 0 (va_A [(wO4 rd tp n rd_kindWords ww fk fp nx tk tpl tv), (wO2 n n_nodes n_kind n_pay n_name n_ways n_held n_targets n_weights), (wI g n_kind 0 12 n_fkind), (wI g n_ways 0 12 n_fways), (wI g n_weights 0 36 n_fweights)] sz) := by
  refine Met.ofW (cc := cX4_isWeightFor) (maxL := 2) (ret := (some .boolean)) (by decide) rfl ?_
  intro p e s m args below meth c s₁ B hml hv
  obtain ⟨ha, hsz, hP, hK, hD0⟩ := hv
  have hx := B.exec
  have hb := B.bytes
  have hr := B.returns
  have hts0 := atoms_spec (ws := (.code yX4_isWeightFor cX4_isWeightFor 2 (some .boolean) :: wsL_law)) B.pre
  have hts : ∀ w ∈ wsL_law, w.before args s = true := fun w h => hts0 w (List.mem_cons_of_mem _ h)
  have hown : s.vm.findClass RX4 = some m.cls := findClass_of_methodNamed B.named
  have hlocks := B.notSynchronized
  subst hsz
  have hD := hD0.self (sz := s.heap.size)
  generalize hAe : va_A [(wO4 rd tp n rd_kindWords ww fk fp nx tk tpl tv), (wO2 n n_nodes n_kind n_pay n_name n_ways n_held n_targets n_weights), (wI g n_kind 0 12 n_fkind), (wI g n_ways 0 12 n_fways), (wI g n_weights 0 36 n_fweights)] s.heap.size = A at hD ⊢
  have hA : ∀ q : Nat, s.heap.size ≤ q → A q := fun q h => by rw [← hAe]; exact Or.inr h
  have hS : va_S A s.heap s.heap [] := va_S.rf
  have hP : va_P D vwCl [(wO4 rd tp n rd_kindWords ww fk fp nx tk tpl tv), (wO2 n n_nodes n_kind n_pay n_name n_ways n_held n_targets n_weights), (wI g n_kind 0 12 n_fkind), (wI g n_ways 0 12 n_fways), (wI g n_weights 0 36 n_fweights)] s.heap := hP
  refine W.eq (g2 := entryFrame m ([.ref rd, .int p0] : List Value).toArray 2) (by rw [ha]) ?_
  have hl := lv_entry ([.ref rd, .int p0]) (n := 2) (Nat.le_of_ble_eq_true rfl)
  rw [lg_entry_eq]
  generalize (lg_sl ([.ref rd, .int p0]) ++ List.replicate (2 - (lg_sl ([.ref rd, .int p0])).length) Slot.unset).toArray = ls at hl ⊢
  have hl : lv_has ls 2 [(0, .ref rd), (1, .int p0)] := hl
  have h_72493 : 0 ≤ (fk : Int32).toInt ∧ (fk : Int32).toInt ≤ 0 := by (first | (clear h_p0 h_fp h_nx h_tk h_tpl h_n_nodes; omega) | omega)
  refine lv_aload_n hx hb dX4_isWeightFor_0 rfl (lv_at hl 0 rfl) ?_
  refine va_get (D := D) (ci := 4) (v := .ref n) (C := RX4) (T := TX4) (N := 10) hx hb hts inlX4 hown hK hP 0 rfl rfl 1 (by decide) (hts (Cond.fieldLink RX4 15 "ChanceRings$Reader" "net" "LChanceRings$Net;") qw_408) (fun _ h9 => h9) rfl dX4_isWeightFor_1 ?_
  refine va_get (D := D) (ci := 2) (v := .ref n_kind) (C := RX2) (T := TX2) (N := 8) hx hb hts inlX2 hown hK hP 1 rfl rfl 1 (by decide) (hts (Cond.fieldLink RX4 80 "ChanceRings$Net" "kind" "[I") qw_442) (fun _ h9 => h9) rfl dX4_isWeightFor_4 ?_
  refine lv_iload_n hx hb dX4_isWeightFor_7 rfl (lv_at hl 1 rfl) ?_
  refine va_iald hx hb hK hP 2 0 rfl rfl (tr_in h_p0 (by decide) (by decide)) dX4_isWeightFor_8 ?_
  refine lv_topi (fun v_72494 v_72494_e => ?_)
  have h_v_72494 : 0 ≤ (v_72494 : Int32).toInt ∧ (v_72494 : Int32).toInt ≤ 3 := by rw [v_72494_e]; exact h_n_fkind _
  have g_v_72494 : v_72494 = n_fkind (p0.toInt.toNat) := v_72494_e.trans (congrArg n_fkind rfl)
  have gi_v_72494 := congrArg Int32.toInt g_v_72494
  refine lv_iconst (v := 3) hx hb dX4_isWeightFor_9 (by decide) ?_
  refine lv_icmp_eq (tgt := 21) hx hb dX4_isWeightFor_10 (by decide) (fun c_72495 => ?_) (fun c_72495 => ?_)
  · skip
    have kk_3 := tk_3
    have c_72495_i : (v_72494 : Int32).toInt = (3 : Int32).toInt := congrArg Int32.toInt c_72495
    have h_72496 : 3 ≤ (v_72494 : Int32).toInt ∧ (v_72494 : Int32).toInt ≤ 3 := nr_eq_l h_v_72494 (⟨by decide, by decide⟩ : 3 ≤ (3 : Int32).toInt ∧ (3 : Int32).toInt ≤ 3) c_72495_i (by decide) (by decide)
    refine lv_aload_n hx hb dX4_isWeightFor_21 rfl (lv_at hl 0 rfl) ?_
    refine va_get (D := D) (ci := 4) (v := .int tv) (C := RX4) (T := TX4) (N := 10) hx hb hts inlX4 hown hK hP 0 rfl rfl 9 (by decide) (hts (Cond.fieldLink RX4 86 "ChanceRings$Reader" "tokenValue" "I") qw_394) (fun _ h9 => h9) rfl dX4_isWeightFor_22 ?_
    refine lv_iconst (v := 1) hx hb dX4_isWeightFor_25 (by decide) ?_
    refine lv_icmp_lt (tgt := 37) hx hb dX4_isWeightFor_26 (by decide) (fun c_72498 => ?_) (fun c_72498 => ?_)
    · skip
      have kk_1 := tk_1
      have c_72498_i := Int32.lt_iff_toInt_lt.mp c_72498
      have h_72499 : (-2147483648) ≤ (tv : Int32).toInt ∧ (tv : Int32).toInt ≤ 0 := nr_lt_l (tr_any tv) (⟨by decide, by decide⟩ : 1 ≤ (1 : Int32).toInt ∧ (1 : Int32).toInt ≤ 1) c_72498_i (by decide) (by decide)
      refine lv_aload_n hx hb dX4_isWeightFor_37 rfl (lv_at hl 0 rfl) ?_
      refine lv_iconst (v := 2) hx hb dX4_isWeightFor_38 (by decide) ?_
      have hPc := hP.sub (ws' := [(wO4 rd tp n rd_kindWords ww fk fp nx tk tpl tv)]) [0] rfl
      have hDc := hD.sub (ws' := [(wO4 rd tp n rd_kindWords ww fk fp nx tk tpl tv)]) [0] (by decide) rfl
      have hFc := va_free (wc := [(wO4 rd tp n rd_kindWords ww fk fp nx tk tpl tv)]) hD hS hA [0] rfl
      refine va_callv (va_runV (As := [.int 2]) (rest := []) ⟨hx, hb, hml, hown, hts⟩ (c_X4_fail l D g s.heap.size rd 2 tp n rd_kindWords ww fk fp nx tk tpl tv (⟨by decide, by decide⟩ : 0 ≤ (2 : Int32).toInt ∧ (2 : Int32).toInt ≤ 5) (tr_w h_72493 (by decide) (by decide)) (tr_w h_fp (by decide) (by decide)) (tr_w h_nx (by decide) (by decide)) (tr_w h_tk (by decide) (by decide)) (tr_w h_tpl (by decide) (by decide))) (cwV 1 hts (tz_gV qw_414 qw_415 qw_416 qw_384 qw_417) rfl rfl rfl (by decide +kernel) ⟨Nat.le_of_ble_eq_true rfl, Nat.le_of_ble_eq_true rfl⟩) ⟨tz_blQ, va_recv hK hPc (ci := 4) (q0 := 0) rfl rfl, tz_preQ hPc hK hDc⟩ rfl rfl hl.1 rfl (lv_room (Nat.le_of_ble_eq_true rfl)) dX4_isWeightFor_39 ⟨Nat.le_of_ble_eq_true rfl, Nat.le_of_ble_eq_true rfl⟩) hS (fun q _ h => hFc q h) hFc (fun u t H1 locs ht hvm hw hB hz1 hk1 hS => ?_)
      obtain ⟨hP1, hD1⟩ := hB
      rw [ht] at hP1
      obtain ⟨hP, hD⟩ := va_join (wr := [(wO2 n n_nodes n_kind n_pay n_name n_ways n_held n_targets n_weights), (wI g n_kind 0 12 n_fkind), (wI g n_ways 0 12 n_fways), (wI g n_weights 0 36 n_fweights)]) (w1 := [(wO4 rd tp n rd_kindWords ww 2 tpl nx tk tpl tv)]) hP hD [0] [1, 2, 3, 4] rfl rfl (by decide) (by decide) hk1 hFc hP1 hD1
      generalize H1 = H at hP hS ⊢
      have hP : va_P D vwCl [(wO2 n n_nodes n_kind n_pay n_name n_ways n_held n_targets n_weights), (wI g n_kind 0 12 n_fkind), (wI g n_ways 0 12 n_fways), (wI g n_weights 0 36 n_fweights), (wO4 rd tp n rd_kindWords ww 2 tpl nx tk tpl tv)] H := hP
      have hD : va_D A [(wO2 n n_nodes n_kind n_pay n_name n_ways n_held n_targets n_weights), (wI g n_kind 0 12 n_fkind), (wI g n_ways 0 12 n_fways), (wI g n_weights 0 36 n_fweights), (wO4 rd tp n rd_kindWords ww 2 tpl nx tk tpl tv)] := hD
      refine lv_goto (tgt := 67) hx hb dX4_isWeightFor_42 (by decide) ?_
      refine lv_aload_n hx hb dX4_isWeightFor_67 rfl (lv_at hl 0 rfl) ?_
      refine va_get (D := D) (ci := 4) (v := .int 2) (C := RX4) (T := TX4) (N := 10) hx hb hts inlX4 hown hK hP 4 rfl rfl 4 (by decide) (hts (Cond.fieldLink RX4 41 "ChanceRings$Reader" "faultKind" "I") qw_378) (fun _ h9 => h9) rfl dX4_isWeightFor_68 ?_
      refine lv_if_ne (tgt := 78) hx hb dX4_isWeightFor_71 (by decide) (fun _ => ?_) (fun h9 => absurd h9 (by decide))
      refine lv_iconst (v := 0) hx hb dX4_isWeightFor_78 (by decide) ?_
      have hP9 := hP.sub (ws' := [(wO4 rd tp n rd_kindWords ww 2 tpl nx tk tpl tv), (wO2 n n_nodes n_kind n_pay n_name n_ways n_held n_targets n_weights), (wI g n_kind 0 12 n_fkind), (wI g n_ways 0 12 n_fways), (wI g n_weights 0 36 n_fweights)]) [4, 0, 1, 2, 3] rfl
      have hD9 := hD.sub (ws' := [(wO4 rd tp n rd_kindWords ww 2 tpl nx tk tpl tv), (wO2 n n_nodes n_kind n_pay n_name n_ways n_held n_targets n_weights), (wI g n_kind 0 12 n_fkind), (wI g n_ways 0 12 n_fways), (wI g n_weights 0 36 n_fweights)]) [4, 0, 1, 2, 3] (by decide) rfl
      exact W.zret (v := 0) hx hb hr (by decide) (fun t ht hW => ⟨⟨0, 0, rfl, ⟨rfl, (⟨by decide, by decide⟩ : 0 ≤ (0 : Int32).toInt ∧ (0 : Int32).toInt ≤ 1)⟩, 2, tpl, (⟨by decide, by decide⟩ : 0 ≤ (2 : Int32).toInt ∧ (2 : Int32).toInt ≤ 5), (tr_w h_tpl (by decide) (by decide)), (fun h9 => absurd (by decide) h9), (fun _ => ⟨(Or.inr ⟨(by have z_0 := tk_0; have z_1 := tk_1; have z_2 := tk_2; have z_3 := tk_3; have z_m := tk_m1; have z_9 := tk_9; have z_4 := tk_4; have q8 := gi_v_72494; (first | (clear h_fk h_fp h_nx h_tk h_n_nodes hfk h_72493 c_72498_i h_72499; omega) | omega)), fun h9 => by have z_0 := tk_0; have z_1 := tk_1; have z_2 := tk_2; have z_3 := tk_3; have z_m := tk_m1; have z_9 := tk_9; have z_4 := tk_4; (first | (clear h_fk h_fp h_nx h_tk h_n_nodes hfk h_72493 c_72498_i h_72499; omega) | omega)⟩), by decide, rfl⟩), by rw [ht]; exact hP9, hD9⟩, hS.F ht⟩) hS.2.2 dX4_isWeightFor_79
    · skip
      have kk_1 := tk_1
      have c_72498_i := Int32.le_iff_toInt_le.mp (Int32.not_lt.mp c_72498)
      have h_72500 : 1 ≤ (tv : Int32).toInt ∧ (tv : Int32).toInt ≤ 2147483647 := nr_le_r (⟨by decide, by decide⟩ : 1 ≤ (1 : Int32).toInt ∧ (1 : Int32).toInt ≤ 1) (tr_any tv) c_72498_i (by decide) (by decide)
      refine lv_aload_n hx hb dX4_isWeightFor_29 rfl (lv_at hl 0 rfl) ?_
      refine va_get (D := D) (ci := 4) (v := .int tv) (C := RX4) (T := TX4) (N := 10) hx hb hts inlX4 hown hK hP 0 rfl rfl 9 (by decide) (hts (Cond.fieldLink RX4 86 "ChanceRings$Reader" "tokenValue" "I") qw_394) (fun _ h9 => h9) rfl dX4_isWeightFor_30 ?_
      refine lv_iconst (v := 3) hx hb dX4_isWeightFor_33 (by decide) ?_
      refine lv_icmp_le (tgt := 45) hx hb dX4_isWeightFor_34 (by decide) (fun c_72502 => ?_) (fun c_72502 => ?_)
      · skip
        have c_72502_i := Int32.le_iff_toInt_le.mp c_72502
        have h_72503 : 1 ≤ (tv : Int32).toInt ∧ (tv : Int32).toInt ≤ 3 := nr_le_l h_72500 (⟨by decide, by decide⟩ : 3 ≤ (3 : Int32).toInt ∧ (3 : Int32).toInt ≤ 3) c_72502_i (by decide) (by decide)
        refine lv_aload_n hx hb dX4_isWeightFor_45 rfl (lv_at hl 0 rfl) ?_
        refine va_get (D := D) (ci := 4) (v := .ref n) (C := RX4) (T := TX4) (N := 10) hx hb hts inlX4 hown hK hP 0 rfl rfl 1 (by decide) (hts (Cond.fieldLink RX4 15 "ChanceRings$Reader" "net" "LChanceRings$Net;") qw_408) (fun _ h9 => h9) rfl dX4_isWeightFor_46 ?_
        refine lv_iload_n hx hb dX4_isWeightFor_49 rfl (lv_at hl 1 rfl) ?_
        have hPc := hP.sub (ws' := [(wO2 n n_nodes n_kind n_pay n_name n_ways n_held n_targets n_weights), (wI g n_kind 0 12 n_fkind), (wI g n_ways 0 12 n_fways), (wI g n_weights 0 36 n_fweights)]) [1, 2, 3, 4] rfl
        refine vp_callSi (va_Run.run (va_runV (As := [.int p0]) (rest := []) ⟨hx, hb, hml, hown, hts⟩ (c_X2_togetherR l D g n p0 n_nodes n_kind n_pay n_name n_ways n_held n_targets n_weights n_fkind n_fways n_fweights (tr_w h_p0 (by decide) (by decide)) (tr_w h_n_nodes (by decide) (by decide)) (tr_wa h_n_fkind (by decide) (by decide)) (tr_wa h_n_fways (by decide) (by decide)) hwr) (cwV 1 hts (tz_gV qw_444 qw_445 qw_446 qw_322 qw_447) rfl rfl rfl (by decide +kernel) ⟨Nat.le_of_ble_eq_true rfl, Nat.le_of_ble_eq_true rfl⟩) ⟨tz_blS, va_recv hK hPc (ci := 2) (q0 := 0) rfl rfl, tz_preS hPc hK⟩ rfl rfl hl.1 rfl (lv_room (Nat.le_of_ble_eq_true rfl)) dX4_isWeightFor_50 ⟨Nat.le_of_ble_eq_true rfl, Nat.le_of_ble_eq_true rfl⟩)) (fun r_72505 hw => ?_)
        have hw_72506 : 0 ≤ (r_72505 : Int32).toInt ∧ (r_72505 : Int32).toInt ≤ 9 := hw.1
        have hw_72506_p0 : Hide ((n_fkind (p0 : Int32).toInt.toNat).toInt = 3 → (r_72505 : Int32).toInt = wsf (fun i => (n_fweights (3 * (p0 : Int32).toInt.toNat + i)).toInt) (n_fways (p0 : Int32).toInt.toNat).toInt.toNat) := hw.2
        have tg_9 := (hw_72506_p0).get (by have q8 := gi_v_72494; have z_0 := tk_0; have z_1 := tk_1; have z_2 := tk_2; have z_3 := tk_3; have z_m := tk_m1; have z_9 := tk_9; have z_4 := tk_4; (first | (clear h_fk h_fp h_nx h_tk h_tpl h_n_nodes hfk h_72493 c_72498_i h_72500 c_72502_i h_72503 hw_72506; omega) | omega))
        refine lv_aload_n hx hb dX4_isWeightFor_53 rfl (lv_at hl 0 rfl) ?_
        refine va_get (D := D) (ci := 4) (v := .int tv) (C := RX4) (T := TX4) (N := 10) hx hb hts inlX4 hown hK hP 0 rfl rfl 9 (by decide) (hts (Cond.fieldLink RX4 86 "ChanceRings$Reader" "tokenValue" "I") qw_394) (fun _ h9 => h9) rfl dX4_isWeightFor_54 ?_
        refine lv_iadd hx hb dX4_isWeightFor_57 ?_
        refine lv_topi (fun v_72507 v_72507_e => ?_)
        have h_v_72507 : 1 ≤ (v_72507 : Int32).toInt ∧ (v_72507 : Int32).toInt ≤ 12 := by rw [v_72507_e]; exact tr_add hw_72506 h_72503 (by decide) (by decide) (by decide) (by decide)
        have q_v_72507 : v_72507.toInt = r_72505.toInt + tv.toInt := by rw [v_72507_e]; exact tr_addX hw_72506 h_72503 (by decide) (by decide)
        refine lv_iconst (v := 4) hx hb dX4_isWeightFor_58 (by decide) ?_
        refine lv_icmp_le (tgt := 67) hx hb dX4_isWeightFor_59 (by decide) (fun c_72508 => ?_) (fun c_72508 => ?_)
        · skip
          have kk_4 := tk_4
          have c_72508_i := Int32.le_iff_toInt_le.mp c_72508
          have h_72509 : 1 ≤ (v_72507 : Int32).toInt ∧ (v_72507 : Int32).toInt ≤ 4 := nr_le_l h_v_72507 (⟨by decide, by decide⟩ : 4 ≤ (4 : Int32).toInt ∧ (4 : Int32).toInt ≤ 4) c_72508_i (by decide) (by decide)
          refine lv_aload_n hx hb dX4_isWeightFor_67 rfl (lv_at hl 0 rfl) ?_
          refine va_get (D := D) (ci := 4) (v := .int fk) (C := RX4) (T := TX4) (N := 10) hx hb hts inlX4 hown hK hP 0 rfl rfl 4 (by decide) (hts (Cond.fieldLink RX4 41 "ChanceRings$Reader" "faultKind" "I") qw_378) (fun _ h9 => h9) rfl dX4_isWeightFor_68 ?_
          refine lv_if_ne (tgt := 78) hx hb dX4_isWeightFor_71 (by decide) (fun h9 => (nr_x_ne h_72493 (⟨by decide, by decide⟩ : 0 ≤ (0 : Int32).toInt ∧ (0 : Int32).toInt ≤ 0) (fun q => h9 (Int32.toInt_inj.mp q)) (by decide)).elim) (fun c_72511 => ?_)
          have kk_0 := tk_0
          have c_72511_i : (fk : Int32).toInt = (0 : Int32).toInt := congrArg Int32.toInt c_72511
          refine lv_iconst (v := 1) hx hb dX4_isWeightFor_74 (by decide) ?_
          refine lv_goto (tgt := 79) hx hb dX4_isWeightFor_75 (by decide) ?_
          have hP9 := hP.sub (ws' := [(wO4 rd tp n rd_kindWords ww fk fp nx tk tpl tv), (wO2 n n_nodes n_kind n_pay n_name n_ways n_held n_targets n_weights), (wI g n_kind 0 12 n_fkind), (wI g n_ways 0 12 n_fways), (wI g n_weights 0 36 n_fweights)]) [0, 1, 2, 3, 4] rfl
          have hD9 := hD.sub (ws' := [(wO4 rd tp n rd_kindWords ww fk fp nx tk tpl tv), (wO2 n n_nodes n_kind n_pay n_name n_ways n_held n_targets n_weights), (wI g n_kind 0 12 n_fkind), (wI g n_ways 0 12 n_fways), (wI g n_weights 0 36 n_fweights)]) [0, 1, 2, 3, 4] (by decide) rfl
          exact W.zret (v := 1) hx hb hr (by decide) (fun t ht hW => ⟨⟨1, 1, rfl, ⟨rfl, (⟨by decide, by decide⟩ : 0 ≤ (1 : Int32).toInt ∧ (1 : Int32).toInt ≤ 1)⟩, fk, fp, (tr_w h_72493 (by decide) (by decide)), (tr_w h_fp (by decide) (by decide)), (fun _ => ⟨(by have z_0 := tk_0; have z_1 := tk_1; have z_2 := tk_2; have z_3 := tk_3; have z_m := tk_m1; have z_9 := tk_9; have z_4 := tk_4; have q8 := gi_v_72494; (first | (clear h_nx h_tk h_tpl h_n_nodes c_72498_i h_72500 c_72502_i h_72503 hw_72506 h_v_72507 q_v_72507 c_72508_i h_72509; omega) | omega)), (by have z_0 := tk_0; have z_1 := tk_1; have z_2 := tk_2; have z_3 := tk_3; have z_m := tk_m1; have z_9 := tk_9; have z_4 := tk_4; (first | (clear h_nx h_tk h_tpl h_n_nodes c_72498_i h_72500 c_72502_i h_72503 hw_72506 h_v_72507 q_v_72507 c_72508_i h_72509; omega) | omega)), (by have z_0 := tk_0; have z_1 := tk_1; have z_2 := tk_2; have z_3 := tk_3; have z_m := tk_m1; have z_9 := tk_9; have z_4 := tk_4; (first | (clear h_nx h_tk h_tpl h_n_nodes c_72498_i h_72500 c_72502_i h_72503 hw_72506 h_v_72507 q_v_72507 c_72508_i h_72509; omega) | omega)), by rw [← tg_9]; have z_0 := tk_0; have z_1 := tk_1; have z_2 := tk_2; have z_3 := tk_3; have z_m := tk_m1; have z_9 := tk_9; have z_4 := tk_4; (first | (clear h_nx h_tk h_tpl h_n_nodes c_72498_i h_72500 c_72502_i h_72503 hw_72506 h_v_72507 q_v_72507 c_72508_i h_72509; omega) | omega), hfk⟩), (fun h9 => absurd h9 (by decide)), by rw [ht]; exact hP9, hD9⟩, hS.F ht⟩) hS.2.2 dX4_isWeightFor_79
        · skip
          have kk_4 := tk_4
          have c_72508_i := Int32.lt_iff_toInt_lt.mp (Int32.not_le.mp c_72508)
          have h_72510 : 5 ≤ (v_72507 : Int32).toInt ∧ (v_72507 : Int32).toInt ≤ 12 := nr_lt_r (⟨by decide, by decide⟩ : 4 ≤ (4 : Int32).toInt ∧ (4 : Int32).toInt ≤ 4) h_v_72507 c_72508_i (by decide) (by decide)
          refine lv_aload_n hx hb dX4_isWeightFor_62 rfl (lv_at hl 0 rfl) ?_
          refine lv_iconst (v := 2) hx hb dX4_isWeightFor_63 (by decide) ?_
          have hPc := hP.sub (ws' := [(wO4 rd tp n rd_kindWords ww fk fp nx tk tpl tv)]) [0] rfl
          have hDc := hD.sub (ws' := [(wO4 rd tp n rd_kindWords ww fk fp nx tk tpl tv)]) [0] (by decide) rfl
          have hFc := va_free (wc := [(wO4 rd tp n rd_kindWords ww fk fp nx tk tpl tv)]) hD hS hA [0] rfl
          refine va_callv (va_runV (As := [.int 2]) (rest := []) ⟨hx, hb, hml, hown, hts⟩ (c_X4_fail l D g s.heap.size rd 2 tp n rd_kindWords ww fk fp nx tk tpl tv (⟨by decide, by decide⟩ : 0 ≤ (2 : Int32).toInt ∧ (2 : Int32).toInt ≤ 5) (tr_w h_72493 (by decide) (by decide)) (tr_w h_fp (by decide) (by decide)) (tr_w h_nx (by decide) (by decide)) (tr_w h_tk (by decide) (by decide)) (tr_w h_tpl (by decide) (by decide))) (cwV 1 hts (tz_gV qw_414 qw_415 qw_416 qw_384 qw_417) rfl rfl rfl (by decide +kernel) ⟨Nat.le_of_ble_eq_true rfl, Nat.le_of_ble_eq_true rfl⟩) ⟨tz_blQ, va_recv hK hPc (ci := 4) (q0 := 0) rfl rfl, tz_preQ hPc hK hDc⟩ rfl rfl hl.1 rfl (lv_room (Nat.le_of_ble_eq_true rfl)) dX4_isWeightFor_64 ⟨Nat.le_of_ble_eq_true rfl, Nat.le_of_ble_eq_true rfl⟩) hS (fun q _ h => hFc q h) hFc (fun u t H1 locs ht hvm hw hB hz1 hk1 hS => ?_)
          obtain ⟨hP1, hD1⟩ := hB
          rw [ht] at hP1
          obtain ⟨hP, hD⟩ := va_join (wr := [(wO2 n n_nodes n_kind n_pay n_name n_ways n_held n_targets n_weights), (wI g n_kind 0 12 n_fkind), (wI g n_ways 0 12 n_fways), (wI g n_weights 0 36 n_fweights)]) (w1 := [(wO4 rd tp n rd_kindWords ww 2 tpl nx tk tpl tv)]) hP hD [0] [1, 2, 3, 4] rfl rfl (by decide) (by decide) hk1 hFc hP1 hD1
          generalize H1 = H at hP hS ⊢
          have hP : va_P D vwCl [(wO2 n n_nodes n_kind n_pay n_name n_ways n_held n_targets n_weights), (wI g n_kind 0 12 n_fkind), (wI g n_ways 0 12 n_fways), (wI g n_weights 0 36 n_fweights), (wO4 rd tp n rd_kindWords ww 2 tpl nx tk tpl tv)] H := hP
          have hD : va_D A [(wO2 n n_nodes n_kind n_pay n_name n_ways n_held n_targets n_weights), (wI g n_kind 0 12 n_fkind), (wI g n_ways 0 12 n_fways), (wI g n_weights 0 36 n_fweights), (wO4 rd tp n rd_kindWords ww 2 tpl nx tk tpl tv)] := hD
          refine lv_aload_n hx hb dX4_isWeightFor_67 rfl (lv_at hl 0 rfl) ?_
          refine va_get (D := D) (ci := 4) (v := .int 2) (C := RX4) (T := TX4) (N := 10) hx hb hts inlX4 hown hK hP 4 rfl rfl 4 (by decide) (hts (Cond.fieldLink RX4 41 "ChanceRings$Reader" "faultKind" "I") qw_378) (fun _ h9 => h9) rfl dX4_isWeightFor_68 ?_
          refine lv_if_ne (tgt := 78) hx hb dX4_isWeightFor_71 (by decide) (fun _ => ?_) (fun h9 => absurd h9 (by decide))
          refine lv_iconst (v := 0) hx hb dX4_isWeightFor_78 (by decide) ?_
          have hP9 := hP.sub (ws' := [(wO4 rd tp n rd_kindWords ww 2 tpl nx tk tpl tv), (wO2 n n_nodes n_kind n_pay n_name n_ways n_held n_targets n_weights), (wI g n_kind 0 12 n_fkind), (wI g n_ways 0 12 n_fways), (wI g n_weights 0 36 n_fweights)]) [4, 0, 1, 2, 3] rfl
          have hD9 := hD.sub (ws' := [(wO4 rd tp n rd_kindWords ww 2 tpl nx tk tpl tv), (wO2 n n_nodes n_kind n_pay n_name n_ways n_held n_targets n_weights), (wI g n_kind 0 12 n_fkind), (wI g n_ways 0 12 n_fways), (wI g n_weights 0 36 n_fweights)]) [4, 0, 1, 2, 3] (by decide) rfl
          exact W.zret (v := 0) hx hb hr (by decide) (fun t ht hW => ⟨⟨0, 0, rfl, ⟨rfl, (⟨by decide, by decide⟩ : 0 ≤ (0 : Int32).toInt ∧ (0 : Int32).toInt ≤ 1)⟩, 2, tpl, (⟨by decide, by decide⟩ : 0 ≤ (2 : Int32).toInt ∧ (2 : Int32).toInt ≤ 5), (tr_w h_tpl (by decide) (by decide)), (fun h9 => absurd (by decide) h9), (fun _ => ⟨(Or.inr ⟨(by have z_0 := tk_0; have z_1 := tk_1; have z_2 := tk_2; have z_3 := tk_3; have z_m := tk_m1; have z_9 := tk_9; have z_4 := tk_4; have q8 := gi_v_72494; (first | (clear h_fk h_fp h_nx h_tk h_n_nodes hfk h_72493 c_72498_i h_72500 c_72502_i h_72503 hw_72506 h_v_72507 q_v_72507 c_72508_i h_72510; omega) | omega)), fun h9 => by have q7 := h9.2.2; rw [← tg_9] at q7; have z_0 := tk_0; have z_1 := tk_1; have z_2 := tk_2; have z_3 := tk_3; have z_m := tk_m1; have z_9 := tk_9; have z_4 := tk_4; (first | (clear h_fk h_fp h_nx h_tk h_n_nodes hfk h_72493 c_72498_i h_72500 c_72502_i h_72503 hw_72506 h_v_72507 q_v_72507 c_72508_i h_72510; omega) | omega)⟩), by decide, rfl⟩), by rw [ht]; exact hP9, hD9⟩, hS.F ht⟩) hS.2.2 dX4_isWeightFor_79
      · skip
        have c_72502_i := Int32.lt_iff_toInt_lt.mp (Int32.not_le.mp c_72502)
        have h_72504 : 4 ≤ (tv : Int32).toInt ∧ (tv : Int32).toInt ≤ 2147483647 := nr_lt_r (⟨by decide, by decide⟩ : 3 ≤ (3 : Int32).toInt ∧ (3 : Int32).toInt ≤ 3) h_72500 c_72502_i (by decide) (by decide)
        refine lv_aload_n hx hb dX4_isWeightFor_37 rfl (lv_at hl 0 rfl) ?_
        refine lv_iconst (v := 2) hx hb dX4_isWeightFor_38 (by decide) ?_
        have hPc := hP.sub (ws' := [(wO4 rd tp n rd_kindWords ww fk fp nx tk tpl tv)]) [0] rfl
        have hDc := hD.sub (ws' := [(wO4 rd tp n rd_kindWords ww fk fp nx tk tpl tv)]) [0] (by decide) rfl
        have hFc := va_free (wc := [(wO4 rd tp n rd_kindWords ww fk fp nx tk tpl tv)]) hD hS hA [0] rfl
        refine va_callv (va_runV (As := [.int 2]) (rest := []) ⟨hx, hb, hml, hown, hts⟩ (c_X4_fail l D g s.heap.size rd 2 tp n rd_kindWords ww fk fp nx tk tpl tv (⟨by decide, by decide⟩ : 0 ≤ (2 : Int32).toInt ∧ (2 : Int32).toInt ≤ 5) (tr_w h_72493 (by decide) (by decide)) (tr_w h_fp (by decide) (by decide)) (tr_w h_nx (by decide) (by decide)) (tr_w h_tk (by decide) (by decide)) (tr_w h_tpl (by decide) (by decide))) (cwV 1 hts (tz_gV qw_414 qw_415 qw_416 qw_384 qw_417) rfl rfl rfl (by decide +kernel) ⟨Nat.le_of_ble_eq_true rfl, Nat.le_of_ble_eq_true rfl⟩) ⟨tz_blQ, va_recv hK hPc (ci := 4) (q0 := 0) rfl rfl, tz_preQ hPc hK hDc⟩ rfl rfl hl.1 rfl (lv_room (Nat.le_of_ble_eq_true rfl)) dX4_isWeightFor_39 ⟨Nat.le_of_ble_eq_true rfl, Nat.le_of_ble_eq_true rfl⟩) hS (fun q _ h => hFc q h) hFc (fun u t H1 locs ht hvm hw hB hz1 hk1 hS => ?_)
        obtain ⟨hP1, hD1⟩ := hB
        rw [ht] at hP1
        obtain ⟨hP, hD⟩ := va_join (wr := [(wO2 n n_nodes n_kind n_pay n_name n_ways n_held n_targets n_weights), (wI g n_kind 0 12 n_fkind), (wI g n_ways 0 12 n_fways), (wI g n_weights 0 36 n_fweights)]) (w1 := [(wO4 rd tp n rd_kindWords ww 2 tpl nx tk tpl tv)]) hP hD [0] [1, 2, 3, 4] rfl rfl (by decide) (by decide) hk1 hFc hP1 hD1
        generalize H1 = H at hP hS ⊢
        have hP : va_P D vwCl [(wO2 n n_nodes n_kind n_pay n_name n_ways n_held n_targets n_weights), (wI g n_kind 0 12 n_fkind), (wI g n_ways 0 12 n_fways), (wI g n_weights 0 36 n_fweights), (wO4 rd tp n rd_kindWords ww 2 tpl nx tk tpl tv)] H := hP
        have hD : va_D A [(wO2 n n_nodes n_kind n_pay n_name n_ways n_held n_targets n_weights), (wI g n_kind 0 12 n_fkind), (wI g n_ways 0 12 n_fways), (wI g n_weights 0 36 n_fweights), (wO4 rd tp n rd_kindWords ww 2 tpl nx tk tpl tv)] := hD
        refine lv_goto (tgt := 67) hx hb dX4_isWeightFor_42 (by decide) ?_
        refine lv_aload_n hx hb dX4_isWeightFor_67 rfl (lv_at hl 0 rfl) ?_
        refine va_get (D := D) (ci := 4) (v := .int 2) (C := RX4) (T := TX4) (N := 10) hx hb hts inlX4 hown hK hP 4 rfl rfl 4 (by decide) (hts (Cond.fieldLink RX4 41 "ChanceRings$Reader" "faultKind" "I") qw_378) (fun _ h9 => h9) rfl dX4_isWeightFor_68 ?_
        refine lv_if_ne (tgt := 78) hx hb dX4_isWeightFor_71 (by decide) (fun _ => ?_) (fun h9 => absurd h9 (by decide))
        refine lv_iconst (v := 0) hx hb dX4_isWeightFor_78 (by decide) ?_
        have hP9 := hP.sub (ws' := [(wO4 rd tp n rd_kindWords ww 2 tpl nx tk tpl tv), (wO2 n n_nodes n_kind n_pay n_name n_ways n_held n_targets n_weights), (wI g n_kind 0 12 n_fkind), (wI g n_ways 0 12 n_fways), (wI g n_weights 0 36 n_fweights)]) [4, 0, 1, 2, 3] rfl
        have hD9 := hD.sub (ws' := [(wO4 rd tp n rd_kindWords ww 2 tpl nx tk tpl tv), (wO2 n n_nodes n_kind n_pay n_name n_ways n_held n_targets n_weights), (wI g n_kind 0 12 n_fkind), (wI g n_ways 0 12 n_fways), (wI g n_weights 0 36 n_fweights)]) [4, 0, 1, 2, 3] (by decide) rfl
        exact W.zret (v := 0) hx hb hr (by decide) (fun t ht hW => ⟨⟨0, 0, rfl, ⟨rfl, (⟨by decide, by decide⟩ : 0 ≤ (0 : Int32).toInt ∧ (0 : Int32).toInt ≤ 1)⟩, 2, tpl, (⟨by decide, by decide⟩ : 0 ≤ (2 : Int32).toInt ∧ (2 : Int32).toInt ≤ 5), (tr_w h_tpl (by decide) (by decide)), (fun h9 => absurd (by decide) h9), (fun _ => ⟨(Or.inr ⟨(by have z_0 := tk_0; have z_1 := tk_1; have z_2 := tk_2; have z_3 := tk_3; have z_m := tk_m1; have z_9 := tk_9; have z_4 := tk_4; have q8 := gi_v_72494; (first | (clear h_fk h_fp h_nx h_tk h_n_nodes hfk h_72493 c_72498_i h_72500 c_72502_i h_72504; omega) | omega)), fun h9 => by have z_0 := tk_0; have z_1 := tk_1; have z_2 := tk_2; have z_3 := tk_3; have z_m := tk_m1; have z_9 := tk_9; have z_4 := tk_4; (first | (clear h_fk h_fp h_nx h_tk h_n_nodes hfk h_72493 c_72498_i h_72500 c_72502_i h_72504; omega) | omega)⟩), by decide, rfl⟩), by rw [ht]; exact hP9, hD9⟩, hS.F ht⟩) hS.2.2 dX4_isWeightFor_79
  · skip
    have kk_3 := tk_3
    have c_72495_i : ¬ (v_72494 : Int32).toInt = (3 : Int32).toInt := (fun q => c_72495 (Int32.toInt_inj.mp q))
    have h_72497 : 0 ≤ (v_72494 : Int32).toInt ∧ (v_72494 : Int32).toInt ≤ 2 := nr_ne_l h_v_72494 (⟨by decide, by decide⟩ : 3 ≤ (3 : Int32).toInt ∧ (3 : Int32).toInt ≤ 3) c_72495_i (by decide) (by decide)
    refine lv_aload_n hx hb dX4_isWeightFor_13 rfl (lv_at hl 0 rfl) ?_
    refine lv_iconst (v := 1) hx hb dX4_isWeightFor_14 (by decide) ?_
    have hPc := hP.sub (ws' := [(wO4 rd tp n rd_kindWords ww fk fp nx tk tpl tv)]) [0] rfl
    have hDc := hD.sub (ws' := [(wO4 rd tp n rd_kindWords ww fk fp nx tk tpl tv)]) [0] (by decide) rfl
    have hFc := va_free (wc := [(wO4 rd tp n rd_kindWords ww fk fp nx tk tpl tv)]) hD hS hA [0] rfl
    refine va_callv (va_runV (As := [.int 1]) (rest := []) ⟨hx, hb, hml, hown, hts⟩ (c_X4_fail l D g s.heap.size rd 1 tp n rd_kindWords ww fk fp nx tk tpl tv (⟨by decide, by decide⟩ : 0 ≤ (1 : Int32).toInt ∧ (1 : Int32).toInt ≤ 5) (tr_w h_72493 (by decide) (by decide)) (tr_w h_fp (by decide) (by decide)) (tr_w h_nx (by decide) (by decide)) (tr_w h_tk (by decide) (by decide)) (tr_w h_tpl (by decide) (by decide))) (cwV 1 hts (tz_gV qw_414 qw_415 qw_416 qw_384 qw_417) rfl rfl rfl (by decide +kernel) ⟨Nat.le_of_ble_eq_true rfl, Nat.le_of_ble_eq_true rfl⟩) ⟨tz_blQ, va_recv hK hPc (ci := 4) (q0 := 0) rfl rfl, tz_preQ hPc hK hDc⟩ rfl rfl hl.1 rfl (lv_room (Nat.le_of_ble_eq_true rfl)) dX4_isWeightFor_15 ⟨Nat.le_of_ble_eq_true rfl, Nat.le_of_ble_eq_true rfl⟩) hS (fun q _ h => hFc q h) hFc (fun u t H1 locs ht hvm hw hB hz1 hk1 hS => ?_)
    obtain ⟨hP1, hD1⟩ := hB
    rw [ht] at hP1
    obtain ⟨hP, hD⟩ := va_join (wr := [(wO2 n n_nodes n_kind n_pay n_name n_ways n_held n_targets n_weights), (wI g n_kind 0 12 n_fkind), (wI g n_ways 0 12 n_fways), (wI g n_weights 0 36 n_fweights)]) (w1 := [(wO4 rd tp n rd_kindWords ww 1 tpl nx tk tpl tv)]) hP hD [0] [1, 2, 3, 4] rfl rfl (by decide) (by decide) hk1 hFc hP1 hD1
    generalize H1 = H at hP hS ⊢
    have hP : va_P D vwCl [(wO2 n n_nodes n_kind n_pay n_name n_ways n_held n_targets n_weights), (wI g n_kind 0 12 n_fkind), (wI g n_ways 0 12 n_fways), (wI g n_weights 0 36 n_fweights), (wO4 rd tp n rd_kindWords ww 1 tpl nx tk tpl tv)] H := hP
    have hD : va_D A [(wO2 n n_nodes n_kind n_pay n_name n_ways n_held n_targets n_weights), (wI g n_kind 0 12 n_fkind), (wI g n_ways 0 12 n_fways), (wI g n_weights 0 36 n_fweights), (wO4 rd tp n rd_kindWords ww 1 tpl nx tk tpl tv)] := hD
    refine lv_goto (tgt := 67) hx hb dX4_isWeightFor_18 (by decide) ?_
    refine lv_aload_n hx hb dX4_isWeightFor_67 rfl (lv_at hl 0 rfl) ?_
    refine va_get (D := D) (ci := 4) (v := .int 1) (C := RX4) (T := TX4) (N := 10) hx hb hts inlX4 hown hK hP 4 rfl rfl 4 (by decide) (hts (Cond.fieldLink RX4 41 "ChanceRings$Reader" "faultKind" "I") qw_378) (fun _ h9 => h9) rfl dX4_isWeightFor_68 ?_
    refine lv_if_ne (tgt := 78) hx hb dX4_isWeightFor_71 (by decide) (fun _ => ?_) (fun h9 => absurd h9 (by decide))
    refine lv_iconst (v := 0) hx hb dX4_isWeightFor_78 (by decide) ?_
    have hP9 := hP.sub (ws' := [(wO4 rd tp n rd_kindWords ww 1 tpl nx tk tpl tv), (wO2 n n_nodes n_kind n_pay n_name n_ways n_held n_targets n_weights), (wI g n_kind 0 12 n_fkind), (wI g n_ways 0 12 n_fways), (wI g n_weights 0 36 n_fweights)]) [4, 0, 1, 2, 3] rfl
    have hD9 := hD.sub (ws' := [(wO4 rd tp n rd_kindWords ww 1 tpl nx tk tpl tv), (wO2 n n_nodes n_kind n_pay n_name n_ways n_held n_targets n_weights), (wI g n_kind 0 12 n_fkind), (wI g n_ways 0 12 n_fways), (wI g n_weights 0 36 n_fweights)]) [4, 0, 1, 2, 3] (by decide) rfl
    exact W.zret (v := 0) hx hb hr (by decide) (fun t ht hW => ⟨⟨0, 0, rfl, ⟨rfl, (⟨by decide, by decide⟩ : 0 ≤ (0 : Int32).toInt ∧ (0 : Int32).toInt ≤ 1)⟩, 1, tpl, (⟨by decide, by decide⟩ : 0 ≤ (1 : Int32).toInt ∧ (1 : Int32).toInt ≤ 5), (tr_w h_tpl (by decide) (by decide)), (fun h9 => absurd (by decide) h9), (fun _ => ⟨(Or.inl (by have z_0 := tk_0; have z_1 := tk_1; have z_2 := tk_2; have z_3 := tk_3; have z_m := tk_m1; have z_9 := tk_9; have z_4 := tk_4; have q8 := gi_v_72494; (first | (clear h_fk h_fp h_nx h_tk h_n_nodes hfk h_72493; omega) | omega))), by decide, rfl⟩), by rw [ht]; exact hP9, hD9⟩, hS.F ht⟩) hS.2.2 dX4_isWeightFor_79
