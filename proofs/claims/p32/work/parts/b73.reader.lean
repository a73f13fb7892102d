theorem qw_358 : Cond.fieldLink RX4 41 "ChanceRings$Reader" "faultKind" "I" ∈ wsL_law := tseg_1 (by decide +kernel) (List.mem_of_getElem? (i := 178) (by decide +kernel))
theorem qw_359 : Cond.fieldLink RX4 44 "ChanceRings$Reader" "faultPlace" "I" ∈ wsL_law := tseg_1 (by decide +kernel) (List.mem_of_getElem? (i := 180) (by decide +kernel))
theorem qw_360 : Cond.fieldLink RX4 77 "ChanceRings$Reader" "tokenPlace" "I" ∈ wsL_law := tseg_1 (by decide +kernel) (List.mem_of_getElem? (i := 184) (by decide +kernel))
theorem qw_361 : Cond.methodLink RX4 57 yX4_failAt ∈ wsL_law := tseg_2 (by decide +kernel) (List.mem_of_getElem? (i := 215) (by decide +kernel))
theorem qw_362 : Cond.instanceMethod yX4_failAt ∈ wsL_law := tseg_2 (by decide +kernel) (List.mem_of_getElem? (i := 217) (by decide +kernel))
theorem qw_363 : Cond.selects RX4 yX4_failAt yX4_failAt ∈ wsL_law := List.mem_filter.mpr ⟨List.mem_append_left _ (List.mem_of_getElem? (i := 0) (by decide +kernel)), by decide +kernel⟩
theorem qw_364 : Cond.initialized RX4 ∈ wsL_law := tseg_1 (by decide +kernel) (List.mem_of_getElem? (i := 4) (by decide +kernel))
theorem qw_365 : Cond.code yX4_failAt cX4_failAt 3 none ∈ wsL_law := tseg_2 (by decide +kernel) (List.mem_of_getElem? (i := 218) (by decide +kernel))
theorem qw_366 : Cond.fieldLink RX4 61 "ChanceRings$Reader" "next" "I" ∈ wsL_law := tseg_1 (by decide +kernel) (List.mem_of_getElem? (i := 182) (by decide +kernel))
theorem qw_367 : Cond.fieldLink RX4 9 "ChanceRings$Reader" "tape" "LChanceRings$Tape;" ∈ wsL_law := tseg_1 (by decide +kernel) (List.mem_of_getElem? (i := 172) (by decide +kernel))
theorem qw_368 : Cond.fieldLink RX4 52 "ChanceRings$Tape" "length" "I" ∈ wsL_law := tseg_1 (by decide +kernel) (List.mem_of_getElem? (i := 41) (by decide +kernel))
theorem qw_369 : Cond.fieldLink RX4 67 "ChanceRings$Reader" "token" "I" ∈ wsL_law := tseg_1 (by decide +kernel) (List.mem_of_getElem? (i := 183) (by decide +kernel))
theorem qw_370 : Cond.fieldLink RX4 136 "ChanceRings$Tape" "bytes" "[I" ∈ wsL_law := tseg_1 (by decide +kernel) (List.mem_of_getElem? (i := 38) (by decide +kernel))
theorem qw_371 : Cond.methodLink RX4 139 yX4_isLetter ∈ wsL_law := tseg_2 (by decide +kernel) (List.mem_of_getElem? (i := 223) (by decide +kernel))
theorem qw_372 : Cond.static yX4_isLetter ∈ wsL_law := tseg_2 (by decide +kernel) (List.mem_of_getElem? (i := 224) (by decide +kernel))
theorem qw_373 : Cond.code yX4_isLetter cX4_isLetter 1 (some .boolean) ∈ wsL_law := tseg_2 (by decide +kernel) (List.mem_of_getElem? (i := 225) (by decide +kernel))
theorem qw_374 : Cond.fieldLink RX4 86 "ChanceRings$Reader" "tokenValue" "I" ∈ wsL_law := tseg_1 (by decide +kernel) (List.mem_of_getElem? (i := 185) (by decide +kernel))
theorem qw_375 : Cond.methodLink RX4 142 yX4_isDigit ∈ wsL_law := tseg_2 (by decide +kernel) (List.mem_of_getElem? (i := 226) (by decide +kernel))
theorem qw_376 : Cond.static yX4_isDigit ∈ wsL_law := tseg_2 (by decide +kernel) (List.mem_of_getElem? (i := 227) (by decide +kernel))
theorem qw_377 : Cond.code yX4_isDigit cX4_isDigit 1 (some .boolean) ∈ wsL_law := tseg_2 (by decide +kernel) (List.mem_of_getElem? (i := 228) (by decide +kernel))
theorem qw_378 : Cond.methodLink RX4 145 yX4_takeRun ∈ wsL_law := tseg_2 (by decide +kernel) (List.mem_of_getElem? (i := 229) (by decide +kernel))
theorem qw_379 : Cond.instanceMethod yX4_takeRun ∈ wsL_law := tseg_2 (by decide +kernel) (List.mem_of_getElem? (i := 231) (by decide +kernel))
theorem qw_380 : Cond.selects RX4 yX4_takeRun yX4_takeRun ∈ wsL_law := List.mem_filter.mpr ⟨List.mem_append_left _ (List.mem_of_getElem? (i := 2) (by decide +kernel)), by decide +kernel⟩
theorem qw_381 : Cond.code yX4_takeRun cX4_takeRun 4 none ∈ wsL_law := tseg_2 (by decide +kernel) (List.mem_of_getElem? (i := 232) (by decide +kernel))
theorem qw_382 : Cond.fieldLink RX4 31 "ChanceRings$Reader" "kindWords" "[I" ∈ wsL_law := tseg_1 (by decide +kernel) (List.mem_of_getElem? (i := 174) (by decide +kernel))
theorem qw_383 : Cond.fieldLink RX4 37 "ChanceRings$Reader" "wayWord" "I" ∈ wsL_law := tseg_1 (by decide +kernel) (List.mem_of_getElem? (i := 176) (by decide +kernel))
theorem qw_384 : Cond.methodLink RX4 89 yX4_kindOf ∈ wsL_law := tseg_2 (by decide +kernel) (List.mem_of_getElem? (i := 237) (by decide +kernel))
theorem qw_385 : Cond.instanceMethod yX4_kindOf ∈ wsL_law := tseg_2 (by decide +kernel) (List.mem_of_getElem? (i := 239) (by decide +kernel))
theorem qw_386 : Cond.selects RX4 yX4_kindOf yX4_kindOf ∈ wsL_law := List.mem_filter.mpr ⟨List.mem_append_left _ (List.mem_of_getElem? (i := 4) (by decide +kernel)), by decide +kernel⟩
theorem qw_387 : Cond.code yX4_kindOf cX4_kindOf 3 (some .int) ∈ wsL_law := tseg_3 (by decide +kernel) (List.mem_of_getElem? (i := 0) (by decide +kernel))
theorem qw_388 : Cond.fieldLink RX4 15 "ChanceRings$Reader" "net" "LChanceRings$Net;" ∈ wsL_law := tseg_1 (by decide +kernel) (List.mem_of_getElem? (i := 173) (by decide +kernel))
theorem qw_389 : Cond.methodLink RX4 107 yX2_countOf ∈ wsL_law := tseg_3 (by decide +kernel) (List.mem_of_getElem? (i := 9) (by decide +kernel))
theorem qw_390 : Cond.instanceMethod yX2_countOf ∈ wsL_law := tseg_3 (by decide +kernel) (List.mem_of_getElem? (i := 10) (by decide +kernel))
theorem qw_391 : Cond.selects RX2 yX2_countOf yX2_countOf ∈ wsL_law := tseg_3 (by decide +kernel) (List.mem_of_getElem? (i := 11) (by decide +kernel))
theorem qw_392 : Cond.code yX2_countOf cX2_countOf 4 (some .int) ∈ wsL_law := tseg_3 (by decide +kernel) (List.mem_of_getElem? (i := 12) (by decide +kernel))
theorem qw_393 : Cond.fieldLink RX4 47 "ChanceRings$Net" "nodes" "I" ∈ wsL_law := tseg_1 (by decide +kernel) (List.mem_of_getElem? (i := 57) (by decide +kernel))
theorem qw_394 : Cond.methodLink RX4 104 yX4_fail ∈ wsL_law := tseg_3 (by decide +kernel) (List.mem_of_getElem? (i := 13) (by decide +kernel))
theorem qw_395 : Cond.instanceMethod yX4_fail ∈ wsL_law := tseg_3 (by decide +kernel) (List.mem_of_getElem? (i := 15) (by decide +kernel))
theorem qw_396 : Cond.selects RX4 yX4_fail yX4_fail ∈ wsL_law := List.mem_filter.mpr ⟨List.mem_append_left _ (List.mem_of_getElem? (i := 7) (by decide +kernel)), by decide +kernel⟩
theorem qw_397 : Cond.code yX4_fail cX4_fail 2 none ∈ wsL_law := tseg_3 (by decide +kernel) (List.mem_of_getElem? (i := 16) (by decide +kernel))
theorem qw_398 : Cond.methodLink RX4 110 yX4_isFull ∈ wsL_law := tseg_3 (by decide +kernel) (List.mem_of_getElem? (i := 5) (by decide +kernel))
theorem qw_399 : Cond.instanceMethod yX4_isFull ∈ wsL_law := tseg_3 (by decide +kernel) (List.mem_of_getElem? (i := 7) (by decide +kernel))
theorem qw_400 : Cond.selects RX4 yX4_isFull yX4_isFull ∈ wsL_law := List.mem_filter.mpr ⟨List.mem_append_left _ (List.mem_of_getElem? (i := 6) (by decide +kernel)), by decide +kernel⟩
theorem qw_401 : Cond.code yX4_isFull cX4_isFull 3 (some .boolean) ∈ wsL_law := tseg_3 (by decide +kernel) (List.mem_of_getElem? (i := 8) (by decide +kernel))
theorem qw_402 : Cond.methodLink RX4 64 yX4_advance ∈ wsL_law := tseg_2 (by decide +kernel) (List.mem_of_getElem? (i := 219) (by decide +kernel))
theorem qw_403 : Cond.instanceMethod yX4_advance ∈ wsL_law := tseg_2 (by decide +kernel) (List.mem_of_getElem? (i := 221) (by decide +kernel))
theorem qw_404 : Cond.selects RX4 yX4_advance yX4_advance ∈ wsL_law := List.mem_filter.mpr ⟨List.mem_append_left _ (List.mem_of_getElem? (i := 1) (by decide +kernel)), by decide +kernel⟩
theorem qw_405 : Cond.code yX4_advance cX4_advance 1 none ∈ wsL_law := tseg_2 (by decide +kernel) (List.mem_of_getElem? (i := 222) (by decide +kernel))
theorem qw_406 : Cond.methodLink RX4 114 yX4_isName ∈ wsL_law := tseg_3 (by decide +kernel) (List.mem_of_getElem? (i := 17) (by decide +kernel))
theorem qw_407 : Cond.instanceMethod yX4_isName ∈ wsL_law := tseg_3 (by decide +kernel) (List.mem_of_getElem? (i := 19) (by decide +kernel))
theorem qw_408 : Cond.selects RX4 yX4_isName yX4_isName ∈ wsL_law := List.mem_filter.mpr ⟨List.mem_append_left _ (List.mem_of_getElem? (i := 8) (by decide +kernel)), by decide +kernel⟩
theorem qw_409 : Cond.code yX4_isName cX4_isName 1 (some .boolean) ∈ wsL_law := tseg_3 (by decide +kernel) (List.mem_of_getElem? (i := 20) (by decide +kernel))
theorem qw_410 : Cond.methodLink RX4 117 yX2_find ∈ wsL_law := tseg_3 (by decide +kernel) (List.mem_of_getElem? (i := 21) (by decide +kernel))
theorem qw_411 : Cond.instanceMethod yX2_find ∈ wsL_law := tseg_3 (by decide +kernel) (List.mem_of_getElem? (i := 22) (by decide +kernel))
theorem qw_412 : Cond.selects RX2 yX2_find yX2_find ∈ wsL_law := tseg_3 (by decide +kernel) (List.mem_of_getElem? (i := 23) (by decide +kernel))
theorem qw_413 : Cond.code yX2_find cX2_find 3 (some .int) ∈ wsL_law := tseg_3 (by decide +kernel) (List.mem_of_getElem? (i := 24) (by decide +kernel))
theorem qw_414 : Cond.methodLink RX4 120 yX2_addNode ∈ wsL_law := tseg_3 (by decide +kernel) (List.mem_of_getElem? (i := 25) (by decide +kernel))
theorem qw_415 : Cond.instanceMethod yX2_addNode ∈ wsL_law := tseg_3 (by decide +kernel) (List.mem_of_getElem? (i := 26) (by decide +kernel))
theorem qw_416 : Cond.selects RX2 yX2_addNode yX2_addNode ∈ wsL_law := tseg_3 (by decide +kernel) (List.mem_of_getElem? (i := 27) (by decide +kernel))
theorem qw_417 : Cond.code yX2_addNode cX2_addNode 4 none ∈ wsL_law := tseg_3 (by decide +kernel) (List.mem_of_getElem? (i := 28) (by decide +kernel))
theorem qw_418 : Cond.methodLink RX4 124 yX4_isPay ∈ wsL_law := tseg_3 (by decide +kernel) (List.mem_of_getElem? (i := 29) (by decide +kernel))
theorem qw_419 : Cond.instanceMethod yX4_isPay ∈ wsL_law := tseg_3 (by decide +kernel) (List.mem_of_getElem? (i := 31) (by decide +kernel))
theorem qw_420 : Cond.selects RX4 yX4_isPay yX4_isPay ∈ wsL_law := List.mem_filter.mpr ⟨List.mem_append_left _ (List.mem_of_getElem? (i := 9) (by decide +kernel)), by decide +kernel⟩
theorem qw_421 : Cond.code yX4_isPay cX4_isPay 1 (some .boolean) ∈ wsL_law := tseg_3 (by decide +kernel) (List.mem_of_getElem? (i := 32) (by decide +kernel))
theorem qw_422 : Cond.fieldLink RX4 80 "ChanceRings$Net" "kind" "[I" ∈ wsL_law := tseg_1 (by decide +kernel) (List.mem_of_getElem? (i := 66) (by decide +kernel))
theorem qw_423 : Cond.fieldLink RX4 83 "ChanceRings$Net" "ways" "[I" ∈ wsL_law := tseg_1 (by decide +kernel) (List.mem_of_getElem? (i := 81) (by decide +kernel))
theorem qw_424 : Cond.methodLink RX4 127 yX2_together ∈ wsL_law := tseg_3 (by decide +kernel) (List.mem_of_getElem? (i := 41) (by decide +kernel))
theorem qw_425 : Cond.instanceMethod yX2_together ∈ wsL_law := tseg_3 (by decide +kernel) (List.mem_of_getElem? (i := 42) (by decide +kernel))
theorem qw_426 : Cond.selects RX2 yX2_together yX2_together ∈ wsL_law := tseg_3 (by decide +kernel) (List.mem_of_getElem? (i := 43) (by decide +kernel))
theorem qw_427 : Cond.code yX2_together cX2_together 4 (some .int) ∈ wsL_law := tseg_3 (by decide +kernel) (List.mem_of_getElem? (i := 44) (by decide +kernel))
theorem qw_428 : Cond.methodLink RX4 133 yX2_addWay ∈ wsL_law := tseg_3 (by decide +kernel) (List.mem_of_getElem? (i := 49) (by decide +kernel))
theorem qw_429 : Cond.instanceMethod yX2_addWay ∈ wsL_law := tseg_3 (by decide +kernel) (List.mem_of_getElem? (i := 50) (by decide +kernel))
theorem qw_430 : Cond.selects RX2 yX2_addWay yX2_addWay ∈ wsL_law := tseg_3 (by decide +kernel) (List.mem_of_getElem? (i := 51) (by decide +kernel))
theorem qw_431 : Cond.code yX2_addWay cX2_addWay 4 none ∈ wsL_law := tseg_3 (by decide +kernel) (List.mem_of_getElem? (i := 52) (by decide +kernel))
theorem qw_432 : Cond.methodLink RX4 130 yX4_isWeightFor ∈ wsL_law := tseg_3 (by decide +kernel) (List.mem_of_getElem? (i := 45) (by decide +kernel))
theorem qw_433 : Cond.instanceMethod yX4_isWeightFor ∈ wsL_law := tseg_3 (by decide +kernel) (List.mem_of_getElem? (i := 47) (by decide +kernel))
theorem qw_434 : Cond.selects RX4 yX4_isWeightFor yX4_isWeightFor ∈ wsL_law := List.mem_filter.mpr ⟨List.mem_append_left _ (List.mem_of_getElem? (i := 12) (by decide +kernel)), by decide +kernel⟩
theorem qw_435 : Cond.code yX4_isWeightFor cX4_isWeightFor 2 (some .boolean) ∈ wsL_law := tseg_3 (by decide +kernel) (List.mem_of_getElem? (i := 48) (by decide +kernel))
theorem qw_436 : Cond.methodLink RX4 97 yX4_readStart ∈ wsL_law := tseg_3 (by decide +kernel) (List.mem_of_getElem? (i := 33) (by decide +kernel))
theorem qw_437 : Cond.instanceMethod yX4_readStart ∈ wsL_law := tseg_3 (by decide +kernel) (List.mem_of_getElem? (i := 35) (by decide +kernel))
theorem qw_438 : Cond.selects RX4 yX4_readStart yX4_readStart ∈ wsL_law := List.mem_filter.mpr ⟨List.mem_append_left _ (List.mem_of_getElem? (i := 10) (by decide +kernel)), by decide +kernel⟩
theorem qw_439 : Cond.code yX4_readStart cX4_readStart 2 (some .int) ∈ wsL_law := tseg_3 (by decide +kernel) (List.mem_of_getElem? (i := 36) (by decide +kernel))
theorem qw_440 : Cond.methodLink RX4 101 yX4_readTarget ∈ wsL_law := tseg_3 (by decide +kernel) (List.mem_of_getElem? (i := 37) (by decide +kernel))
theorem qw_441 : Cond.instanceMethod yX4_readTarget ∈ wsL_law := tseg_3 (by decide +kernel) (List.mem_of_getElem? (i := 39) (by decide +kernel))
theorem qw_442 : Cond.selects RX4 yX4_readTarget yX4_readTarget ∈ wsL_law := List.mem_filter.mpr ⟨List.mem_append_left _ (List.mem_of_getElem? (i := 11) (by decide +kernel)), by decide +kernel⟩
theorem qw_443 : Cond.code yX4_readTarget cX4_readTarget 6 none ∈ wsL_law := tseg_3 (by decide +kernel) (List.mem_of_getElem? (i := 40) (by decide +kernel))
theorem qw_444 : Cond.methodLink RX4 93 yX4_readNode ∈ wsL_law := tseg_3 (by decide +kernel) (List.mem_of_getElem? (i := 1) (by decide +kernel))
theorem qw_445 : Cond.instanceMethod yX4_readNode ∈ wsL_law := tseg_3 (by decide +kernel) (List.mem_of_getElem? (i := 3) (by decide +kernel))
theorem qw_446 : Cond.selects RX4 yX4_readNode yX4_readNode ∈ wsL_law := List.mem_filter.mpr ⟨List.mem_append_left _ (List.mem_of_getElem? (i := 5) (by decide +kernel)), by decide +kernel⟩
theorem qw_447 : Cond.code yX4_readNode cX4_readNode 3 none ∈ wsL_law := tseg_3 (by decide +kernel) (List.mem_of_getElem? (i := 4) (by decide +kernel))
theorem qw_448 : Cond.methodLink RX4 73 yX4_lacksWay ∈ wsL_law := tseg_3 (by decide +kernel) (List.mem_of_getElem? (i := 53) (by decide +kernel))
theorem qw_449 : Cond.instanceMethod yX4_lacksWay ∈ wsL_law := tseg_3 (by decide +kernel) (List.mem_of_getElem? (i := 55) (by decide +kernel))
theorem qw_450 : Cond.selects RX4 yX4_lacksWay yX4_lacksWay ∈ wsL_law := List.mem_filter.mpr ⟨List.mem_append_left _ (List.mem_of_getElem? (i := 13) (by decide +kernel)), by decide +kernel⟩
theorem qw_451 : Cond.code yX4_lacksWay cX4_lacksWay 2 (some .boolean) ∈ wsL_law := tseg_3 (by decide +kernel) (List.mem_of_getElem? (i := 56) (by decide +kernel))
theorem qw_452 : Cond.methodLink RX4 70 yX4_readLine ∈ wsL_law := tseg_2 (by decide +kernel) (List.mem_of_getElem? (i := 233) (by decide +kernel))
theorem qw_453 : Cond.instanceMethod yX4_readLine ∈ wsL_law := tseg_2 (by decide +kernel) (List.mem_of_getElem? (i := 235) (by decide +kernel))
theorem qw_454 : Cond.selects RX4 yX4_readLine yX4_readLine ∈ wsL_law := List.mem_filter.mpr ⟨List.mem_append_left _ (List.mem_of_getElem? (i := 3) (by decide +kernel)), by decide +kernel⟩
theorem qw_455 : Cond.code yX4_readLine cX4_readLine 3 none ∈ wsL_law := tseg_2 (by decide +kernel) (List.mem_of_getElem? (i := 236) (by decide +kernel))
theorem dX4_advance_0 : decode cX4_advance 0 = .ok (.aload_n 0, 1) := by decide +kernel
theorem dX4_advance_1 : decode cX4_advance 1 = .ok (.getfield 61, 3) := by decide +kernel
theorem dX4_advance_4 : decode cX4_advance 4 = .ok (.aload_n 0, 1) := by decide +kernel
theorem dX4_advance_5 : decode cX4_advance 5 = .ok (.getfield 9, 3) := by decide +kernel
theorem dX4_advance_8 : decode cX4_advance 8 = .ok (.getfield 52, 3) := by decide +kernel
theorem dX4_advance_11 : decode cX4_advance 11 = .ok (.if_icmp .ge 33, 3) := by decide +kernel
theorem dX4_advance_14 : decode cX4_advance 14 = .ok (.aload_n 0, 1) := by decide +kernel
theorem dX4_advance_15 : decode cX4_advance 15 = .ok (.getfield 9, 3) := by decide +kernel
theorem dX4_advance_18 : decode cX4_advance 18 = .ok (.getfield 136, 3) := by decide +kernel
theorem dX4_advance_21 : decode cX4_advance 21 = .ok (.aload_n 0, 1) := by decide +kernel
theorem dX4_advance_22 : decode cX4_advance 22 = .ok (.getfield 61, 3) := by decide +kernel
theorem dX4_advance_25 : decode cX4_advance 25 = .ok (.iaload, 1) := by decide +kernel
theorem dX4_advance_26 : decode cX4_advance 26 = .ok (.bipush 32, 2) := by decide +kernel
theorem dX4_advance_28 : decode cX4_advance 28 = .ok (.if_icmp .ne 16, 3) := by decide +kernel
theorem dX4_advance_31 : decode cX4_advance 31 = .ok (.aload_n 0, 1) := by decide +kernel
theorem dX4_advance_32 : decode cX4_advance 32 = .ok (.dup, 1) := by decide +kernel
theorem dX4_advance_33 : decode cX4_advance 33 = .ok (.getfield 61, 3) := by decide +kernel
theorem dX4_advance_36 : decode cX4_advance 36 = .ok (.iconst 1, 1) := by decide +kernel
theorem dX4_advance_37 : decode cX4_advance 37 = .ok (.iadd, 1) := by decide +kernel
theorem dX4_advance_38 : decode cX4_advance 38 = .ok (.putfield 61, 3) := by decide +kernel
theorem dX4_advance_41 : decode cX4_advance 41 = .ok (.goto (-41), 3) := by decide +kernel
theorem dX4_advance_44 : decode cX4_advance 44 = .ok (.aload_n 0, 1) := by decide +kernel
theorem dX4_advance_45 : decode cX4_advance 45 = .ok (.aload_n 0, 1) := by decide +kernel
theorem dX4_advance_46 : decode cX4_advance 46 = .ok (.getfield 61, 3) := by decide +kernel
theorem dX4_advance_49 : decode cX4_advance 49 = .ok (.putfield 77, 3) := by decide +kernel
theorem dX4_advance_52 : decode cX4_advance 52 = .ok (.aload_n 0, 1) := by decide +kernel
theorem dX4_advance_53 : decode cX4_advance 53 = .ok (.iconst 0, 1) := by decide +kernel
theorem dX4_advance_54 : decode cX4_advance 54 = .ok (.putfield 86, 3) := by decide +kernel
theorem dX4_advance_57 : decode cX4_advance 57 = .ok (.aload_n 0, 1) := by decide +kernel
theorem dX4_advance_58 : decode cX4_advance 58 = .ok (.getfield 61, 3) := by decide +kernel
theorem dX4_advance_61 : decode cX4_advance 61 = .ok (.aload_n 0, 1) := by decide +kernel
theorem dX4_advance_62 : decode cX4_advance 62 = .ok (.getfield 9, 3) := by decide +kernel
theorem dX4_advance_65 : decode cX4_advance 65 = .ok (.getfield 52, 3) := by decide +kernel
theorem dX4_advance_68 : decode cX4_advance 68 = .ok (.if_icmp .lt 11, 3) := by decide +kernel
theorem dX4_advance_71 : decode cX4_advance 71 = .ok (.aload_n 0, 1) := by decide +kernel
theorem dX4_advance_72 : decode cX4_advance 72 = .ok (.iconst 0, 1) := by decide +kernel
theorem dX4_advance_73 : decode cX4_advance 73 = .ok (.putfield 67, 3) := by decide +kernel
theorem dX4_advance_76 : decode cX4_advance 76 = .ok (.goto 86, 3) := by decide +kernel
theorem dX4_advance_79 : decode cX4_advance 79 = .ok (.aload_n 0, 1) := by decide +kernel
theorem dX4_advance_80 : decode cX4_advance 80 = .ok (.getfield 9, 3) := by decide +kernel
theorem dX4_advance_83 : decode cX4_advance 83 = .ok (.getfield 136, 3) := by decide +kernel
theorem dX4_advance_86 : decode cX4_advance 86 = .ok (.aload_n 0, 1) := by decide +kernel
theorem dX4_advance_87 : decode cX4_advance 87 = .ok (.getfield 61, 3) := by decide +kernel
theorem dX4_advance_90 : decode cX4_advance 90 = .ok (.iaload, 1) := by decide +kernel
theorem dX4_advance_91 : decode cX4_advance 91 = .ok (.bipush 59, 2) := by decide +kernel
theorem dX4_advance_93 : decode cX4_advance 93 = .ok (.if_icmp .ne 21, 3) := by decide +kernel
theorem dX4_advance_96 : decode cX4_advance 96 = .ok (.aload_n 0, 1) := by decide +kernel
theorem dX4_advance_97 : decode cX4_advance 97 = .ok (.iconst 3, 1) := by decide +kernel
theorem dX4_advance_98 : decode cX4_advance 98 = .ok (.putfield 67, 3) := by decide +kernel
theorem dX4_advance_101 : decode cX4_advance 101 = .ok (.aload_n 0, 1) := by decide +kernel
theorem dX4_advance_102 : decode cX4_advance 102 = .ok (.dup, 1) := by decide +kernel
theorem dX4_advance_103 : decode cX4_advance 103 = .ok (.getfield 61, 3) := by decide +kernel
theorem dX4_advance_106 : decode cX4_advance 106 = .ok (.iconst 1, 1) := by decide +kernel
theorem dX4_advance_107 : decode cX4_advance 107 = .ok (.iadd, 1) := by decide +kernel
theorem dX4_advance_108 : decode cX4_advance 108 = .ok (.putfield 61, 3) := by decide +kernel
theorem dX4_advance_111 : decode cX4_advance 111 = .ok (.goto 51, 3) := by decide +kernel
theorem dX4_advance_114 : decode cX4_advance 114 = .ok (.aload_n 0, 1) := by decide +kernel
theorem dX4_advance_115 : decode cX4_advance 115 = .ok (.getfield 9, 3) := by decide +kernel
theorem dX4_advance_118 : decode cX4_advance 118 = .ok (.getfield 136, 3) := by decide +kernel
theorem dX4_advance_121 : decode cX4_advance 121 = .ok (.aload_n 0, 1) := by decide +kernel
theorem dX4_advance_122 : decode cX4_advance 122 = .ok (.getfield 61, 3) := by decide +kernel
theorem dX4_advance_125 : decode cX4_advance 125 = .ok (.iaload, 1) := by decide +kernel
theorem dX4_advance_126 : decode cX4_advance 126 = .ok (.invokestatic 139, 3) := by decide +kernel
theorem dX4_advance_129 : decode cX4_advance 129 = .ok (.ifCond .ne 21, 3) := by decide +kernel
theorem dX4_advance_132 : decode cX4_advance 132 = .ok (.aload_n 0, 1) := by decide +kernel
theorem dX4_advance_133 : decode cX4_advance 133 = .ok (.getfield 9, 3) := by decide +kernel
theorem dX4_advance_136 : decode cX4_advance 136 = .ok (.getfield 136, 3) := by decide +kernel
theorem dX4_advance_139 : decode cX4_advance 139 = .ok (.aload_n 0, 1) := by decide +kernel
theorem dX4_advance_140 : decode cX4_advance 140 = .ok (.getfield 61, 3) := by decide +kernel
theorem dX4_advance_143 : decode cX4_advance 143 = .ok (.iaload, 1) := by decide +kernel
theorem dX4_advance_144 : decode cX4_advance 144 = .ok (.invokestatic 142, 3) := by decide +kernel
theorem dX4_advance_147 : decode cX4_advance 147 = .ok (.ifCond .eq 10, 3) := by decide +kernel
theorem dX4_advance_150 : decode cX4_advance 150 = .ok (.aload_n 0, 1) := by decide +kernel
theorem dX4_advance_151 : decode cX4_advance 151 = .ok (.invokevirtual 145, 3) := by decide +kernel
theorem dX4_advance_154 : decode cX4_advance 154 = .ok (.goto 8, 3) := by decide +kernel
theorem dX4_advance_157 : decode cX4_advance 157 = .ok (.aload_n 0, 1) := by decide +kernel
theorem dX4_advance_158 : decode cX4_advance 158 = .ok (.iconst 4, 1) := by decide +kernel
theorem dX4_advance_159 : decode cX4_advance 159 = .ok (.putfield 67, 3) := by decide +kernel
theorem dX4_advance_162 : decode cX4_advance 162 = .ok (.return_, 1) := by decide +kernel
theorem dX4_fail_0 : decode cX4_fail 0 = .ok (.aload_n 0, 1) := by decide +kernel
theorem dX4_fail_1 : decode cX4_fail 1 = .ok (.iload_n 1, 1) := by decide +kernel
theorem dX4_fail_2 : decode cX4_fail 2 = .ok (.aload_n 0, 1) := by decide +kernel
theorem dX4_fail_3 : decode cX4_fail 3 = .ok (.getfield 77, 3) := by decide +kernel
theorem dX4_fail_6 : decode cX4_fail 6 = .ok (.invokevirtual 57, 3) := by decide +kernel
theorem dX4_fail_9 : decode cX4_fail 9 = .ok (.return_, 1) := by decide +kernel
theorem dX4_failAt_0 : decode cX4_failAt 0 = .ok (.aload_n 0, 1) := by decide +kernel
theorem dX4_failAt_1 : decode cX4_failAt 1 = .ok (.iload_n 1, 1) := by decide +kernel
theorem dX4_failAt_2 : decode cX4_failAt 2 = .ok (.putfield 41, 3) := by decide +kernel
theorem dX4_failAt_5 : decode cX4_failAt 5 = .ok (.aload_n 0, 1) := by decide +kernel
theorem dX4_failAt_6 : decode cX4_failAt 6 = .ok (.iload_n 2, 1) := by decide +kernel
theorem dX4_failAt_7 : decode cX4_failAt 7 = .ok (.putfield 44, 3) := by decide +kernel
theorem dX4_failAt_10 : decode cX4_failAt 10 = .ok (.return_, 1) := by decide +kernel
theorem dX4_isDigit_0 : decode cX4_isDigit 0 = .ok (.iload_n 0, 1) := by decide +kernel
theorem dX4_isDigit_1 : decode cX4_isDigit 1 = .ok (.bipush 48, 2) := by decide +kernel
theorem dX4_isDigit_3 : decode cX4_isDigit 3 = .ok (.if_icmp .lt 13, 3) := by decide +kernel
theorem dX4_isDigit_6 : decode cX4_isDigit 6 = .ok (.iload_n 0, 1) := by decide +kernel
theorem dX4_isDigit_7 : decode cX4_isDigit 7 = .ok (.bipush 57, 2) := by decide +kernel
theorem dX4_isDigit_9 : decode cX4_isDigit 9 = .ok (.if_icmp .gt 7, 3) := by decide +kernel
theorem dX4_isDigit_12 : decode cX4_isDigit 12 = .ok (.iconst 1, 1) := by decide +kernel
theorem dX4_isDigit_13 : decode cX4_isDigit 13 = .ok (.goto 4, 3) := by decide +kernel
theorem dX4_isDigit_16 : decode cX4_isDigit 16 = .ok (.iconst 0, 1) := by decide +kernel
theorem dX4_isDigit_17 : decode cX4_isDigit 17 = .ok (.ireturn, 1) := by decide +kernel
theorem dX4_isFull_0 : decode cX4_isFull 0 = .ok (.aload_n 0, 1) := by decide +kernel
theorem dX4_isFull_1 : decode cX4_isFull 1 = .ok (.getfield 15, 3) := by decide +kernel
theorem dX4_isFull_4 : decode cX4_isFull 4 = .ok (.iconst 0, 1) := by decide +kernel
theorem dX4_isFull_5 : decode cX4_isFull 5 = .ok (.invokevirtual 107, 3) := by decide +kernel
theorem dX4_isFull_8 : decode cX4_isFull 8 = .ok (.istore_n 2, 1) := by decide +kernel
theorem dX4_isFull_9 : decode cX4_isFull 9 = .ok (.iload_n 1, 1) := by decide +kernel
theorem dX4_isFull_10 : decode cX4_isFull 10 = .ok (.ifCond .ne 14, 3) := by decide +kernel
theorem dX4_isFull_13 : decode cX4_isFull 13 = .ok (.iload_n 2, 1) := by decide +kernel
theorem dX4_isFull_14 : decode cX4_isFull 14 = .ok (.iconst 4, 1) := by decide +kernel
theorem dX4_isFull_15 : decode cX4_isFull 15 = .ok (.if_icmp .lt 7, 3) := by decide +kernel
theorem dX4_isFull_18 : decode cX4_isFull 18 = .ok (.iconst 1, 1) := by decide +kernel
theorem dX4_isFull_19 : decode cX4_isFull 19 = .ok (.goto 4, 3) := by decide +kernel
theorem dX4_isFull_22 : decode cX4_isFull 22 = .ok (.iconst 0, 1) := by decide +kernel
theorem dX4_isFull_23 : decode cX4_isFull 23 = .ok (.ireturn, 1) := by decide +kernel
theorem dX4_isFull_24 : decode cX4_isFull 24 = .ok (.aload_n 0, 1) := by decide +kernel
theorem dX4_isFull_25 : decode cX4_isFull 25 = .ok (.getfield 15, 3) := by decide +kernel
theorem dX4_isFull_28 : decode cX4_isFull 28 = .ok (.getfield 47, 3) := by decide +kernel
theorem dX4_isFull_31 : decode cX4_isFull 31 = .ok (.iload_n 2, 1) := by decide +kernel
theorem dX4_isFull_32 : decode cX4_isFull 32 = .ok (.isub, 1) := by decide +kernel
theorem dX4_isFull_33 : decode cX4_isFull 33 = .ok (.bipush 8, 2) := by decide +kernel
theorem dX4_isFull_35 : decode cX4_isFull 35 = .ok (.if_icmp .ge 20, 3) := by decide +kernel
theorem dX4_isFull_38 : decode cX4_isFull 38 = .ok (.iload_n 1, 1) := by decide +kernel
theorem dX4_isFull_39 : decode cX4_isFull 39 = .ok (.iconst 3, 1) := by decide +kernel
theorem dX4_isFull_40 : decode cX4_isFull 40 = .ok (.if_icmp .ne 19, 3) := by decide +kernel
theorem dX4_isFull_43 : decode cX4_isFull 43 = .ok (.aload_n 0, 1) := by decide +kernel
theorem dX4_isFull_44 : decode cX4_isFull 44 = .ok (.getfield 15, 3) := by decide +kernel
theorem dX4_isFull_47 : decode cX4_isFull 47 = .ok (.iconst 3, 1) := by decide +kernel
theorem dX4_isFull_48 : decode cX4_isFull 48 = .ok (.invokevirtual 107, 3) := by decide +kernel
theorem dX4_isFull_51 : decode cX4_isFull 51 = .ok (.iconst 5, 1) := by decide +kernel
theorem dX4_isFull_52 : decode cX4_isFull 52 = .ok (.if_icmp .lt 7, 3) := by decide +kernel
theorem dX4_isFull_55 : decode cX4_isFull 55 = .ok (.iconst 1, 1) := by decide +kernel
theorem dX4_isFull_56 : decode cX4_isFull 56 = .ok (.goto 4, 3) := by decide +kernel
theorem dX4_isFull_59 : decode cX4_isFull 59 = .ok (.iconst 0, 1) := by decide +kernel
theorem dX4_isFull_60 : decode cX4_isFull 60 = .ok (.ireturn, 1) := by decide +kernel
theorem dX4_isLetter_0 : decode cX4_isLetter 0 = .ok (.iload_n 0, 1) := by decide +kernel
theorem dX4_isLetter_1 : decode cX4_isLetter 1 = .ok (.bipush 97, 2) := by decide +kernel
theorem dX4_isLetter_3 : decode cX4_isLetter 3 = .ok (.if_icmp .lt 13, 3) := by decide +kernel
theorem dX4_isLetter_6 : decode cX4_isLetter 6 = .ok (.iload_n 0, 1) := by decide +kernel
theorem dX4_isLetter_7 : decode cX4_isLetter 7 = .ok (.bipush 122, 2) := by decide +kernel
theorem dX4_isLetter_9 : decode cX4_isLetter 9 = .ok (.if_icmp .gt 7, 3) := by decide +kernel
theorem dX4_isLetter_12 : decode cX4_isLetter 12 = .ok (.iconst 1, 1) := by decide +kernel
theorem dX4_isLetter_13 : decode cX4_isLetter 13 = .ok (.goto 4, 3) := by decide +kernel
theorem dX4_isLetter_16 : decode cX4_isLetter 16 = .ok (.iconst 0, 1) := by decide +kernel
theorem dX4_isLetter_17 : decode cX4_isLetter 17 = .ok (.ireturn, 1) := by decide +kernel
theorem dX4_isName_0 : decode cX4_isName 0 = .ok (.aload_n 0, 1) := by decide +kernel
theorem dX4_isName_1 : decode cX4_isName 1 = .ok (.getfield 67, 3) := by decide +kernel
theorem dX4_isName_4 : decode cX4_isName 4 = .ok (.iconst 1, 1) := by decide +kernel
theorem dX4_isName_5 : decode cX4_isName 5 = .ok (.if_icmp .ne 30, 3) := by decide +kernel
theorem dX4_isName_8 : decode cX4_isName 8 = .ok (.aload_n 0, 1) := by decide +kernel
theorem dX4_isName_9 : decode cX4_isName 9 = .ok (.getfield 86, 3) := by decide +kernel
theorem dX4_isName_12 : decode cX4_isName 12 = .ok (.aload_n 0, 1) := by decide +kernel
theorem dX4_isName_13 : decode cX4_isName 13 = .ok (.getfield 37, 3) := by decide +kernel
theorem dX4_isName_16 : decode cX4_isName 16 = .ok (.if_icmp .eq 19, 3) := by decide +kernel
theorem dX4_isName_19 : decode cX4_isName 19 = .ok (.aload_n 0, 1) := by decide +kernel
theorem dX4_isName_20 : decode cX4_isName 20 = .ok (.aload_n 0, 1) := by decide +kernel
theorem dX4_isName_21 : decode cX4_isName 21 = .ok (.getfield 86, 3) := by decide +kernel
theorem dX4_isName_24 : decode cX4_isName 24 = .ok (.invokevirtual 89, 3) := by decide +kernel
theorem dX4_isName_27 : decode cX4_isName 27 = .ok (.iconst (-1), 1) := by decide +kernel
theorem dX4_isName_28 : decode cX4_isName 28 = .ok (.if_icmp .ne 7, 3) := by decide +kernel
theorem dX4_isName_31 : decode cX4_isName 31 = .ok (.iconst 1, 1) := by decide +kernel
theorem dX4_isName_32 : decode cX4_isName 32 = .ok (.goto 4, 3) := by decide +kernel
theorem dX4_isName_35 : decode cX4_isName 35 = .ok (.iconst 0, 1) := by decide +kernel
theorem dX4_isName_36 : decode cX4_isName 36 = .ok (.ireturn, 1) := by decide +kernel
theorem dX4_isPay_0 : decode cX4_isPay 0 = .ok (.aload_n 0, 1) := by decide +kernel
theorem dX4_isPay_1 : decode cX4_isPay 1 = .ok (.getfield 67, 3) := by decide +kernel
theorem dX4_isPay_4 : decode cX4_isPay 4 = .ok (.iconst 2, 1) := by decide +kernel
theorem dX4_isPay_5 : decode cX4_isPay 5 = .ok (.if_icmp .eq 11, 3) := by decide +kernel
theorem dX4_isPay_8 : decode cX4_isPay 8 = .ok (.aload_n 0, 1) := by decide +kernel
theorem dX4_isPay_9 : decode cX4_isPay 9 = .ok (.iconst 1, 1) := by decide +kernel
theorem dX4_isPay_10 : decode cX4_isPay 10 = .ok (.invokevirtual 104, 3) := by decide +kernel
theorem dX4_isPay_13 : decode cX4_isPay 13 = .ok (.goto 17, 3) := by decide +kernel
theorem dX4_isPay_16 : decode cX4_isPay 16 = .ok (.aload_n 0, 1) := by decide +kernel
theorem dX4_isPay_17 : decode cX4_isPay 17 = .ok (.getfield 86, 3) := by decide +kernel
theorem dX4_isPay_20 : decode cX4_isPay 20 = .ok (.bipush 9, 2) := by decide +kernel
theorem dX4_isPay_22 : decode cX4_isPay 22 = .ok (.if_icmp .le 8, 3) := by decide +kernel
theorem dX4_isPay_25 : decode cX4_isPay 25 = .ok (.aload_n 0, 1) := by decide +kernel
theorem dX4_isPay_26 : decode cX4_isPay 26 = .ok (.iconst 2, 1) := by decide +kernel
theorem dX4_isPay_27 : decode cX4_isPay 27 = .ok (.invokevirtual 104, 3) := by decide +kernel
theorem dX4_isPay_30 : decode cX4_isPay 30 = .ok (.aload_n 0, 1) := by decide +kernel
theorem dX4_isPay_31 : decode cX4_isPay 31 = .ok (.getfield 41, 3) := by decide +kernel
theorem dX4_isPay_34 : decode cX4_isPay 34 = .ok (.ifCond .ne 7, 3) := by decide +kernel
theorem dX4_isPay_37 : decode cX4_isPay 37 = .ok (.iconst 1, 1) := by decide +kernel
theorem dX4_isPay_38 : decode cX4_isPay 38 = .ok (.goto 4, 3) := by decide +kernel
theorem dX4_isPay_41 : decode cX4_isPay 41 = .ok (.iconst 0, 1) := by decide +kernel
theorem dX4_isPay_42 : decode cX4_isPay 42 = .ok (.ireturn, 1) := by decide +kernel
theorem dX4_isWeightFor_0 : decode cX4_isWeightFor 0 = .ok (.aload_n 0, 1) := by decide +kernel
theorem dX4_isWeightFor_1 : decode cX4_isWeightFor 1 = .ok (.getfield 15, 3) := by decide +kernel
theorem dX4_isWeightFor_4 : decode cX4_isWeightFor 4 = .ok (.getfield 80, 3) := by decide +kernel
theorem dX4_isWeightFor_7 : decode cX4_isWeightFor 7 = .ok (.iload_n 1, 1) := by decide +kernel
theorem dX4_isWeightFor_8 : decode cX4_isWeightFor 8 = .ok (.iaload, 1) := by decide +kernel
theorem dX4_isWeightFor_9 : decode cX4_isWeightFor 9 = .ok (.iconst 3, 1) := by decide +kernel
theorem dX4_isWeightFor_10 : decode cX4_isWeightFor 10 = .ok (.if_icmp .eq 11, 3) := by decide +kernel
theorem dX4_isWeightFor_13 : decode cX4_isWeightFor 13 = .ok (.aload_n 0, 1) := by decide +kernel
theorem dX4_isWeightFor_14 : decode cX4_isWeightFor 14 = .ok (.iconst 1, 1) := by decide +kernel
theorem dX4_isWeightFor_15 : decode cX4_isWeightFor 15 = .ok (.invokevirtual 104, 3) := by decide +kernel
theorem dX4_isWeightFor_18 : decode cX4_isWeightFor 18 = .ok (.goto 49, 3) := by decide +kernel
theorem dX4_isWeightFor_21 : decode cX4_isWeightFor 21 = .ok (.aload_n 0, 1) := by decide +kernel
theorem dX4_isWeightFor_22 : decode cX4_isWeightFor 22 = .ok (.getfield 86, 3) := by decide +kernel
theorem dX4_isWeightFor_25 : decode cX4_isWeightFor 25 = .ok (.iconst 1, 1) := by decide +kernel
theorem dX4_isWeightFor_26 : decode cX4_isWeightFor 26 = .ok (.if_icmp .lt 11, 3) := by decide +kernel
theorem dX4_isWeightFor_29 : decode cX4_isWeightFor 29 = .ok (.aload_n 0, 1) := by decide +kernel
theorem dX4_isWeightFor_30 : decode cX4_isWeightFor 30 = .ok (.getfield 86, 3) := by decide +kernel
theorem dX4_isWeightFor_33 : decode cX4_isWeightFor 33 = .ok (.iconst 3, 1) := by decide +kernel
theorem dX4_isWeightFor_34 : decode cX4_isWeightFor 34 = .ok (.if_icmp .le 11, 3) := by decide +kernel
theorem dX4_isWeightFor_37 : decode cX4_isWeightFor 37 = .ok (.aload_n 0, 1) := by decide +kernel
theorem dX4_isWeightFor_38 : decode cX4_isWeightFor 38 = .ok (.iconst 2, 1) := by decide +kernel
theorem dX4_isWeightFor_39 : decode cX4_isWeightFor 39 = .ok (.invokevirtual 104, 3) := by decide +kernel
theorem dX4_isWeightFor_42 : decode cX4_isWeightFor 42 = .ok (.goto 25, 3) := by decide +kernel
theorem dX4_isWeightFor_45 : decode cX4_isWeightFor 45 = .ok (.aload_n 0, 1) := by decide +kernel
theorem dX4_isWeightFor_46 : decode cX4_isWeightFor 46 = .ok (.getfield 15, 3) := by decide +kernel
theorem dX4_isWeightFor_49 : decode cX4_isWeightFor 49 = .ok (.iload_n 1, 1) := by decide +kernel
theorem dX4_isWeightFor_50 : decode cX4_isWeightFor 50 = .ok (.invokevirtual 127, 3) := by decide +kernel
theorem dX4_isWeightFor_53 : decode cX4_isWeightFor 53 = .ok (.aload_n 0, 1) := by decide +kernel
theorem dX4_isWeightFor_54 : decode cX4_isWeightFor 54 = .ok (.getfield 86, 3) := by decide +kernel
theorem dX4_isWeightFor_57 : decode cX4_isWeightFor 57 = .ok (.iadd, 1) := by decide +kernel
theorem dX4_isWeightFor_58 : decode cX4_isWeightFor 58 = .ok (.iconst 4, 1) := by decide +kernel
theorem dX4_isWeightFor_59 : decode cX4_isWeightFor 59 = .ok (.if_icmp .le 8, 3) := by decide +kernel
theorem dX4_isWeightFor_62 : decode cX4_isWeightFor 62 = .ok (.aload_n 0, 1) := by decide +kernel
theorem dX4_isWeightFor_63 : decode cX4_isWeightFor 63 = .ok (.iconst 2, 1) := by decide +kernel
theorem dX4_isWeightFor_64 : decode cX4_isWeightFor 64 = .ok (.invokevirtual 104, 3) := by decide +kernel
theorem dX4_isWeightFor_67 : decode cX4_isWeightFor 67 = .ok (.aload_n 0, 1) := by decide +kernel
theorem dX4_isWeightFor_68 : decode cX4_isWeightFor 68 = .ok (.getfield 41, 3) := by decide +kernel
theorem dX4_isWeightFor_71 : decode cX4_isWeightFor 71 = .ok (.ifCond .ne 7, 3) := by decide +kernel
theorem dX4_isWeightFor_74 : decode cX4_isWeightFor 74 = .ok (.iconst 1, 1) := by decide +kernel
theorem dX4_isWeightFor_75 : decode cX4_isWeightFor 75 = .ok (.goto 4, 3) := by decide +kernel
theorem dX4_isWeightFor_78 : decode cX4_isWeightFor 78 = .ok (.iconst 0, 1) := by decide +kernel
theorem dX4_isWeightFor_79 : decode cX4_isWeightFor 79 = .ok (.ireturn, 1) := by decide +kernel
theorem dX4_kindOf_0 : decode cX4_kindOf 0 = .ok (.iconst 0, 1) := by decide +kernel
theorem dX4_kindOf_1 : decode cX4_kindOf 1 = .ok (.istore_n 2, 1) := by decide +kernel
theorem dX4_kindOf_2 : decode cX4_kindOf 2 = .ok (.iload_n 2, 1) := by decide +kernel
theorem dX4_kindOf_3 : decode cX4_kindOf 3 = .ok (.iconst 3, 1) := by decide +kernel
theorem dX4_kindOf_4 : decode cX4_kindOf 4 = .ok (.if_icmp .gt 21, 3) := by decide +kernel
theorem dX4_kindOf_7 : decode cX4_kindOf 7 = .ok (.aload_n 0, 1) := by decide +kernel
theorem dX4_kindOf_8 : decode cX4_kindOf 8 = .ok (.getfield 31, 3) := by decide +kernel
theorem dX4_kindOf_11 : decode cX4_kindOf 11 = .ok (.iload_n 2, 1) := by decide +kernel
theorem dX4_kindOf_12 : decode cX4_kindOf 12 = .ok (.iaload, 1) := by decide +kernel
theorem dX4_kindOf_13 : decode cX4_kindOf 13 = .ok (.iload_n 1, 1) := by decide +kernel
theorem dX4_kindOf_14 : decode cX4_kindOf 14 = .ok (.if_icmp .ne 5, 3) := by decide +kernel
theorem dX4_kindOf_17 : decode cX4_kindOf 17 = .ok (.iload_n 2, 1) := by decide +kernel
theorem dX4_kindOf_18 : decode cX4_kindOf 18 = .ok (.ireturn, 1) := by decide +kernel
theorem dX4_kindOf_19 : decode cX4_kindOf 19 = .ok (.iinc 2 1, 3) := by decide +kernel
theorem dX4_kindOf_22 : decode cX4_kindOf 22 = .ok (.goto (-20), 3) := by decide +kernel
theorem dX4_kindOf_25 : decode cX4_kindOf 25 = .ok (.iconst (-1), 1) := by decide +kernel
theorem dX4_kindOf_26 : decode cX4_kindOf 26 = .ok (.ireturn, 1) := by decide +kernel
theorem dX4_lacksWay_0 : decode cX4_lacksWay 0 = .ok (.iconst 0, 1) := by decide +kernel
theorem dX4_lacksWay_1 : decode cX4_lacksWay 1 = .ok (.istore_n 1, 1) := by decide +kernel
theorem dX4_lacksWay_2 : decode cX4_lacksWay 2 = .ok (.iload_n 1, 1) := by decide +kernel
theorem dX4_lacksWay_3 : decode cX4_lacksWay 3 = .ok (.aload_n 0, 1) := by decide +kernel
theorem dX4_lacksWay_4 : decode cX4_lacksWay 4 = .ok (.getfield 15, 3) := by decide +kernel
theorem dX4_lacksWay_7 : decode cX4_lacksWay 7 = .ok (.getfield 47, 3) := by decide +kernel
theorem dX4_lacksWay_10 : decode cX4_lacksWay 10 = .ok (.if_icmp .ge 35, 3) := by decide +kernel
theorem dX4_lacksWay_13 : decode cX4_lacksWay 13 = .ok (.aload_n 0, 1) := by decide +kernel
theorem dX4_lacksWay_14 : decode cX4_lacksWay 14 = .ok (.getfield 15, 3) := by decide +kernel
theorem dX4_lacksWay_17 : decode cX4_lacksWay 17 = .ok (.getfield 80, 3) := by decide +kernel
theorem dX4_lacksWay_20 : decode cX4_lacksWay 20 = .ok (.iload_n 1, 1) := by decide +kernel
theorem dX4_lacksWay_21 : decode cX4_lacksWay 21 = .ok (.iaload, 1) := by decide +kernel
theorem dX4_lacksWay_22 : decode cX4_lacksWay 22 = .ok (.ifCond .eq 17, 3) := by decide +kernel
theorem dX4_lacksWay_25 : decode cX4_lacksWay 25 = .ok (.aload_n 0, 1) := by decide +kernel
theorem dX4_lacksWay_26 : decode cX4_lacksWay 26 = .ok (.getfield 15, 3) := by decide +kernel
theorem dX4_lacksWay_29 : decode cX4_lacksWay 29 = .ok (.getfield 83, 3) := by decide +kernel
theorem dX4_lacksWay_32 : decode cX4_lacksWay 32 = .ok (.iload_n 1, 1) := by decide +kernel
theorem dX4_lacksWay_33 : decode cX4_lacksWay 33 = .ok (.iaload, 1) := by decide +kernel
theorem dX4_lacksWay_34 : decode cX4_lacksWay 34 = .ok (.ifCond .ne 5, 3) := by decide +kernel
theorem dX4_lacksWay_37 : decode cX4_lacksWay 37 = .ok (.iconst 1, 1) := by decide +kernel
theorem dX4_lacksWay_38 : decode cX4_lacksWay 38 = .ok (.ireturn, 1) := by decide +kernel
theorem dX4_lacksWay_39 : decode cX4_lacksWay 39 = .ok (.iinc 1 1, 3) := by decide +kernel
theorem dX4_lacksWay_42 : decode cX4_lacksWay 42 = .ok (.goto (-40), 3) := by decide +kernel
theorem dX4_lacksWay_45 : decode cX4_lacksWay 45 = .ok (.iconst 0, 1) := by decide +kernel
theorem dX4_lacksWay_46 : decode cX4_lacksWay 46 = .ok (.ireturn, 1) := by decide +kernel
theorem dX4_read_0 : decode cX4_read 0 = .ok (.aload_n 0, 1) := by decide +kernel
theorem dX4_read_1 : decode cX4_read 1 = .ok (.iconst 0, 1) := by decide +kernel
theorem dX4_read_2 : decode cX4_read 2 = .ok (.putfield 41, 3) := by decide +kernel
theorem dX4_read_5 : decode cX4_read 5 = .ok (.aload_n 0, 1) := by decide +kernel
theorem dX4_read_6 : decode cX4_read 6 = .ok (.iconst 0, 1) := by decide +kernel
theorem dX4_read_7 : decode cX4_read 7 = .ok (.putfield 44, 3) := by decide +kernel
theorem dX4_read_10 : decode cX4_read 10 = .ok (.aload_n 0, 1) := by decide +kernel
theorem dX4_read_11 : decode cX4_read 11 = .ok (.getfield 15, 3) := by decide +kernel
theorem dX4_read_14 : decode cX4_read 14 = .ok (.iconst 0, 1) := by decide +kernel
theorem dX4_read_15 : decode cX4_read 15 = .ok (.putfield 47, 3) := by decide +kernel
theorem dX4_read_18 : decode cX4_read 18 = .ok (.aload_n 0, 1) := by decide +kernel
theorem dX4_read_19 : decode cX4_read 19 = .ok (.getfield 9, 3) := by decide +kernel
theorem dX4_read_22 : decode cX4_read 22 = .ok (.getfield 52, 3) := by decide +kernel
theorem dX4_read_25 : decode cX4_read 25 = .ok (.sipush 400, 3) := by decide +kernel
theorem dX4_read_28 : decode cX4_read 28 = .ok (.if_icmp .le 12, 3) := by decide +kernel
theorem dX4_read_31 : decode cX4_read 31 = .ok (.aload_n 0, 1) := by decide +kernel
theorem dX4_read_32 : decode cX4_read 32 = .ok (.iconst 1, 1) := by decide +kernel
theorem dX4_read_33 : decode cX4_read 33 = .ok (.sipush 400, 3) := by decide +kernel
theorem dX4_read_36 : decode cX4_read 36 = .ok (.invokevirtual 57, 3) := by decide +kernel
theorem dX4_read_39 : decode cX4_read 39 = .ok (.return_, 1) := by decide +kernel
theorem dX4_read_40 : decode cX4_read 40 = .ok (.aload_n 0, 1) := by decide +kernel
theorem dX4_read_41 : decode cX4_read 41 = .ok (.iconst 0, 1) := by decide +kernel
theorem dX4_read_42 : decode cX4_read 42 = .ok (.putfield 61, 3) := by decide +kernel
theorem dX4_read_45 : decode cX4_read 45 = .ok (.aload_n 0, 1) := by decide +kernel
theorem dX4_read_46 : decode cX4_read 46 = .ok (.invokevirtual 64, 3) := by decide +kernel
theorem dX4_read_49 : decode cX4_read 49 = .ok (.iconst 0, 1) := by decide +kernel
theorem dX4_read_50 : decode cX4_read 50 = .ok (.istore_n 1, 1) := by decide +kernel
theorem dX4_read_51 : decode cX4_read 51 = .ok (.iload_n 1, 1) := by decide +kernel
theorem dX4_read_52 : decode cX4_read 52 = .ok (.sipush 400, 3) := by decide +kernel
theorem dX4_read_55 : decode cX4_read 55 = .ok (.if_icmp .gt 27, 3) := by decide +kernel
theorem dX4_read_58 : decode cX4_read 58 = .ok (.aload_n 0, 1) := by decide +kernel
theorem dX4_read_59 : decode cX4_read 59 = .ok (.getfield 67, 3) := by decide +kernel
theorem dX4_read_62 : decode cX4_read 62 = .ok (.ifCond .eq 20, 3) := by decide +kernel
theorem dX4_read_65 : decode cX4_read 65 = .ok (.aload_n 0, 1) := by decide +kernel
theorem dX4_read_66 : decode cX4_read 66 = .ok (.getfield 41, 3) := by decide +kernel
theorem dX4_read_69 : decode cX4_read 69 = .ok (.ifCond .ne 13, 3) := by decide +kernel
theorem dX4_read_72 : decode cX4_read 72 = .ok (.aload_n 0, 1) := by decide +kernel
theorem dX4_read_73 : decode cX4_read 73 = .ok (.invokevirtual 70, 3) := by decide +kernel
theorem dX4_read_76 : decode cX4_read 76 = .ok (.iinc 1 1, 3) := by decide +kernel
theorem dX4_read_79 : decode cX4_read 79 = .ok (.goto (-28), 3) := by decide +kernel
theorem dX4_read_82 : decode cX4_read 82 = .ok (.aload_n 0, 1) := by decide +kernel
theorem dX4_read_83 : decode cX4_read 83 = .ok (.getfield 41, 3) := by decide +kernel
theorem dX4_read_86 : decode cX4_read 86 = .ok (.ifCond .ne 22, 3) := by decide +kernel
theorem dX4_read_89 : decode cX4_read 89 = .ok (.aload_n 0, 1) := by decide +kernel
theorem dX4_read_90 : decode cX4_read 90 = .ok (.invokevirtual 73, 3) := by decide +kernel
theorem dX4_read_93 : decode cX4_read 93 = .ok (.ifCond .eq 15, 3) := by decide +kernel
theorem dX4_read_96 : decode cX4_read 96 = .ok (.aload_n 0, 1) := by decide +kernel
theorem dX4_read_97 : decode cX4_read 97 = .ok (.iconst 5, 1) := by decide +kernel
theorem dX4_read_98 : decode cX4_read 98 = .ok (.aload_n 0, 1) := by decide +kernel
theorem dX4_read_99 : decode cX4_read 99 = .ok (.getfield 9, 3) := by decide +kernel
theorem dX4_read_102 : decode cX4_read 102 = .ok (.getfield 52, 3) := by decide +kernel
theorem dX4_read_105 : decode cX4_read 105 = .ok (.invokevirtual 57, 3) := by decide +kernel
theorem dX4_read_108 : decode cX4_read 108 = .ok (.return_, 1) := by decide +kernel
theorem dX4_readLine_0 : decode cX4_readLine 0 = .ok (.aload_n 0, 1) := by decide +kernel
theorem dX4_readLine_1 : decode cX4_readLine 1 = .ok (.getfield 67, 3) := by decide +kernel
theorem dX4_readLine_4 : decode cX4_readLine 4 = .ok (.iconst 1, 1) := by decide +kernel
theorem dX4_readLine_5 : decode cX4_readLine 5 = .ok (.if_icmp .ne 14, 3) := by decide +kernel
theorem dX4_readLine_8 : decode cX4_readLine 8 = .ok (.aload_n 0, 1) := by decide +kernel
theorem dX4_readLine_9 : decode cX4_readLine 9 = .ok (.aload_n 0, 1) := by decide +kernel
theorem dX4_readLine_10 : decode cX4_readLine 10 = .ok (.getfield 86, 3) := by decide +kernel
theorem dX4_readLine_13 : decode cX4_readLine 13 = .ok (.invokevirtual 89, 3) := by decide +kernel
theorem dX4_readLine_16 : decode cX4_readLine 16 = .ok (.goto 4, 3) := by decide +kernel
theorem dX4_readLine_19 : decode cX4_readLine 19 = .ok (.iconst (-1), 1) := by decide +kernel
theorem dX4_readLine_20 : decode cX4_readLine 20 = .ok (.istore_n 1, 1) := by decide +kernel
theorem dX4_readLine_21 : decode cX4_readLine 21 = .ok (.iload_n 1, 1) := by decide +kernel
theorem dX4_readLine_22 : decode cX4_readLine 22 = .ok (.iconst (-1), 1) := by decide +kernel
theorem dX4_readLine_23 : decode cX4_readLine 23 = .ok (.if_icmp .eq 11, 3) := by decide +kernel
theorem dX4_readLine_26 : decode cX4_readLine 26 = .ok (.aload_n 0, 1) := by decide +kernel
theorem dX4_readLine_27 : decode cX4_readLine 27 = .ok (.iload_n 1, 1) := by decide +kernel
theorem dX4_readLine_28 : decode cX4_readLine 28 = .ok (.invokevirtual 93, 3) := by decide +kernel
theorem dX4_readLine_31 : decode cX4_readLine 31 = .ok (.goto 45, 3) := by decide +kernel
theorem dX4_readLine_34 : decode cX4_readLine 34 = .ok (.aload_n 0, 1) := by decide +kernel
theorem dX4_readLine_35 : decode cX4_readLine 35 = .ok (.getfield 67, 3) := by decide +kernel
theorem dX4_readLine_38 : decode cX4_readLine 38 = .ok (.iconst 1, 1) := by decide +kernel
theorem dX4_readLine_39 : decode cX4_readLine 39 = .ok (.if_icmp .ne 32, 3) := by decide +kernel
theorem dX4_readLine_42 : decode cX4_readLine 42 = .ok (.aload_n 0, 1) := by decide +kernel
theorem dX4_readLine_43 : decode cX4_readLine 43 = .ok (.getfield 86, 3) := by decide +kernel
theorem dX4_readLine_46 : decode cX4_readLine 46 = .ok (.aload_n 0, 1) := by decide +kernel
theorem dX4_readLine_47 : decode cX4_readLine 47 = .ok (.getfield 37, 3) := by decide +kernel
theorem dX4_readLine_50 : decode cX4_readLine 50 = .ok (.if_icmp .ne 21, 3) := by decide +kernel
theorem dX4_readLine_53 : decode cX4_readLine 53 = .ok (.aload_n 0, 1) := by decide +kernel
theorem dX4_readLine_54 : decode cX4_readLine 54 = .ok (.invokevirtual 97, 3) := by decide +kernel
theorem dX4_readLine_57 : decode cX4_readLine 57 = .ok (.istore_n 2, 1) := by decide +kernel
theorem dX4_readLine_58 : decode cX4_readLine 58 = .ok (.iload_n 2, 1) := by decide +kernel
theorem dX4_readLine_59 : decode cX4_readLine 59 = .ok (.iconst (-1), 1) := by decide +kernel
theorem dX4_readLine_60 : decode cX4_readLine 60 = .ok (.if_icmp .eq 8, 3) := by decide +kernel
theorem dX4_readLine_63 : decode cX4_readLine 63 = .ok (.aload_n 0, 1) := by decide +kernel
theorem dX4_readLine_64 : decode cX4_readLine 64 = .ok (.iload_n 2, 1) := by decide +kernel
theorem dX4_readLine_65 : decode cX4_readLine 65 = .ok (.invokevirtual 101, 3) := by decide +kernel
theorem dX4_readLine_68 : decode cX4_readLine 68 = .ok (.goto 8, 3) := by decide +kernel
theorem dX4_readLine_71 : decode cX4_readLine 71 = .ok (.aload_n 0, 1) := by decide +kernel
theorem dX4_readLine_72 : decode cX4_readLine 72 = .ok (.iconst 1, 1) := by decide +kernel
theorem dX4_readLine_73 : decode cX4_readLine 73 = .ok (.invokevirtual 104, 3) := by decide +kernel
theorem dX4_readLine_76 : decode cX4_readLine 76 = .ok (.aload_n 0, 1) := by decide +kernel
theorem dX4_readLine_77 : decode cX4_readLine 77 = .ok (.getfield 41, 3) := by decide +kernel
theorem dX4_readLine_80 : decode cX4_readLine 80 = .ok (.ifCond .ne 16, 3) := by decide +kernel
theorem dX4_readLine_83 : decode cX4_readLine 83 = .ok (.aload_n 0, 1) := by decide +kernel
theorem dX4_readLine_84 : decode cX4_readLine 84 = .ok (.getfield 67, 3) := by decide +kernel
theorem dX4_readLine_87 : decode cX4_readLine 87 = .ok (.iconst 3, 1) := by decide +kernel
theorem dX4_readLine_88 : decode cX4_readLine 88 = .ok (.if_icmp .eq 8, 3) := by decide +kernel
theorem dX4_readLine_91 : decode cX4_readLine 91 = .ok (.aload_n 0, 1) := by decide +kernel
theorem dX4_readLine_92 : decode cX4_readLine 92 = .ok (.iconst 1, 1) := by decide +kernel
theorem dX4_readLine_93 : decode cX4_readLine 93 = .ok (.invokevirtual 104, 3) := by decide +kernel
theorem dX4_readLine_96 : decode cX4_readLine 96 = .ok (.aload_n 0, 1) := by decide +kernel
theorem dX4_readLine_97 : decode cX4_readLine 97 = .ok (.getfield 41, 3) := by decide +kernel
theorem dX4_readLine_100 : decode cX4_readLine 100 = .ok (.ifCond .ne 7, 3) := by decide +kernel
theorem dX4_readLine_103 : decode cX4_readLine 103 = .ok (.aload_n 0, 1) := by decide +kernel
theorem dX4_readLine_104 : decode cX4_readLine 104 = .ok (.invokevirtual 64, 3) := by decide +kernel
theorem dX4_readLine_107 : decode cX4_readLine 107 = .ok (.return_, 1) := by decide +kernel
theorem dX4_readNode_0 : decode cX4_readNode 0 = .ok (.aload_n 0, 1) := by decide +kernel
theorem dX4_readNode_1 : decode cX4_readNode 1 = .ok (.iload_n 1, 1) := by decide +kernel
theorem dX4_readNode_2 : decode cX4_readNode 2 = .ok (.invokevirtual 110, 3) := by decide +kernel
theorem dX4_readNode_5 : decode cX4_readNode 5 = .ok (.ifCond .eq 9, 3) := by decide +kernel
theorem dX4_readNode_8 : decode cX4_readNode 8 = .ok (.aload_n 0, 1) := by decide +kernel
theorem dX4_readNode_9 : decode cX4_readNode 9 = .ok (.iconst 4, 1) := by decide +kernel
theorem dX4_readNode_10 : decode cX4_readNode 10 = .ok (.invokevirtual 104, 3) := by decide +kernel
theorem dX4_readNode_13 : decode cX4_readNode 13 = .ok (.return_, 1) := by decide +kernel
theorem dX4_readNode_14 : decode cX4_readNode 14 = .ok (.aload_n 0, 1) := by decide +kernel
theorem dX4_readNode_15 : decode cX4_readNode 15 = .ok (.invokevirtual 64, 3) := by decide +kernel
theorem dX4_readNode_18 : decode cX4_readNode 18 = .ok (.aload_n 0, 1) := by decide +kernel
theorem dX4_readNode_19 : decode cX4_readNode 19 = .ok (.getfield 86, 3) := by decide +kernel
theorem dX4_readNode_22 : decode cX4_readNode 22 = .ok (.istore_n 2, 1) := by decide +kernel
theorem dX4_readNode_23 : decode cX4_readNode 23 = .ok (.aload_n 0, 1) := by decide +kernel
theorem dX4_readNode_24 : decode cX4_readNode 24 = .ok (.invokevirtual 114, 3) := by decide +kernel
theorem dX4_readNode_27 : decode cX4_readNode 27 = .ok (.ifCond .ne 11, 3) := by decide +kernel
theorem dX4_readNode_30 : decode cX4_readNode 30 = .ok (.aload_n 0, 1) := by decide +kernel
theorem dX4_readNode_31 : decode cX4_readNode 31 = .ok (.iconst 1, 1) := by decide +kernel
theorem dX4_readNode_32 : decode cX4_readNode 32 = .ok (.invokevirtual 104, 3) := by decide +kernel
theorem dX4_readNode_35 : decode cX4_readNode 35 = .ok (.goto 63, 3) := by decide +kernel
theorem dX4_readNode_38 : decode cX4_readNode 38 = .ok (.aload_n 0, 1) := by decide +kernel
theorem dX4_readNode_39 : decode cX4_readNode 39 = .ok (.getfield 15, 3) := by decide +kernel
theorem dX4_readNode_42 : decode cX4_readNode 42 = .ok (.iload_n 2, 1) := by decide +kernel
theorem dX4_readNode_43 : decode cX4_readNode 43 = .ok (.invokevirtual 117, 3) := by decide +kernel
theorem dX4_readNode_46 : decode cX4_readNode 46 = .ok (.iconst (-1), 1) := by decide +kernel
theorem dX4_readNode_47 : decode cX4_readNode 47 = .ok (.if_icmp .eq 11, 3) := by decide +kernel
theorem dX4_readNode_50 : decode cX4_readNode 50 = .ok (.aload_n 0, 1) := by decide +kernel
theorem dX4_readNode_51 : decode cX4_readNode 51 = .ok (.iconst 3, 1) := by decide +kernel
theorem dX4_readNode_52 : decode cX4_readNode 52 = .ok (.invokevirtual 104, 3) := by decide +kernel
theorem dX4_readNode_55 : decode cX4_readNode 55 = .ok (.goto 43, 3) := by decide +kernel
theorem dX4_readNode_58 : decode cX4_readNode 58 = .ok (.aload_n 0, 1) := by decide +kernel
theorem dX4_readNode_59 : decode cX4_readNode 59 = .ok (.invokevirtual 64, 3) := by decide +kernel
theorem dX4_readNode_62 : decode cX4_readNode 62 = .ok (.aload_n 0, 1) := by decide +kernel
theorem dX4_readNode_63 : decode cX4_readNode 63 = .ok (.getfield 15, 3) := by decide +kernel
theorem dX4_readNode_66 : decode cX4_readNode 66 = .ok (.iload_n 1, 1) := by decide +kernel
theorem dX4_readNode_67 : decode cX4_readNode 67 = .ok (.iload_n 2, 1) := by decide +kernel
theorem dX4_readNode_68 : decode cX4_readNode 68 = .ok (.iload_n 1, 1) := by decide +kernel
theorem dX4_readNode_69 : decode cX4_readNode 69 = .ok (.ifCond .ne 10, 3) := by decide +kernel
theorem dX4_readNode_72 : decode cX4_readNode 72 = .ok (.aload_n 0, 1) := by decide +kernel
theorem dX4_readNode_73 : decode cX4_readNode 73 = .ok (.getfield 86, 3) := by decide +kernel
theorem dX4_readNode_76 : decode cX4_readNode 76 = .ok (.goto 4, 3) := by decide +kernel
theorem dX4_readNode_79 : decode cX4_readNode 79 = .ok (.iconst 0, 1) := by decide +kernel
theorem dX4_readNode_80 : decode cX4_readNode 80 = .ok (.invokevirtual 120, 3) := by decide +kernel
theorem dX4_readNode_83 : decode cX4_readNode 83 = .ok (.iload_n 1, 1) := by decide +kernel
theorem dX4_readNode_84 : decode cX4_readNode 84 = .ok (.ifCond .ne 14, 3) := by decide +kernel
theorem dX4_readNode_87 : decode cX4_readNode 87 = .ok (.aload_n 0, 1) := by decide +kernel
theorem dX4_readNode_88 : decode cX4_readNode 88 = .ok (.invokevirtual 124, 3) := by decide +kernel
theorem dX4_readNode_91 : decode cX4_readNode 91 = .ok (.ifCond .eq 7, 3) := by decide +kernel
theorem dX4_readNode_94 : decode cX4_readNode 94 = .ok (.aload_n 0, 1) := by decide +kernel
theorem dX4_readNode_95 : decode cX4_readNode 95 = .ok (.invokevirtual 64, 3) := by decide +kernel
theorem dX4_readNode_98 : decode cX4_readNode 98 = .ok (.return_, 1) := by decide +kernel
theorem dX4_readStart_0 : decode cX4_readStart 0 = .ok (.aload_n 0, 1) := by decide +kernel
theorem dX4_readStart_1 : decode cX4_readStart 1 = .ok (.invokevirtual 64, 3) := by decide +kernel
theorem dX4_readStart_4 : decode cX4_readStart 4 = .ok (.aload_n 0, 1) := by decide +kernel
theorem dX4_readStart_5 : decode cX4_readStart 5 = .ok (.invokevirtual 114, 3) := by decide +kernel
theorem dX4_readStart_8 : decode cX4_readStart 8 = .ok (.ifCond .eq 17, 3) := by decide +kernel
theorem dX4_readStart_11 : decode cX4_readStart 11 = .ok (.aload_n 0, 1) := by decide +kernel
theorem dX4_readStart_12 : decode cX4_readStart 12 = .ok (.getfield 15, 3) := by decide +kernel
theorem dX4_readStart_15 : decode cX4_readStart 15 = .ok (.aload_n 0, 1) := by decide +kernel
theorem dX4_readStart_16 : decode cX4_readStart 16 = .ok (.getfield 86, 3) := by decide +kernel
theorem dX4_readStart_19 : decode cX4_readStart 19 = .ok (.invokevirtual 117, 3) := by decide +kernel
theorem dX4_readStart_22 : decode cX4_readStart 22 = .ok (.goto 4, 3) := by decide +kernel
theorem dX4_readStart_25 : decode cX4_readStart 25 = .ok (.iconst (-1), 1) := by decide +kernel
theorem dX4_readStart_26 : decode cX4_readStart 26 = .ok (.istore_n 1, 1) := by decide +kernel
theorem dX4_readStart_27 : decode cX4_readStart 27 = .ok (.aload_n 0, 1) := by decide +kernel
theorem dX4_readStart_28 : decode cX4_readStart 28 = .ok (.invokevirtual 114, 3) := by decide +kernel
theorem dX4_readStart_31 : decode cX4_readStart 31 = .ok (.ifCond .ne 11, 3) := by decide +kernel
theorem dX4_readStart_34 : decode cX4_readStart 34 = .ok (.aload_n 0, 1) := by decide +kernel
theorem dX4_readStart_35 : decode cX4_readStart 35 = .ok (.iconst 1, 1) := by decide +kernel
theorem dX4_readStart_36 : decode cX4_readStart 36 = .ok (.invokevirtual 104, 3) := by decide +kernel
theorem dX4_readStart_39 : decode cX4_readStart 39 = .ok (.goto 46, 3) := by decide +kernel
theorem dX4_readStart_42 : decode cX4_readStart 42 = .ok (.iload_n 1, 1) := by decide +kernel
theorem dX4_readStart_43 : decode cX4_readStart 43 = .ok (.iconst (-1), 1) := by decide +kernel
theorem dX4_readStart_44 : decode cX4_readStart 44 = .ok (.if_icmp .eq 15, 3) := by decide +kernel
theorem dX4_readStart_47 : decode cX4_readStart 47 = .ok (.aload_n 0, 1) := by decide +kernel
theorem dX4_readStart_48 : decode cX4_readStart 48 = .ok (.getfield 15, 3) := by decide +kernel
theorem dX4_readStart_51 : decode cX4_readStart 51 = .ok (.getfield 80, 3) := by decide +kernel
theorem dX4_readStart_54 : decode cX4_readStart 54 = .ok (.iload_n 1, 1) := by decide +kernel
theorem dX4_readStart_55 : decode cX4_readStart 55 = .ok (.iaload, 1) := by decide +kernel
theorem dX4_readStart_56 : decode cX4_readStart 56 = .ok (.ifCond .ne 11, 3) := by decide +kernel
theorem dX4_readStart_59 : decode cX4_readStart 59 = .ok (.aload_n 0, 1) := by decide +kernel
theorem dX4_readStart_60 : decode cX4_readStart 60 = .ok (.iconst 3, 1) := by decide +kernel
theorem dX4_readStart_61 : decode cX4_readStart 61 = .ok (.invokevirtual 104, 3) := by decide +kernel
theorem dX4_readStart_64 : decode cX4_readStart 64 = .ok (.goto 21, 3) := by decide +kernel
theorem dX4_readStart_67 : decode cX4_readStart 67 = .ok (.aload_n 0, 1) := by decide +kernel
theorem dX4_readStart_68 : decode cX4_readStart 68 = .ok (.getfield 15, 3) := by decide +kernel
theorem dX4_readStart_71 : decode cX4_readStart 71 = .ok (.getfield 83, 3) := by decide +kernel
theorem dX4_readStart_74 : decode cX4_readStart 74 = .ok (.iload_n 1, 1) := by decide +kernel
theorem dX4_readStart_75 : decode cX4_readStart 75 = .ok (.iaload, 1) := by decide +kernel
theorem dX4_readStart_76 : decode cX4_readStart 76 = .ok (.iconst 3, 1) := by decide +kernel
theorem dX4_readStart_77 : decode cX4_readStart 77 = .ok (.if_icmp .lt 8, 3) := by decide +kernel
theorem dX4_readStart_80 : decode cX4_readStart 80 = .ok (.aload_n 0, 1) := by decide +kernel
theorem dX4_readStart_81 : decode cX4_readStart 81 = .ok (.iconst 4, 1) := by decide +kernel
theorem dX4_readStart_82 : decode cX4_readStart 82 = .ok (.invokevirtual 104, 3) := by decide +kernel
theorem dX4_readStart_85 : decode cX4_readStart 85 = .ok (.aload_n 0, 1) := by decide +kernel
theorem dX4_readStart_86 : decode cX4_readStart 86 = .ok (.getfield 41, 3) := by decide +kernel
theorem dX4_readStart_89 : decode cX4_readStart 89 = .ok (.ifCond .ne 7, 3) := by decide +kernel
theorem dX4_readStart_92 : decode cX4_readStart 92 = .ok (.iload_n 1, 1) := by decide +kernel
theorem dX4_readStart_93 : decode cX4_readStart 93 = .ok (.goto 4, 3) := by decide +kernel
theorem dX4_readStart_96 : decode cX4_readStart 96 = .ok (.iconst (-1), 1) := by decide +kernel
theorem dX4_readStart_97 : decode cX4_readStart 97 = .ok (.ireturn, 1) := by decide +kernel
theorem dX4_readTarget_0 : decode cX4_readTarget 0 = .ok (.aload_n 0, 1) := by decide +kernel
theorem dX4_readTarget_1 : decode cX4_readTarget 1 = .ok (.invokevirtual 64, 3) := by decide +kernel
theorem dX4_readTarget_4 : decode cX4_readTarget 4 = .ok (.aload_n 0, 1) := by decide +kernel
theorem dX4_readTarget_5 : decode cX4_readTarget 5 = .ok (.invokevirtual 114, 3) := by decide +kernel
theorem dX4_readTarget_8 : decode cX4_readTarget 8 = .ok (.ifCond .ne 9, 3) := by decide +kernel
theorem dX4_readTarget_11 : decode cX4_readTarget 11 = .ok (.aload_n 0, 1) := by decide +kernel
theorem dX4_readTarget_12 : decode cX4_readTarget 12 = .ok (.iconst 1, 1) := by decide +kernel
theorem dX4_readTarget_13 : decode cX4_readTarget 13 = .ok (.invokevirtual 104, 3) := by decide +kernel
theorem dX4_readTarget_16 : decode cX4_readTarget 16 = .ok (.return_, 1) := by decide +kernel
theorem dX4_readTarget_17 : decode cX4_readTarget 17 = .ok (.aload_n 0, 1) := by decide +kernel
theorem dX4_readTarget_18 : decode cX4_readTarget 18 = .ok (.getfield 15, 3) := by decide +kernel
theorem dX4_readTarget_21 : decode cX4_readTarget 21 = .ok (.aload_n 0, 1) := by decide +kernel
theorem dX4_readTarget_22 : decode cX4_readTarget 22 = .ok (.getfield 86, 3) := by decide +kernel
theorem dX4_readTarget_25 : decode cX4_readTarget 25 = .ok (.invokevirtual 117, 3) := by decide +kernel
theorem dX4_readTarget_28 : decode cX4_readTarget 28 = .ok (.istore_n 2, 1) := by decide +kernel
theorem dX4_readTarget_29 : decode cX4_readTarget 29 = .ok (.aload_n 0, 1) := by decide +kernel
theorem dX4_readTarget_30 : decode cX4_readTarget 30 = .ok (.getfield 77, 3) := by decide +kernel
theorem dX4_readTarget_33 : decode cX4_readTarget 33 = .ok (.istore_n 3, 1) := by decide +kernel
theorem dX4_readTarget_34 : decode cX4_readTarget 34 = .ok (.aload_n 0, 1) := by decide +kernel
theorem dX4_readTarget_35 : decode cX4_readTarget 35 = .ok (.invokevirtual 64, 3) := by decide +kernel
theorem dX4_readTarget_38 : decode cX4_readTarget 38 = .ok (.aload_n 0, 1) := by decide +kernel
theorem dX4_readTarget_39 : decode cX4_readTarget 39 = .ok (.getfield 67, 3) := by decide +kernel
theorem dX4_readTarget_42 : decode cX4_readTarget 42 = .ok (.iconst 2, 1) := by decide +kernel
theorem dX4_readTarget_43 : decode cX4_readTarget 43 = .ok (.if_icmp .ne 7, 3) := by decide +kernel
theorem dX4_readTarget_46 : decode cX4_readTarget 46 = .ok (.iconst 1, 1) := by decide +kernel
theorem dX4_readTarget_47 : decode cX4_readTarget 47 = .ok (.goto 4, 3) := by decide +kernel
theorem dX4_readTarget_50 : decode cX4_readTarget 50 = .ok (.iconst 0, 1) := by decide +kernel
theorem dX4_readTarget_51 : decode cX4_readTarget 51 = .ok (.istore 4, 2) := by decide +kernel
theorem dX4_readTarget_53 : decode cX4_readTarget 53 = .ok (.iload 4, 2) := by decide +kernel
theorem dX4_readTarget_55 : decode cX4_readTarget 55 = .ok (.ifCond .ne 39, 3) := by decide +kernel
theorem dX4_readTarget_58 : decode cX4_readTarget 58 = .ok (.aload_n 0, 1) := by decide +kernel
theorem dX4_readTarget_59 : decode cX4_readTarget 59 = .ok (.getfield 15, 3) := by decide +kernel
theorem dX4_readTarget_62 : decode cX4_readTarget 62 = .ok (.getfield 80, 3) := by decide +kernel
theorem dX4_readTarget_65 : decode cX4_readTarget 65 = .ok (.iload_n 1, 1) := by decide +kernel
theorem dX4_readTarget_66 : decode cX4_readTarget 66 = .ok (.iaload, 1) := by decide +kernel
theorem dX4_readTarget_67 : decode cX4_readTarget 67 = .ok (.iconst 3, 1) := by decide +kernel
theorem dX4_readTarget_68 : decode cX4_readTarget 68 = .ok (.if_icmp .ne 26, 3) := by decide +kernel
theorem dX4_readTarget_71 : decode cX4_readTarget 71 = .ok (.aload_n 0, 1) := by decide +kernel
theorem dX4_readTarget_72 : decode cX4_readTarget 72 = .ok (.getfield 15, 3) := by decide +kernel
theorem dX4_readTarget_75 : decode cX4_readTarget 75 = .ok (.iload_n 1, 1) := by decide +kernel
theorem dX4_readTarget_76 : decode cX4_readTarget 76 = .ok (.invokevirtual 127, 3) := by decide +kernel
theorem dX4_readTarget_79 : decode cX4_readTarget 79 = .ok (.iconst 1, 1) := by decide +kernel
theorem dX4_readTarget_80 : decode cX4_readTarget 80 = .ok (.iadd, 1) := by decide +kernel
theorem dX4_readTarget_81 : decode cX4_readTarget 81 = .ok (.iconst 4, 1) := by decide +kernel
theorem dX4_readTarget_82 : decode cX4_readTarget 82 = .ok (.if_icmp .le 12, 3) := by decide +kernel
theorem dX4_readTarget_85 : decode cX4_readTarget 85 = .ok (.aload_n 0, 1) := by decide +kernel
theorem dX4_readTarget_86 : decode cX4_readTarget 86 = .ok (.iconst 2, 1) := by decide +kernel
theorem dX4_readTarget_87 : decode cX4_readTarget 87 = .ok (.iload_n 3, 1) := by decide +kernel
theorem dX4_readTarget_88 : decode cX4_readTarget 88 = .ok (.invokevirtual 57, 3) := by decide +kernel
theorem dX4_readTarget_91 : decode cX4_readTarget 91 = .ok (.goto 60, 3) := by decide +kernel
theorem dX4_readTarget_94 : decode cX4_readTarget 94 = .ok (.iload_n 2, 1) := by decide +kernel
theorem dX4_readTarget_95 : decode cX4_readTarget 95 = .ok (.iconst (-1), 1) := by decide +kernel
theorem dX4_readTarget_96 : decode cX4_readTarget 96 = .ok (.if_icmp .ne 12, 3) := by decide +kernel
theorem dX4_readTarget_99 : decode cX4_readTarget 99 = .ok (.aload_n 0, 1) := by decide +kernel
theorem dX4_readTarget_100 : decode cX4_readTarget 100 = .ok (.iconst 3, 1) := by decide +kernel
theorem dX4_readTarget_101 : decode cX4_readTarget 101 = .ok (.iload_n 3, 1) := by decide +kernel
theorem dX4_readTarget_102 : decode cX4_readTarget 102 = .ok (.invokevirtual 57, 3) := by decide +kernel
theorem dX4_readTarget_105 : decode cX4_readTarget 105 = .ok (.goto 46, 3) := by decide +kernel
theorem dX4_readTarget_108 : decode cX4_readTarget 108 = .ok (.iload 4, 2) := by decide +kernel
theorem dX4_readTarget_110 : decode cX4_readTarget 110 = .ok (.ifCond .eq 10, 3) := by decide +kernel
theorem dX4_readTarget_113 : decode cX4_readTarget 113 = .ok (.aload_n 0, 1) := by decide +kernel
theorem dX4_readTarget_114 : decode cX4_readTarget 114 = .ok (.getfield 86, 3) := by decide +kernel
theorem dX4_readTarget_117 : decode cX4_readTarget 117 = .ok (.goto 4, 3) := by decide +kernel
theorem dX4_readTarget_120 : decode cX4_readTarget 120 = .ok (.iconst 1, 1) := by decide +kernel
theorem dX4_readTarget_121 : decode cX4_readTarget 121 = .ok (.istore 5, 2) := by decide +kernel
theorem dX4_readTarget_123 : decode cX4_readTarget 123 = .ok (.iload 4, 2) := by decide +kernel
theorem dX4_readTarget_125 : decode cX4_readTarget 125 = .ok (.ifCond .eq 15, 3) := by decide +kernel
theorem dX4_readTarget_128 : decode cX4_readTarget 128 = .ok (.aload_n 0, 1) := by decide +kernel
theorem dX4_readTarget_129 : decode cX4_readTarget 129 = .ok (.iload_n 1, 1) := by decide +kernel
theorem dX4_readTarget_130 : decode cX4_readTarget 130 = .ok (.invokevirtual 130, 3) := by decide +kernel
theorem dX4_readTarget_133 : decode cX4_readTarget 133 = .ok (.ifCond .eq 7, 3) := by decide +kernel
theorem dX4_readTarget_136 : decode cX4_readTarget 136 = .ok (.aload_n 0, 1) := by decide +kernel
theorem dX4_readTarget_137 : decode cX4_readTarget 137 = .ok (.invokevirtual 64, 3) := by decide +kernel
theorem dX4_readTarget_140 : decode cX4_readTarget 140 = .ok (.aload_n 0, 1) := by decide +kernel
theorem dX4_readTarget_141 : decode cX4_readTarget 141 = .ok (.getfield 15, 3) := by decide +kernel
theorem dX4_readTarget_144 : decode cX4_readTarget 144 = .ok (.iload_n 1, 1) := by decide +kernel
theorem dX4_readTarget_145 : decode cX4_readTarget 145 = .ok (.iload_n 2, 1) := by decide +kernel
theorem dX4_readTarget_146 : decode cX4_readTarget 146 = .ok (.iload 5, 2) := by decide +kernel
theorem dX4_readTarget_148 : decode cX4_readTarget 148 = .ok (.invokevirtual 133, 3) := by decide +kernel
theorem dX4_readTarget_151 : decode cX4_readTarget 151 = .ok (.return_, 1) := by decide +kernel
theorem dX4_takeRun_0 : decode cX4_takeRun 0 = .ok (.iconst 0, 1) := by decide +kernel
theorem dX4_takeRun_1 : decode cX4_takeRun 1 = .ok (.istore_n 1, 1) := by decide +kernel
theorem dX4_takeRun_2 : decode cX4_takeRun 2 = .ok (.iconst 0, 1) := by decide +kernel
theorem dX4_takeRun_3 : decode cX4_takeRun 3 = .ok (.istore_n 2, 1) := by decide +kernel
theorem dX4_takeRun_4 : decode cX4_takeRun 4 = .ok (.aload_n 0, 1) := by decide +kernel
theorem dX4_takeRun_5 : decode cX4_takeRun 5 = .ok (.getfield 61, 3) := by decide +kernel
theorem dX4_takeRun_8 : decode cX4_takeRun 8 = .ok (.aload_n 0, 1) := by decide +kernel
theorem dX4_takeRun_9 : decode cX4_takeRun 9 = .ok (.getfield 9, 3) := by decide +kernel
theorem dX4_takeRun_12 : decode cX4_takeRun 12 = .ok (.getfield 52, 3) := by decide +kernel
theorem dX4_takeRun_15 : decode cX4_takeRun 15 = .ok (.if_icmp .ge 115, 3) := by decide +kernel
theorem dX4_takeRun_18 : decode cX4_takeRun 18 = .ok (.aload_n 0, 1) := by decide +kernel
theorem dX4_takeRun_19 : decode cX4_takeRun 19 = .ok (.getfield 9, 3) := by decide +kernel
theorem dX4_takeRun_22 : decode cX4_takeRun 22 = .ok (.getfield 136, 3) := by decide +kernel
theorem dX4_takeRun_25 : decode cX4_takeRun 25 = .ok (.aload_n 0, 1) := by decide +kernel
theorem dX4_takeRun_26 : decode cX4_takeRun 26 = .ok (.getfield 61, 3) := by decide +kernel
theorem dX4_takeRun_29 : decode cX4_takeRun 29 = .ok (.iaload, 1) := by decide +kernel
theorem dX4_takeRun_30 : decode cX4_takeRun 30 = .ok (.invokestatic 139, 3) := by decide +kernel
theorem dX4_takeRun_33 : decode cX4_takeRun 33 = .ok (.ifCond .ne 21, 3) := by decide +kernel
theorem dX4_takeRun_36 : decode cX4_takeRun 36 = .ok (.aload_n 0, 1) := by decide +kernel
theorem dX4_takeRun_37 : decode cX4_takeRun 37 = .ok (.getfield 9, 3) := by decide +kernel
theorem dX4_takeRun_40 : decode cX4_takeRun 40 = .ok (.getfield 136, 3) := by decide +kernel
theorem dX4_takeRun_43 : decode cX4_takeRun 43 = .ok (.aload_n 0, 1) := by decide +kernel
theorem dX4_takeRun_44 : decode cX4_takeRun 44 = .ok (.getfield 61, 3) := by decide +kernel
theorem dX4_takeRun_47 : decode cX4_takeRun 47 = .ok (.iaload, 1) := by decide +kernel
theorem dX4_takeRun_48 : decode cX4_takeRun 48 = .ok (.invokestatic 142, 3) := by decide +kernel
theorem dX4_takeRun_51 : decode cX4_takeRun 51 = .ok (.ifCond .eq 79, 3) := by decide +kernel
theorem dX4_takeRun_54 : decode cX4_takeRun 54 = .ok (.aload_n 0, 1) := by decide +kernel
theorem dX4_takeRun_55 : decode cX4_takeRun 55 = .ok (.getfield 9, 3) := by decide +kernel
theorem dX4_takeRun_58 : decode cX4_takeRun 58 = .ok (.getfield 136, 3) := by decide +kernel
theorem dX4_takeRun_61 : decode cX4_takeRun 61 = .ok (.aload_n 0, 1) := by decide +kernel
theorem dX4_takeRun_62 : decode cX4_takeRun 62 = .ok (.getfield 61, 3) := by decide +kernel
theorem dX4_takeRun_65 : decode cX4_takeRun 65 = .ok (.iaload, 1) := by decide +kernel
theorem dX4_takeRun_66 : decode cX4_takeRun 66 = .ok (.istore_n 3, 1) := by decide +kernel
theorem dX4_takeRun_67 : decode cX4_takeRun 67 = .ok (.iload_n 3, 1) := by decide +kernel
theorem dX4_takeRun_68 : decode cX4_takeRun 68 = .ok (.invokestatic 139, 3) := by decide +kernel
theorem dX4_takeRun_71 : decode cX4_takeRun 71 = .ok (.ifCond .eq 27, 3) := by decide +kernel
theorem dX4_takeRun_74 : decode cX4_takeRun 74 = .ok (.iinc 1 1, 3) := by decide +kernel
theorem dX4_takeRun_77 : decode cX4_takeRun 77 = .ok (.aload_n 0, 1) := by decide +kernel
theorem dX4_takeRun_78 : decode cX4_takeRun 78 = .ok (.aload_n 0, 1) := by decide +kernel
theorem dX4_takeRun_79 : decode cX4_takeRun 79 = .ok (.getfield 86, 3) := by decide +kernel
theorem dX4_takeRun_82 : decode cX4_takeRun 82 = .ok (.bipush 27, 2) := by decide +kernel
theorem dX4_takeRun_84 : decode cX4_takeRun 84 = .ok (.imul, 1) := by decide +kernel
theorem dX4_takeRun_85 : decode cX4_takeRun 85 = .ok (.iload_n 3, 1) := by decide +kernel
theorem dX4_takeRun_86 : decode cX4_takeRun 86 = .ok (.bipush 97, 2) := by decide +kernel
theorem dX4_takeRun_88 : decode cX4_takeRun 88 = .ok (.isub, 1) := by decide +kernel
theorem dX4_takeRun_89 : decode cX4_takeRun 89 = .ok (.iconst 1, 1) := by decide +kernel
theorem dX4_takeRun_90 : decode cX4_takeRun 90 = .ok (.iadd, 1) := by decide +kernel
theorem dX4_takeRun_91 : decode cX4_takeRun 91 = .ok (.iadd, 1) := by decide +kernel
theorem dX4_takeRun_92 : decode cX4_takeRun 92 = .ok (.putfield 86, 3) := by decide +kernel
theorem dX4_takeRun_95 : decode cX4_takeRun 95 = .ok (.goto 22, 3) := by decide +kernel
theorem dX4_takeRun_98 : decode cX4_takeRun 98 = .ok (.iinc 2 1, 3) := by decide +kernel
theorem dX4_takeRun_101 : decode cX4_takeRun 101 = .ok (.aload_n 0, 1) := by decide +kernel
theorem dX4_takeRun_102 : decode cX4_takeRun 102 = .ok (.aload_n 0, 1) := by decide +kernel
theorem dX4_takeRun_103 : decode cX4_takeRun 103 = .ok (.getfield 86, 3) := by decide +kernel
theorem dX4_takeRun_106 : decode cX4_takeRun 106 = .ok (.bipush 10, 2) := by decide +kernel
theorem dX4_takeRun_108 : decode cX4_takeRun 108 = .ok (.imul, 1) := by decide +kernel
theorem dX4_takeRun_109 : decode cX4_takeRun 109 = .ok (.iload_n 3, 1) := by decide +kernel
theorem dX4_takeRun_110 : decode cX4_takeRun 110 = .ok (.bipush 48, 2) := by decide +kernel
theorem dX4_takeRun_112 : decode cX4_takeRun 112 = .ok (.isub, 1) := by decide +kernel
theorem dX4_takeRun_113 : decode cX4_takeRun 113 = .ok (.iadd, 1) := by decide +kernel
theorem dX4_takeRun_114 : decode cX4_takeRun 114 = .ok (.putfield 86, 3) := by decide +kernel
theorem dX4_takeRun_117 : decode cX4_takeRun 117 = .ok (.aload_n 0, 1) := by decide +kernel
theorem dX4_takeRun_118 : decode cX4_takeRun 118 = .ok (.dup, 1) := by decide +kernel
theorem dX4_takeRun_119 : decode cX4_takeRun 119 = .ok (.getfield 61, 3) := by decide +kernel
theorem dX4_takeRun_122 : decode cX4_takeRun 122 = .ok (.iconst 1, 1) := by decide +kernel
theorem dX4_takeRun_123 : decode cX4_takeRun 123 = .ok (.iadd, 1) := by decide +kernel
theorem dX4_takeRun_124 : decode cX4_takeRun 124 = .ok (.putfield 61, 3) := by decide +kernel
theorem dX4_takeRun_127 : decode cX4_takeRun 127 = .ok (.goto (-123), 3) := by decide +kernel
theorem dX4_takeRun_130 : decode cX4_takeRun 130 = .ok (.iload_n 2, 1) := by decide +kernel
theorem dX4_takeRun_131 : decode cX4_takeRun 131 = .ok (.ifCond .ne 17, 3) := by decide +kernel
theorem dX4_takeRun_134 : decode cX4_takeRun 134 = .ok (.iload_n 1, 1) := by decide +kernel
theorem dX4_takeRun_135 : decode cX4_takeRun 135 = .ok (.bipush 6, 2) := by decide +kernel
theorem dX4_takeRun_137 : decode cX4_takeRun 137 = .ok (.if_icmp .gt 11, 3) := by decide +kernel
theorem dX4_takeRun_140 : decode cX4_takeRun 140 = .ok (.aload_n 0, 1) := by decide +kernel
theorem dX4_takeRun_141 : decode cX4_takeRun 141 = .ok (.iconst 1, 1) := by decide +kernel
theorem dX4_takeRun_142 : decode cX4_takeRun 142 = .ok (.putfield 67, 3) := by decide +kernel
theorem dX4_takeRun_145 : decode cX4_takeRun 145 = .ok (.goto 25, 3) := by decide +kernel
theorem dX4_takeRun_148 : decode cX4_takeRun 148 = .ok (.iload_n 1, 1) := by decide +kernel
theorem dX4_takeRun_149 : decode cX4_takeRun 149 = .ok (.ifCond .ne 16, 3) := by decide +kernel
theorem dX4_takeRun_152 : decode cX4_takeRun 152 = .ok (.iload_n 2, 1) := by decide +kernel
theorem dX4_takeRun_153 : decode cX4_takeRun 153 = .ok (.iconst 2, 1) := by decide +kernel
theorem dX4_takeRun_154 : decode cX4_takeRun 154 = .ok (.if_icmp .gt 11, 3) := by decide +kernel
theorem dX4_takeRun_157 : decode cX4_takeRun 157 = .ok (.aload_n 0, 1) := by decide +kernel
theorem dX4_takeRun_158 : decode cX4_takeRun 158 = .ok (.iconst 2, 1) := by decide +kernel
theorem dX4_takeRun_159 : decode cX4_takeRun 159 = .ok (.putfield 67, 3) := by decide +kernel
theorem dX4_takeRun_162 : decode cX4_takeRun 162 = .ok (.goto 8, 3) := by decide +kernel
theorem dX4_takeRun_165 : decode cX4_takeRun 165 = .ok (.aload_n 0, 1) := by decide +kernel
theorem dX4_takeRun_166 : decode cX4_takeRun 166 = .ok (.iconst 4, 1) := by decide +kernel
theorem dX4_takeRun_167 : decode cX4_takeRun 167 = .ok (.putfield 67, 3) := by decide +kernel
theorem dX4_takeRun_170 : decode cX4_takeRun 170 = .ok (.return_, 1) := by decide +kernel
set_option maxHeartbeats 4000000 in
set_option maxRecDepth 100000 in
theorem c_X4_isLetter (l : Launch) (D : va_G) (g : Nat → ClassId) (p0 : Int32) : Met l yX4_isLetter (.code yX4_isLetter cX4_isLetter 1 (some .boolean) :: wsL_law) ({ frames := 0, cells := 0, slots := 0, locals := 0 }) (va_Pc [.int p0] (fun U => va_P D vwCl [] U.heap ∧ va_K D vwCl (TY g) U)) (vp_Si (fun r => (0 ≤ (r : Int32).toInt ∧ (r : Int32).toInt ≤ 1) ∧ (Hide (¬ (r : Int32).toInt = 0 → 97 ≤ (p0 : Int32).toInt ∧ (p0 : Int32).toInt ≤ 122)) ∧ (Hide ((r : Int32).toInt = 0 → (p0 : Int32).toInt < 97 ∨ 122 < (p0 : Int32).toInt)))) 0 0 (fun _ => False) := by
  refine Met.ofW (cc := cX4_isLetter) (maxL := 1) (ret := (some .boolean)) (by decide) rfl ?_
  intro p e s m args below meth c s₁ B hml hv
  obtain ⟨ha, hP, hK⟩ := hv
  have hx := B.exec
  have hb := B.bytes
  have hr := B.returns
  have hts0 := atoms_spec (ws := (.code yX4_isLetter cX4_isLetter 1 (some .boolean) :: wsL_law)) B.pre
  have hts : ∀ w ∈ wsL_law, w.before args s = true := fun w h => hts0 w (List.mem_cons_of_mem _ h)
  have hown : s.vm.findClass RX4 = some m.cls := findClass_of_methodNamed B.named
  have hlocks := B.notSynchronized
  have hP : va_P D vwCl [] s.heap := hP
  refine W.eq (g2 := entryFrame m ([.int p0] : List Value).toArray 1) (by rw [ha]) ?_
  have hl := lv_entry ([.int p0]) (n := 1) (Nat.le_of_ble_eq_true rfl)
  rw [lg_entry_eq]
  generalize (lg_sl ([.int p0]) ++ List.replicate (1 - (lg_sl ([.int p0])).length) Slot.unset).toArray = ls at hl ⊢
  have hl : lv_has ls 1 [(0, .int p0)] := hl
  refine lv_iload_n hx hb dX4_isLetter_0 rfl (lv_at hl 0 rfl) ?_
  refine lv_bipush (v := 97) hx hb dX4_isLetter_1 (by decide) ?_
  refine lv_icmp_lt (tgt := 16) hx hb dX4_isLetter_3 (by decide) (fun c_60234 => ?_) (fun c_60234 => ?_)
  · skip
    have kk_97 := tk_97
    have c_60234_i := Int32.lt_iff_toInt_lt.mp c_60234
    have h_60235 : (-2147483648) ≤ (p0 : Int32).toInt ∧ (p0 : Int32).toInt ≤ 96 := nr_lt_l (tr_any p0) (⟨by decide, by decide⟩ : 97 ≤ (97 : Int32).toInt ∧ (97 : Int32).toInt ≤ 97) c_60234_i (by decide) (by decide)
    refine lv_iconst (v := 0) hx hb dX4_isLetter_16 (by decide) ?_
    exact W.zret (v := 0) hx hb hr (by decide) (fun t ht hW => ⟨0, rfl, ⟨(⟨by decide, by decide⟩ : 0 ≤ (0 : Int32).toInt ∧ (0 : Int32).toInt ≤ 1), (fun h9 => (by have z_0 := tk_0; have z_1 := tk_1; omega)), (fun h9 => (by have z_0 := tk_0; have z_1 := tk_1; omega))⟩, ht⟩) (fun _ h => nomatch h) dX4_isLetter_17
  · skip
    have kk_97 := tk_97
    have c_60234_i := Int32.le_iff_toInt_le.mp (Int32.not_lt.mp c_60234)
    have h_60236 : 97 ≤ (p0 : Int32).toInt ∧ (p0 : Int32).toInt ≤ 2147483647 := nr_le_r (⟨by decide, by decide⟩ : 97 ≤ (97 : Int32).toInt ∧ (97 : Int32).toInt ≤ 97) (tr_any p0) c_60234_i (by decide) (by decide)
    refine lv_iload_n hx hb dX4_isLetter_6 rfl (lv_at hl 0 rfl) ?_
    refine lv_bipush (v := 122) hx hb dX4_isLetter_7 (by decide) ?_
    refine lv_icmp_gt (tgt := 16) hx hb dX4_isLetter_9 (by decide) (fun c_60237 => ?_) (fun c_60237 => ?_)
    · skip
      have kk_122 := tk_122
      have c_60237_i := Int32.lt_iff_toInt_lt.mp c_60237
      have h_60238 : 123 ≤ (p0 : Int32).toInt ∧ (p0 : Int32).toInt ≤ 2147483647 := nr_lt_r (⟨by decide, by decide⟩ : 122 ≤ (122 : Int32).toInt ∧ (122 : Int32).toInt ≤ 122) h_60236 c_60237_i (by decide) (by decide)
      refine lv_iconst (v := 0) hx hb dX4_isLetter_16 (by decide) ?_
      exact W.zret (v := 0) hx hb hr (by decide) (fun t ht hW => ⟨0, rfl, ⟨(⟨by decide, by decide⟩ : 0 ≤ (0 : Int32).toInt ∧ (0 : Int32).toInt ≤ 1), (fun h9 => (by have z_0 := tk_0; have z_1 := tk_1; (first | (clear c_60234_i h_60236 c_60237_i h_60238; omega) | omega))), (fun h9 => (by have z_0 := tk_0; have z_1 := tk_1; (first | (clear c_60234_i h_60236 c_60237_i h_60238; omega) | omega)))⟩, ht⟩) (fun _ h => nomatch h) dX4_isLetter_17
    · skip
      have kk_122 := tk_122
      have c_60237_i := Int32.le_iff_toInt_le.mp (Int32.not_lt.mp c_60237)
      have h_60239 : 97 ≤ (p0 : Int32).toInt ∧ (p0 : Int32).toInt ≤ 122 := nr_le_l h_60236 (⟨by decide, by decide⟩ : 122 ≤ (122 : Int32).toInt ∧ (122 : Int32).toInt ≤ 122) c_60237_i (by decide) (by decide)
      refine lv_iconst (v := 1) hx hb dX4_isLetter_12 (by decide) ?_
      refine lv_goto (tgt := 17) hx hb dX4_isLetter_13 (by decide) ?_
      exact W.zret (v := 1) hx hb hr (by decide) (fun t ht hW => ⟨1, rfl, ⟨(⟨by decide, by decide⟩ : 0 ≤ (1 : Int32).toInt ∧ (1 : Int32).toInt ≤ 1), (fun h9 => (by have z_0 := tk_0; have z_1 := tk_1; (first | (clear c_60234_i h_60236 c_60237_i h_60239; omega) | omega))), (fun h9 => (by have z_0 := tk_0; have z_1 := tk_1; (first | (clear c_60234_i h_60236 c_60237_i h_60239; omega) | omega)))⟩, ht⟩) (fun _ h => nomatch h) dX4_isLetter_17
set_option maxHeartbeats 4000000 in
set_option maxRecDepth 100000 in
theorem c_X4_isDigit (l : Launch) (D : va_G) (g : Nat → ClassId) (p0 : Int32) : Met l yX4_isDigit (.code yX4_isDigit cX4_isDigit 1 (some .boolean) :: wsL_law) ({ frames := 0, cells := 0, slots := 0, locals := 0 }) (va_Pc [.int p0] (fun U => va_P D vwCl [] U.heap ∧ va_K D vwCl (TY g) U)) (vp_Si (fun r => (0 ≤ (r : Int32).toInt ∧ (r : Int32).toInt ≤ 1) ∧ (Hide (¬ (r : Int32).toInt = 0 → 48 ≤ (p0 : Int32).toInt ∧ (p0 : Int32).toInt ≤ 57)) ∧ (Hide ((r : Int32).toInt = 0 → (p0 : Int32).toInt < 48 ∨ 57 < (p0 : Int32).toInt)))) 0 0 (fun _ => False) := by
  refine Met.ofW (cc := cX4_isDigit) (maxL := 1) (ret := (some .boolean)) (by decide) rfl ?_
  intro p e s m args below meth c s₁ B hml hv
  obtain ⟨ha, hP, hK⟩ := hv
  have hx := B.exec
  have hb := B.bytes
  have hr := B.returns
  have hts0 := atoms_spec (ws := (.code yX4_isDigit cX4_isDigit 1 (some .boolean) :: wsL_law)) B.pre
  have hts : ∀ w ∈ wsL_law, w.before args s = true := fun w h => hts0 w (List.mem_cons_of_mem _ h)
  have hown : s.vm.findClass RX4 = some m.cls := findClass_of_methodNamed B.named
  have hlocks := B.notSynchronized
  have hP : va_P D vwCl [] s.heap := hP
  refine W.eq (g2 := entryFrame m ([.int p0] : List Value).toArray 1) (by rw [ha]) ?_
  have hl := lv_entry ([.int p0]) (n := 1) (Nat.le_of_ble_eq_true rfl)
  rw [lg_entry_eq]
  generalize (lg_sl ([.int p0]) ++ List.replicate (1 - (lg_sl ([.int p0])).length) Slot.unset).toArray = ls at hl ⊢
  have hl : lv_has ls 1 [(0, .int p0)] := hl
  refine lv_iload_n hx hb dX4_isDigit_0 rfl (lv_at hl 0 rfl) ?_
  refine lv_bipush (v := 48) hx hb dX4_isDigit_1 (by decide) ?_
  refine lv_icmp_lt (tgt := 16) hx hb dX4_isDigit_3 (by decide) (fun c_60240 => ?_) (fun c_60240 => ?_)
  · skip
    have kk_48 := tk_48
    have c_60240_i := Int32.lt_iff_toInt_lt.mp c_60240
    have h_60241 : (-2147483648) ≤ (p0 : Int32).toInt ∧ (p0 : Int32).toInt ≤ 47 := nr_lt_l (tr_any p0) (⟨by decide, by decide⟩ : 48 ≤ (48 : Int32).toInt ∧ (48 : Int32).toInt ≤ 48) c_60240_i (by decide) (by decide)
    refine lv_iconst (v := 0) hx hb dX4_isDigit_16 (by decide) ?_
    exact W.zret (v := 0) hx hb hr (by decide) (fun t ht hW => ⟨0, rfl, ⟨(⟨by decide, by decide⟩ : 0 ≤ (0 : Int32).toInt ∧ (0 : Int32).toInt ≤ 1), (fun h9 => (by have z_0 := tk_0; have z_1 := tk_1; omega)), (fun h9 => (by have z_0 := tk_0; have z_1 := tk_1; omega))⟩, ht⟩) (fun _ h => nomatch h) dX4_isDigit_17
  · skip
    have kk_48 := tk_48
    have c_60240_i := Int32.le_iff_toInt_le.mp (Int32.not_lt.mp c_60240)
    have h_60242 : 48 ≤ (p0 : Int32).toInt ∧ (p0 : Int32).toInt ≤ 2147483647 := nr_le_r (⟨by decide, by decide⟩ : 48 ≤ (48 : Int32).toInt ∧ (48 : Int32).toInt ≤ 48) (tr_any p0) c_60240_i (by decide) (by decide)
    refine lv_iload_n hx hb dX4_isDigit_6 rfl (lv_at hl 0 rfl) ?_
    refine lv_bipush (v := 57) hx hb dX4_isDigit_7 (by decide) ?_
    refine lv_icmp_gt (tgt := 16) hx hb dX4_isDigit_9 (by decide) (fun c_60243 => ?_) (fun c_60243 => ?_)
    · skip
      have kk_57 := tk_57
      have c_60243_i := Int32.lt_iff_toInt_lt.mp c_60243
      have h_60244 : 58 ≤ (p0 : Int32).toInt ∧ (p0 : Int32).toInt ≤ 2147483647 := nr_lt_r (⟨by decide, by decide⟩ : 57 ≤ (57 : Int32).toInt ∧ (57 : Int32).toInt ≤ 57) h_60242 c_60243_i (by decide) (by decide)
      refine lv_iconst (v := 0) hx hb dX4_isDigit_16 (by decide) ?_
      exact W.zret (v := 0) hx hb hr (by decide) (fun t ht hW => ⟨0, rfl, ⟨(⟨by decide, by decide⟩ : 0 ≤ (0 : Int32).toInt ∧ (0 : Int32).toInt ≤ 1), (fun h9 => (by have z_0 := tk_0; have z_1 := tk_1; (first | (clear c_60240_i h_60242 c_60243_i h_60244; omega) | omega))), (fun h9 => (by have z_0 := tk_0; have z_1 := tk_1; (first | (clear c_60240_i h_60242 c_60243_i h_60244; omega) | omega)))⟩, ht⟩) (fun _ h => nomatch h) dX4_isDigit_17
    · skip
      have kk_57 := tk_57
      have c_60243_i := Int32.le_iff_toInt_le.mp (Int32.not_lt.mp c_60243)
      have h_60245 : 48 ≤ (p0 : Int32).toInt ∧ (p0 : Int32).toInt ≤ 57 := nr_le_l h_60242 (⟨by decide, by decide⟩ : 57 ≤ (57 : Int32).toInt ∧ (57 : Int32).toInt ≤ 57) c_60243_i (by decide) (by decide)
      refine lv_iconst (v := 1) hx hb dX4_isDigit_12 (by decide) ?_
      refine lv_goto (tgt := 17) hx hb dX4_isDigit_13 (by decide) ?_
      exact W.zret (v := 1) hx hb hr (by decide) (fun t ht hW => ⟨1, rfl, ⟨(⟨by decide, by decide⟩ : 0 ≤ (1 : Int32).toInt ∧ (1 : Int32).toInt ≤ 1), (fun h9 => (by have z_0 := tk_0; have z_1 := tk_1; (first | (clear c_60240_i h_60242 c_60243_i h_60245; omega) | omega))), (fun h9 => (by have z_0 := tk_0; have z_1 := tk_1; (first | (clear c_60240_i h_60242 c_60243_i h_60245; omega) | omega)))⟩, ht⟩) (fun _ h => nomatch h) dX4_isDigit_17
set_option maxHeartbeats 4000000 in
set_option maxRecDepth 100000 in
theorem c_X4_failAt (l : Launch) (D : va_G) (g : Nat → ClassId) (sz : Nat) (rd : Nat) (p0 : Int32) (p1 : Int32) (tp : Nat) (n : Nat) (rd_kindWords : Nat) (ww : Int32) (fk : Int32) (fp : Int32) (nx : Int32) (tk : Int32) (tpl : Int32) (tv : Int32) (h_p0 : 0 ≤ (p0 : Int32).toInt ∧ (p0 : Int32).toInt ≤ 5) (h_p1 : 0 ≤ (p1 : Int32).toInt ∧ (p1 : Int32).toInt ≤ 440) (h_fk : 0 ≤ (fk : Int32).toInt ∧ (fk : Int32).toInt ≤ 5) (h_fp : 0 ≤ (fp : Int32).toInt ∧ (fp : Int32).toInt ≤ 440) (h_nx : 0 ≤ (nx : Int32).toInt ∧ (nx : Int32).toInt ≤ 440) (h_tk : 0 ≤ (tk : Int32).toInt ∧ (tk : Int32).toInt ≤ 4) (h_tpl : 0 ≤ (tpl : Int32).toInt ∧ (tpl : Int32).toInt ≤ 440) : Met l yX4_failAt (.code yX4_failAt cX4_failAt 3 none :: wsL_law) ({ frames := 0, cells := 0, slots := 0, locals := 0 }) (va_Pc [.ref rd, .int p0, .int p1] (fun U => U.heap.size = sz ∧ va_P D vwCl [(wO4 rd tp n rd_kindWords ww fk fp nx tk tpl tv)] U.heap ∧ va_K D vwCl (TY g) U ∧ va_D (fun _ => True) [(wO4 rd tp n rd_kindWords ww fk fp nx tk tpl tv)])) (va_Qv (fun (_ : Unit) => True) (fun _ t => va_P D vwCl [(wO4 rd tp n rd_kindWords ww p0 p1 nx tk tpl tv)] t.heap ∧ va_D (va_A [(wO4 rd tp n rd_kindWords ww fk fp nx tk tpl tv)] sz) [(wO4 rd tp n rd_kindWords ww p0 p1 nx tk tpl tv)]) (va_A [(wO4 rd tp n rd_kindWords ww fk fp nx tk tpl tv)] sz)) 0 0 (va_A [(wO4 rd tp n rd_kindWords ww fk fp nx tk tpl tv)] sz) := by
  refine Met.ofW (cc := cX4_failAt) (maxL := 3) (ret := none) (by decide) rfl ?_
  intro p e s m args below meth c s₁ B hml hv
  obtain ⟨ha, hsz, hP, hK, hD0⟩ := hv
  have hx := B.exec
  have hb := B.bytes
  have hr := B.returns
  have hts0 := atoms_spec (ws := (.code yX4_failAt cX4_failAt 3 none :: wsL_law)) B.pre
  have hts : ∀ w ∈ wsL_law, w.before args s = true := fun w h => hts0 w (List.mem_cons_of_mem _ h)
  have hown : s.vm.findClass RX4 = some m.cls := findClass_of_methodNamed B.named
  have hlocks := B.notSynchronized
  subst hsz
  have hD := hD0.self (sz := s.heap.size)
  generalize hAe : va_A [(wO4 rd tp n rd_kindWords ww fk fp nx tk tpl tv)] s.heap.size = A at hD ⊢
  have hA : ∀ q : Nat, s.heap.size ≤ q → A q := fun q h => by rw [← hAe]; exact Or.inr h
  have hS : va_S A s.heap s.heap [] := va_S.rf
  have hP : va_P D vwCl [(wO4 rd tp n rd_kindWords ww fk fp nx tk tpl tv)] s.heap := hP
  refine W.eq (g2 := entryFrame m ([.ref rd, .int p0, .int p1] : List Value).toArray 3) (by rw [ha]) ?_
  have hl := lv_entry ([.ref rd, .int p0, .int p1]) (n := 3) (Nat.le_of_ble_eq_true rfl)
  rw [lg_entry_eq]
  generalize (lg_sl ([.ref rd, .int p0, .int p1]) ++ List.replicate (3 - (lg_sl ([.ref rd, .int p0, .int p1])).length) Slot.unset).toArray = ls at hl ⊢
  have hl : lv_has ls 3 [(0, .ref rd), (1, .int p0), (2, .int p1)] := hl
  refine lv_aload_n hx hb dX4_failAt_0 rfl (lv_at hl 0 rfl) ?_
  refine lv_iload_n hx hb dX4_failAt_1 rfl (lv_at hl 1 rfl) ?_
  refine va_put (D := D) (ci := 4) (v := .int p0) (ty := .int) (C := RX4) (T := TX4) (N := 10) hx hb hts inlX4 tyX4 tyX4_ok nmX4 hown hK hP hD hS 0 rfl rfl 4 (by decide) (hts (Cond.fieldLink RX4 41 "ChanceRings$Reader" "faultKind" "I") qw_358) (fun _ h9 => h9) rfl (by decide +kernel) rfl rfl (Nat.le_of_ble_eq_true rfl) dX4_failAt_2 (fun H locs hP hD hS => ?_)
  have hP : va_P D vwCl [(wO4 rd tp n rd_kindWords ww p0 fp nx tk tpl tv)] H := hP
  have hD : va_D A [(wO4 rd tp n rd_kindWords ww p0 fp nx tk tpl tv)] := hD
  refine lv_aload_n hx hb dX4_failAt_5 rfl (lv_at hl 0 rfl) ?_
  refine lv_iload_n hx hb dX4_failAt_6 rfl (lv_at hl 2 rfl) ?_
  refine va_put (D := D) (ci := 4) (v := .int p1) (ty := .int) (C := RX4) (T := TX4) (N := 10) hx hb hts inlX4 tyX4 tyX4_ok nmX4 hown hK hP hD hS 0 rfl rfl 5 (by decide) (hts (Cond.fieldLink RX4 44 "ChanceRings$Reader" "faultPlace" "I") qw_359) (fun _ h9 => h9) rfl (by decide +kernel) rfl rfl (Nat.le_of_ble_eq_true rfl) dX4_failAt_7 (fun H locs hP hD hS => ?_)
  have hP : va_P D vwCl [(wO4 rd tp n rd_kindWords ww p0 p1 nx tk tpl tv)] H := hP
  have hD : va_D A [(wO4 rd tp n rd_kindWords ww p0 p1 nx tk tpl tv)] := hD
  have hP9 := hP.sub (ws' := [(wO4 rd tp n rd_kindWords ww p0 p1 nx tk tpl tv)]) [0] rfl
  have hD9 := hD.sub (ws' := [(wO4 rd tp n rd_kindWords ww p0 p1 nx tk tpl tv)]) [0] (by decide) rfl
  exact W.vret hx hb hr (fun t ht hW => ⟨⟨(), rfl, trivial, by rw [ht]; exact hP9, hD9⟩, hS.F ht⟩) hS.2.2 dX4_failAt_10
set_option maxHeartbeats 4000000 in
set_option maxRecDepth 100000 in
theorem c_X4_fail (l : Launch) (D : va_G) (g : Nat → ClassId) (sz : Nat) (rd : Nat) (p0 : Int32) (tp : Nat) (n : Nat) (rd_kindWords : Nat) (ww : Int32) (fk : Int32) (fp : Int32) (nx : Int32) (tk : Int32) (tpl : Int32) (tv : Int32) (h_p0 : 0 ≤ (p0 : Int32).toInt ∧ (p0 : Int32).toInt ≤ 5) (h_fk : 0 ≤ (fk : Int32).toInt ∧ (fk : Int32).toInt ≤ 5) (h_fp : 0 ≤ (fp : Int32).toInt ∧ (fp : Int32).toInt ≤ 440) (h_nx : 0 ≤ (nx : Int32).toInt ∧ (nx : Int32).toInt ≤ 440) (h_tk : 0 ≤ (tk : Int32).toInt ∧ (tk : Int32).toInt ≤ 4) (h_tpl : 0 ≤ (tpl : Int32).toInt ∧ (tpl : Int32).toInt ≤ 440) : Met l yX4_fail (.code yX4_fail cX4_fail 2 none :: wsL_law) ({ frames := 1, cells := 0, slots := 0, locals := 22 }) (va_Pc [.ref rd, .int p0] (fun U => U.heap.size = sz ∧ va_P D vwCl [(wO4 rd tp n rd_kindWords ww fk fp nx tk tpl tv)] U.heap ∧ va_K D vwCl (TY g) U ∧ va_D (fun _ => True) [(wO4 rd tp n rd_kindWords ww fk fp nx tk tpl tv)])) (va_Qv (fun (_ : Unit) => True) (fun _ t => va_P D vwCl [(wO4 rd tp n rd_kindWords ww p0 tpl nx tk tpl tv)] t.heap ∧ va_D (va_A [(wO4 rd tp n rd_kindWords ww fk fp nx tk tpl tv)] sz) [(wO4 rd tp n rd_kindWords ww p0 tpl nx tk tpl tv)]) (va_A [(wO4 rd tp n rd_kindWords ww fk fp nx tk tpl tv)] sz)) 0 0 (va_A [(wO4 rd tp n rd_kindWords ww fk fp nx tk tpl tv)] sz) := by
  refine Met.ofW (cc := cX4_fail) (maxL := 2) (ret := none) (by decide) rfl ?_
  intro p e s m args below meth c s₁ B hml hv
  obtain ⟨ha, hsz, hP, hK, hD0⟩ := hv
  have hx := B.exec
  have hb := B.bytes
  have hr := B.returns
  have hts0 := atoms_spec (ws := (.code yX4_fail cX4_fail 2 none :: wsL_law)) B.pre
  have hts : ∀ w ∈ wsL_law, w.before args s = true := fun w h => hts0 w (List.mem_cons_of_mem _ h)
  have hown : s.vm.findClass RX4 = some m.cls := findClass_of_methodNamed B.named
  have hlocks := B.notSynchronized
  subst hsz
  have hD := hD0.self (sz := s.heap.size)
  generalize hAe : va_A [(wO4 rd tp n rd_kindWords ww fk fp nx tk tpl tv)] s.heap.size = A at hD ⊢
  have hA : ∀ q : Nat, s.heap.size ≤ q → A q := fun q h => by rw [← hAe]; exact Or.inr h
  have hS : va_S A s.heap s.heap [] := va_S.rf
  have hP : va_P D vwCl [(wO4 rd tp n rd_kindWords ww fk fp nx tk tpl tv)] s.heap := hP
  refine W.eq (g2 := entryFrame m ([.ref rd, .int p0] : List Value).toArray 2) (by rw [ha]) ?_
  have hl := lv_entry ([.ref rd, .int p0]) (n := 2) (Nat.le_of_ble_eq_true rfl)
  rw [lg_entry_eq]
  generalize (lg_sl ([.ref rd, .int p0]) ++ List.replicate (2 - (lg_sl ([.ref rd, .int p0])).length) Slot.unset).toArray = ls at hl ⊢
  have hl : lv_has ls 2 [(0, .ref rd), (1, .int p0)] := hl
  refine lv_aload_n hx hb dX4_fail_0 rfl (lv_at hl 0 rfl) ?_
  refine lv_iload_n hx hb dX4_fail_1 rfl (lv_at hl 1 rfl) ?_
  refine lv_aload_n hx hb dX4_fail_2 rfl (lv_at hl 0 rfl) ?_
  refine va_get (D := D) (ci := 4) (v := .int tpl) (C := RX4) (T := TX4) (N := 10) hx hb hts inlX4 hown hK hP 0 rfl rfl 8 (by decide) (hts (Cond.fieldLink RX4 77 "ChanceRings$Reader" "tokenPlace" "I") qw_360) (fun _ h9 => h9) rfl dX4_fail_3 ?_
  have hPc := hP.sub (ws' := [(wO4 rd tp n rd_kindWords ww fk fp nx tk tpl tv)]) [0] rfl
  have hDc := hD.sub (ws' := [(wO4 rd tp n rd_kindWords ww fk fp nx tk tpl tv)]) [0] (by decide) rfl
  have hFc := va_free (wc := [(wO4 rd tp n rd_kindWords ww fk fp nx tk tpl tv)]) hD hS hA [0] rfl
  refine va_callv (va_runV (As := [.int p0, .int tpl]) (rest := []) ⟨hx, hb, hml, hown, hts⟩ (c_X4_failAt l D g s.heap.size rd p0 tpl tp n rd_kindWords ww fk fp nx tk tpl tv (tr_w h_p0 (by decide) (by decide)) (tr_w h_tpl (by decide) (by decide)) (tr_w h_fk (by decide) (by decide)) (tr_w h_fp (by decide) (by decide)) (tr_w h_nx (by decide) (by decide)) (tr_w h_tk (by decide) (by decide)) (tr_w h_tpl (by decide) (by decide))) (cwV 2 hts (tz_gV qw_361 qw_362 qw_363 qw_364 qw_365) rfl rfl rfl (by decide +kernel) ⟨Nat.le_of_ble_eq_true rfl, Nat.le_of_ble_eq_true rfl⟩) ⟨tz_blQ, va_recv hK hPc (ci := 4) (q0 := 0) rfl rfl, tz_preQ hPc hK hDc⟩ rfl rfl hl.1 rfl (lv_room (Nat.le_of_ble_eq_true rfl)) dX4_fail_6 ⟨Nat.le_of_ble_eq_true rfl, Nat.le_of_ble_eq_true rfl⟩) hS (fun q _ h => hFc q h) hFc (fun u t H1 locs ht hvm hw hB hz1 hk1 hS => ?_)
  obtain ⟨hP1, hD1⟩ := hB
  rw [ht] at hP1
  obtain ⟨hP, hD⟩ := va_join (wr := []) (w1 := [(wO4 rd tp n rd_kindWords ww p0 tpl nx tk tpl tv)]) hP hD [0] [] rfl rfl (by decide) (by decide) hk1 hFc hP1 hD1
  generalize H1 = H at hP hS ⊢
  have hP : va_P D vwCl [(wO4 rd tp n rd_kindWords ww p0 tpl nx tk tpl tv)] H := hP
  have hD : va_D A [(wO4 rd tp n rd_kindWords ww p0 tpl nx tk tpl tv)] := hD
  have hP9 := hP.sub (ws' := [(wO4 rd tp n rd_kindWords ww p0 tpl nx tk tpl tv)]) [0] rfl
  have hD9 := hD.sub (ws' := [(wO4 rd tp n rd_kindWords ww p0 tpl nx tk tpl tv)]) [0] (by decide) rfl
  exact W.vret hx hb hr (fun t ht hW => ⟨⟨(), rfl, trivial, by rw [ht]; exact hP9, hD9⟩, hS.F ht⟩) hS.2.2 dX4_fail_9
set_option maxHeartbeats 4000000 in
set_option maxRecDepth 100000 in
theorem c_X4_takeRun (l : Launch) (D : va_G) (g : Nat → ClassId) (sz : Nat) (rd : Nat) (tp : Nat) (n : Nat) (rd_kindWords : Nat) (ww : Int32) (fk : Int32) (fp : Int32) (nx : Int32) (tk : Int32) (tpl : Int32) (tv : Int32) (tp_bytes : Nat) (tl : Int32) (tf : Nat → Int32) (h_fk : 0 ≤ (fk : Int32).toInt ∧ (fk : Int32).toInt ≤ 5) (h_fp : 0 ≤ (fp : Int32).toInt ∧ (fp : Int32).toInt ≤ 440) (h_nx : 0 ≤ (nx : Int32).toInt ∧ (nx : Int32).toInt ≤ 440) (h_tk : 0 ≤ (tk : Int32).toInt ∧ (tk : Int32).toInt ≤ 4) (h_tpl : 0 ≤ (tpl : Int32).toInt ∧ (tpl : Int32).toInt ≤ 440) (h_tl : 0 ≤ (tl : Int32).toInt ∧ (tl : Int32).toInt ≤ 440) (h_tf : ∀ j : Nat, 0 ≤ (tf j).toInt ∧ (tf j).toInt ≤ 255) (htv : (tv : Int32).toInt = 0) : Met l yX4_takeRun (.code yX4_takeRun cX4_takeRun 4 none :: wsL_law) ({ frames := 1, cells := 0, slots := 0, locals := 20 }) (va_Pc [.ref rd] (fun U => U.heap.size = sz ∧ va_P D vwCl [(wO4 rd tp n rd_kindWords ww fk fp nx tk tpl tv), (wO8 tp tp_bytes tl), (wI g tp_bytes 0 440 tf)] U.heap ∧ va_K D vwCl (TY g) U ∧ va_D (fun _ => True) [(wO4 rd tp n rd_kindWords ww fk fp nx tk tpl tv), (wO8 tp tp_bytes tl), (wI g tp_bytes 0 440 tf)])) (va_Qv (fun (_ : Unit) => True) (fun _ t => ∃ onx : Int32, ∃ otk : Int32, ∃ otv : Int32, (0 ≤ (onx : Int32).toInt ∧ (onx : Int32).toInt ≤ 440) ∧ (0 ≤ (otk : Int32).toInt ∧ (otk : Int32).toInt ≤ 4) ∧ (RUT (bg tf (tl : Int32).toInt) (nx : Int32).toInt.toNat (otk : Int32).toInt (onx : Int32).toInt.toNat (otv : Int32).toInt) ∧ va_P D vwCl [(wO4 rd tp n rd_kindWords ww fk fp onx otk tpl otv), (wO8 tp tp_bytes tl), (wI g tp_bytes 0 440 tf)] t.heap ∧ va_D (va_A [(wO4 rd tp n rd_kindWords ww fk fp nx tk tpl tv), (wO8 tp tp_bytes tl), (wI g tp_bytes 0 440 tf)] sz) [(wO4 rd tp n rd_kindWords ww fk fp onx otk tpl otv), (wO8 tp tp_bytes tl), (wI g tp_bytes 0 440 tf)]) (va_A [(wO4 rd tp n rd_kindWords ww fk fp nx tk tpl tv), (wO8 tp tp_bytes tl), (wI g tp_bytes 0 440 tf)] sz)) 0 0 (va_A [(wO4 rd tp n rd_kindWords ww fk fp nx tk tpl tv), (wO8 tp tp_bytes tl), (wI g tp_bytes 0 440 tf)] sz) := by
  refine Met.ofW (cc := cX4_takeRun) (maxL := 4) (ret := none) (by decide) rfl ?_
  intro p e s m args below meth c s₁ B hml hv
  obtain ⟨ha, hsz, hP, hK, hD0⟩ := hv
  have hx := B.exec
  have hb := B.bytes
  have hr := B.returns
  have hts0 := atoms_spec (ws := (.code yX4_takeRun cX4_takeRun 4 none :: wsL_law)) B.pre
  have hts : ∀ w ∈ wsL_law, w.before args s = true := fun w h => hts0 w (List.mem_cons_of_mem _ h)
  have hown : s.vm.findClass RX4 = some m.cls := findClass_of_methodNamed B.named
  have hlocks := B.notSynchronized
  subst hsz
  have hD := hD0.self (sz := s.heap.size)
  generalize hAe : va_A [(wO4 rd tp n rd_kindWords ww fk fp nx tk tpl tv), (wO8 tp tp_bytes tl), (wI g tp_bytes 0 440 tf)] s.heap.size = A at hD ⊢
  have hA : ∀ q : Nat, s.heap.size ≤ q → A q := fun q h => by rw [← hAe]; exact Or.inr h
  have hS : va_S A s.heap s.heap [] := va_S.rf
  have hP : va_P D vwCl [(wO4 rd tp n rd_kindWords ww fk fp nx tk tpl tv), (wO8 tp tp_bytes tl), (wI g tp_bytes 0 440 tf)] s.heap := hP
  refine W.eq (g2 := entryFrame m ([.ref rd] : List Value).toArray 4) (by rw [ha]) ?_
  have hl := lv_entry ([.ref rd]) (n := 4) (Nat.le_of_ble_eq_true rfl)
  rw [lg_entry_eq]
  generalize (lg_sl ([.ref rd]) ++ List.replicate (4 - (lg_sl ([.ref rd])).length) Slot.unset).toArray = ls at hl ⊢
  have hl : lv_has ls 4 [(0, .ref rd)] := hl
  refine lv_iconst (v := 0) hx hb dX4_takeRun_0 (by decide) ?_
  refine lv_istore_n (lv' := [(1, .int 0), (0, .ref rd)]) hx hb dX4_takeRun_1 rfl hl (by decide) rfl (fun ls hl => ?_)
  refine lv_iconst (v := 0) hx hb dX4_takeRun_2 (by decide) ?_
  refine lv_istore_n (lv' := [(2, .int 0), (1, .int 0), (0, .ref rd)]) hx hb dX4_takeRun_3 rfl hl (by decide) rfl (fun ls hl => ?_)
  have lp_60402 : ∀ (n_60402 : Nat) (x_60398 : Int32) (x_60399 : Int32) (x_60400 : Int32) (x_60401 : Int32) (H : Heap) (locs : List Loc) (ls : Array Slot), (0 ≤ (x_60398 : Int32).toInt ∧ (x_60398 : Int32).toInt ≤ 440) → (0 ≤ (x_60399 : Int32).toInt ∧ (x_60399 : Int32).toInt ≤ 440) → (0 ≤ (x_60400 : Int32).toInt ∧ (x_60400 : Int32).toInt ≤ 440) → (RNI (bg tf (tl : Int32).toInt) (nx : Int32).toInt.toNat x_60398.toInt.toNat x_60399.toInt x_60400.toInt x_60401.toInt) → (440 - x_60398.toInt < (n_60402 : Int)) → va_P D vwCl [(wO4 rd tp n rd_kindWords ww fk fp x_60398 tk tpl x_60401), (wO8 tp tp_bytes tl), (wI g tp_bytes 0 440 tf)] H → va_D A [(wO4 rd tp n rd_kindWords ww fk fp x_60398 tk tpl x_60401), (wO8 tp tp_bytes tl), (wI g tp_bytes 0 440 tf)] → va_S A s.heap H locs → lv_has ls 4 [(2, .int x_60400), (1, .int x_60399), (0, .ref rd)] → W p l e (headSpec (.code yX4_takeRun cX4_takeRun 4 none :: wsL_law) ({ frames := 1, cells := 0, slots := 0, locals := 20 })).room s m args below meth c H locs 0 0 (MQ below (va_Qv (fun (_ : Unit) => True) (fun _ t => ∃ onx : Int32, ∃ otk : Int32, ∃ otv : Int32, (0 ≤ (onx : Int32).toInt ∧ (onx : Int32).toInt ≤ 440) ∧ (0 ≤ (otk : Int32).toInt ∧ (otk : Int32).toInt ≤ 4) ∧ (RUT (bg tf (tl : Int32).toInt) (nx : Int32).toInt.toNat (otk : Int32).toInt (onx : Int32).toInt.toNat (otv : Int32).toInt) ∧ va_P D vwCl [(wO4 rd tp n rd_kindWords ww fk fp onx otk tpl otv), (wO8 tp tp_bytes tl), (wI g tp_bytes 0 440 tf)] t.heap ∧ va_D A [(wO4 rd tp n rd_kindWords ww fk fp onx otk tpl otv), (wO8 tp tp_bytes tl), (wI g tp_bytes 0 440 tf)]) A) args s 0 0 A) (F0 m 4 ls []) := by
    intro n_60402
    induction n_60402 with
    | zero =>
      intro x_60398 x_60399 x_60400 x_60401 H locs ls h_x_60398 h_x_60399 h_x_60400 hr60402_0 hm_60402 hP hD hS hl
      exfalso; omega
    | succ n_60402 ih_60402 =>
      intro x_60398 x_60399 x_60400 x_60401 H locs ls h_x_60398 h_x_60399 h_x_60400 hr60402_0 hm_60402 hP hD hS hl
      refine lv_aload_n hx hb dX4_takeRun_4 rfl (lv_at hl 2 rfl) ?_
      refine va_get (D := D) (ci := 4) (v := .int x_60398) (C := RX4) (T := TX4) (N := 10) hx hb hts inlX4 hown hK hP 0 rfl rfl 6 (by decide) (hts (Cond.fieldLink RX4 61 "ChanceRings$Reader" "next" "I") qw_366) (fun _ h9 => h9) rfl dX4_takeRun_5 ?_
      refine lv_aload_n hx hb dX4_takeRun_8 rfl (lv_at hl 2 rfl) ?_
      refine va_get (D := D) (ci := 4) (v := .ref tp) (C := RX4) (T := TX4) (N := 10) hx hb hts inlX4 hown hK hP 0 rfl rfl 0 (by decide) (hts (Cond.fieldLink RX4 9 "ChanceRings$Reader" "tape" "LChanceRings$Tape;") qw_367) (fun _ h9 => h9) rfl dX4_takeRun_9 ?_
      refine va_get (D := D) (ci := 8) (v := .int tl) (C := RX8) (T := TX8) (N := 2) hx hb hts inlX8 hown hK hP 1 rfl rfl 1 (by decide) (hts (Cond.fieldLink RX4 52 "ChanceRings$Tape" "length" "I") qw_368) (fun _ h9 => h9) rfl dX4_takeRun_12 ?_
      refine lv_icmp_ge (tgt := 130) hx hb dX4_takeRun_15 (by decide) (fun c_60403 => ?_) (fun c_60403 => ?_)
      · skip
        have c_60403_i := Int32.le_iff_toInt_le.mp c_60403
        have hst : ¬ (ltr (bg tf (tl : Int32).toInt x_60398.toInt.toNat) ∨ dgt (bg tf (tl : Int32).toInt x_60398.toInt.toNat)) := by rw [bg_out (by (first | (clear h_fk h_fp h_nx h_tk h_tpl htv h_x_60399 h_x_60400; omega) | omega))]; unfold ltr dgt; (first | (clear h_fk h_fp h_nx h_tk h_tpl htv h_x_60399 h_x_60400; omega) | omega)
        have rr_8 := RNI.rng hr60402_0
        refine lv_iload_n hx hb dX4_takeRun_130 rfl (lv_at hl 0 rfl) ?_
        refine lv_if_ne (tgt := 148) hx hb dX4_takeRun_131 (by decide) (fun c_60406 => ?_) (fun c_60406 => ?_)
        · skip
          have kk_0 := tk_0
          have c_60406_i : ¬ (x_60400 : Int32).toInt = (0 : Int32).toInt := (fun q => c_60406 (Int32.toInt_inj.mp q))
          have h_60407 : 1 ≤ (x_60400 : Int32).toInt ∧ (x_60400 : Int32).toInt ≤ 440 := nr_ne_l h_x_60400 (⟨by decide, by decide⟩ : 0 ≤ (0 : Int32).toInt ∧ (0 : Int32).toInt ≤ 0) c_60406_i (by decide) (by decide)
          refine lv_iload_n hx hb dX4_takeRun_148 rfl (lv_at hl 1 rfl) ?_
          refine lv_if_ne (tgt := 165) hx hb dX4_takeRun_149 (by decide) (fun c_60409 => ?_) (fun c_60409 => ?_)
          · skip
            have c_60409_i : ¬ (x_60399 : Int32).toInt = (0 : Int32).toInt := (fun q => c_60409 (Int32.toInt_inj.mp q))
            have h_60410 : 1 ≤ (x_60399 : Int32).toInt ∧ (x_60399 : Int32).toInt ≤ 440 := nr_ne_l h_x_60399 (⟨by decide, by decide⟩ : 0 ≤ (0 : Int32).toInt ∧ (0 : Int32).toInt ≤ 0) c_60409_i (by decide) (by decide)
            refine lv_aload_n hx hb dX4_takeRun_165 rfl (lv_at hl 2 rfl) ?_
            refine lv_iconst (v := 4) hx hb dX4_takeRun_166 (by decide) ?_
            refine va_put (D := D) (ci := 4) (v := .int 4) (ty := .int) (C := RX4) (T := TX4) (N := 10) hx hb hts inlX4 tyX4 tyX4_ok nmX4 hown hK hP hD hS 0 rfl rfl 7 (by decide) (hts (Cond.fieldLink RX4 67 "ChanceRings$Reader" "token" "I") qw_369) (fun _ h9 => h9) rfl (by decide +kernel) rfl rfl (Nat.le_of_ble_eq_true rfl) dX4_takeRun_167 (fun H locs hP hD hS => ?_)
            have hP : va_P D vwCl [(wO4 rd tp n rd_kindWords ww fk fp x_60398 4 tpl x_60401), (wO8 tp tp_bytes tl), (wI g tp_bytes 0 440 tf)] H := hP
            have hD : va_D A [(wO4 rd tp n rd_kindWords ww fk fp x_60398 4 tpl x_60401), (wO8 tp tp_bytes tl), (wI g tp_bytes 0 440 tf)] := hD
            have hP9 := hP.sub (ws' := [(wO4 rd tp n rd_kindWords ww fk fp x_60398 4 tpl x_60401), (wO8 tp tp_bytes tl), (wI g tp_bytes 0 440 tf)]) [0, 1, 2] rfl
            have hD9 := hD.sub (ws' := [(wO4 rd tp n rd_kindWords ww fk fp x_60398 4 tpl x_60401), (wO8 tp tp_bytes tl), (wI g tp_bytes 0 440 tf)]) [0, 1, 2] (by decide) rfl
            exact W.vret hx hb hr (fun t ht hW => ⟨⟨(), rfl, trivial, x_60398, 4, x_60401, (tr_w h_x_60398 (by decide) (by decide)), (⟨by decide, by decide⟩ : 0 ≤ (4 : Int32).toInt ∧ (4 : Int32).toInt ≤ 4), (RNI.wrong hr60402_0 hst (by (first | (clear h_fk h_fp h_nx h_tk h_tpl htv h_x_60399 h_x_60400 c_60406_i h_60407 c_60409_i h_60410; omega) | omega)) (by (first | (clear h_fk h_fp h_nx h_tk h_tpl htv h_x_60399 h_x_60400 c_60406_i h_60407 c_60409_i h_60410; omega) | omega)) (by decide)), by rw [ht]; exact hP9, hD9⟩, hS.F ht⟩) hS.2.2 dX4_takeRun_170
          · skip
            have c_60409_i : (x_60399 : Int32).toInt = (0 : Int32).toInt := congrArg Int32.toInt c_60409
            have h_60411 : 0 ≤ (x_60399 : Int32).toInt ∧ (x_60399 : Int32).toInt ≤ 0 := nr_eq_l h_x_60399 (⟨by decide, by decide⟩ : 0 ≤ (0 : Int32).toInt ∧ (0 : Int32).toInt ≤ 0) c_60409_i (by decide) (by decide)
            refine lv_iload_n hx hb dX4_takeRun_152 rfl (lv_at hl 0 rfl) ?_
            refine lv_iconst (v := 2) hx hb dX4_takeRun_153 (by decide) ?_
            refine lv_icmp_gt (tgt := 165) hx hb dX4_takeRun_154 (by decide) (fun c_60412 => ?_) (fun c_60412 => ?_)
            · skip
              have kk_2 := tk_2
              have c_60412_i := Int32.lt_iff_toInt_lt.mp c_60412
              have h_60413 : 3 ≤ (x_60400 : Int32).toInt ∧ (x_60400 : Int32).toInt ≤ 440 := nr_lt_r (⟨by decide, by decide⟩ : 2 ≤ (2 : Int32).toInt ∧ (2 : Int32).toInt ≤ 2) h_60407 c_60412_i (by decide) (by decide)
              refine lv_aload_n hx hb dX4_takeRun_165 rfl (lv_at hl 2 rfl) ?_
              refine lv_iconst (v := 4) hx hb dX4_takeRun_166 (by decide) ?_
              refine va_put (D := D) (ci := 4) (v := .int 4) (ty := .int) (C := RX4) (T := TX4) (N := 10) hx hb hts inlX4 tyX4 tyX4_ok nmX4 hown hK hP hD hS 0 rfl rfl 7 (by decide) (hts (Cond.fieldLink RX4 67 "ChanceRings$Reader" "token" "I") qw_369) (fun _ h9 => h9) rfl (by decide +kernel) rfl rfl (Nat.le_of_ble_eq_true rfl) dX4_takeRun_167 (fun H locs hP hD hS => ?_)
              have hP : va_P D vwCl [(wO4 rd tp n rd_kindWords ww fk fp x_60398 4 tpl x_60401), (wO8 tp tp_bytes tl), (wI g tp_bytes 0 440 tf)] H := hP
              have hD : va_D A [(wO4 rd tp n rd_kindWords ww fk fp x_60398 4 tpl x_60401), (wO8 tp tp_bytes tl), (wI g tp_bytes 0 440 tf)] := hD
              have hP9 := hP.sub (ws' := [(wO4 rd tp n rd_kindWords ww fk fp x_60398 4 tpl x_60401), (wO8 tp tp_bytes tl), (wI g tp_bytes 0 440 tf)]) [0, 1, 2] rfl
              have hD9 := hD.sub (ws' := [(wO4 rd tp n rd_kindWords ww fk fp x_60398 4 tpl x_60401), (wO8 tp tp_bytes tl), (wI g tp_bytes 0 440 tf)]) [0, 1, 2] (by decide) rfl
              exact W.vret hx hb hr (fun t ht hW => ⟨⟨(), rfl, trivial, x_60398, 4, x_60401, (tr_w h_x_60398 (by decide) (by decide)), (⟨by decide, by decide⟩ : 0 ≤ (4 : Int32).toInt ∧ (4 : Int32).toInt ≤ 4), (RNI.wrong hr60402_0 hst (by (first | (clear h_fk h_fp h_nx h_tk h_tpl htv h_x_60399 h_x_60400 c_60406_i h_60407 c_60409_i h_60411 c_60412_i h_60413; omega) | omega)) (by (first | (clear h_fk h_fp h_nx h_tk h_tpl htv h_x_60399 h_x_60400 c_60406_i h_60407 c_60409_i h_60411 c_60412_i h_60413; omega) | omega)) (by decide)), by rw [ht]; exact hP9, hD9⟩, hS.F ht⟩) hS.2.2 dX4_takeRun_170
            · skip
              have kk_2 := tk_2
              have c_60412_i := Int32.le_iff_toInt_le.mp (Int32.not_lt.mp c_60412)
              have h_60414 : 1 ≤ (x_60400 : Int32).toInt ∧ (x_60400 : Int32).toInt ≤ 2 := nr_le_l h_60407 (⟨by decide, by decide⟩ : 2 ≤ (2 : Int32).toInt ∧ (2 : Int32).toInt ≤ 2) c_60412_i (by decide) (by decide)
              refine lv_aload_n hx hb dX4_takeRun_157 rfl (lv_at hl 2 rfl) ?_
              refine lv_iconst (v := 2) hx hb dX4_takeRun_158 (by decide) ?_
              refine va_put (D := D) (ci := 4) (v := .int 2) (ty := .int) (C := RX4) (T := TX4) (N := 10) hx hb hts inlX4 tyX4 tyX4_ok nmX4 hown hK hP hD hS 0 rfl rfl 7 (by decide) (hts (Cond.fieldLink RX4 67 "ChanceRings$Reader" "token" "I") qw_369) (fun _ h9 => h9) rfl (by decide +kernel) rfl rfl (Nat.le_of_ble_eq_true rfl) dX4_takeRun_159 (fun H locs hP hD hS => ?_)
              have hP : va_P D vwCl [(wO4 rd tp n rd_kindWords ww fk fp x_60398 2 tpl x_60401), (wO8 tp tp_bytes tl), (wI g tp_bytes 0 440 tf)] H := hP
              have hD : va_D A [(wO4 rd tp n rd_kindWords ww fk fp x_60398 2 tpl x_60401), (wO8 tp tp_bytes tl), (wI g tp_bytes 0 440 tf)] := hD
              refine lv_goto (tgt := 170) hx hb dX4_takeRun_162 (by decide) ?_
              have hP9 := hP.sub (ws' := [(wO4 rd tp n rd_kindWords ww fk fp x_60398 2 tpl x_60401), (wO8 tp tp_bytes tl), (wI g tp_bytes 0 440 tf)]) [0, 1, 2] rfl
              have hD9 := hD.sub (ws' := [(wO4 rd tp n rd_kindWords ww fk fp x_60398 2 tpl x_60401), (wO8 tp tp_bytes tl), (wI g tp_bytes 0 440 tf)]) [0, 1, 2] (by decide) rfl
              exact W.vret hx hb hr (fun t ht hW => ⟨⟨(), rfl, trivial, x_60398, 2, x_60401, (tr_w h_x_60398 (by decide) (by decide)), (⟨by decide, by decide⟩ : 0 ≤ (2 : Int32).toInt ∧ (2 : Int32).toInt ≤ 4), (RNI.number hr60402_0 hst (by (first | (clear h_fk h_fp h_nx h_tk h_tpl htv h_x_60399 h_x_60400 c_60406_i h_60407 c_60409_i h_60411 c_60412_i h_60414; omega) | omega)) (by (first | (clear h_fk h_fp h_nx h_tk h_tpl htv h_x_60399 h_x_60400 c_60406_i h_60407 c_60409_i h_60411 c_60412_i h_60414; omega) | omega)) (by decide)), by rw [ht]; exact hP9, hD9⟩, hS.F ht⟩) hS.2.2 dX4_takeRun_170
        · skip
          have kk_0 := tk_0
          have c_60406_i : (x_60400 : Int32).toInt = (0 : Int32).toInt := congrArg Int32.toInt c_60406
          have h_60408 : 0 ≤ (x_60400 : Int32).toInt ∧ (x_60400 : Int32).toInt ≤ 0 := nr_eq_l h_x_60400 (⟨by decide, by decide⟩ : 0 ≤ (0 : Int32).toInt ∧ (0 : Int32).toInt ≤ 0) c_60406_i (by decide) (by decide)
          refine lv_iload_n hx hb dX4_takeRun_134 rfl (lv_at hl 1 rfl) ?_
          refine lv_bipush (v := 6) hx hb dX4_takeRun_135 (by decide) ?_
          refine lv_icmp_gt (tgt := 148) hx hb dX4_takeRun_137 (by decide) (fun c_60415 => ?_) (fun c_60415 => ?_)
          · skip
            have kk_6 := tk_6
            have c_60415_i := Int32.lt_iff_toInt_lt.mp c_60415
            have h_60416 : 7 ≤ (x_60399 : Int32).toInt ∧ (x_60399 : Int32).toInt ≤ 440 := nr_lt_r (⟨by decide, by decide⟩ : 6 ≤ (6 : Int32).toInt ∧ (6 : Int32).toInt ≤ 6) h_x_60399 c_60415_i (by decide) (by decide)
            refine lv_iload_n hx hb dX4_takeRun_148 rfl (lv_at hl 1 rfl) ?_
            refine lv_if_ne (tgt := 165) hx hb dX4_takeRun_149 (by decide) (fun c_60418 => ?_) (fun h9 => (nr_x_eq h_60416 (⟨by decide, by decide⟩ : 0 ≤ (0 : Int32).toInt ∧ (0 : Int32).toInt ≤ 0) (congrArg Int32.toInt h9) (by decide)).elim)
            have c_60418_i : ¬ (x_60399 : Int32).toInt = (0 : Int32).toInt := (fun q => c_60418 (Int32.toInt_inj.mp q))
            refine lv_aload_n hx hb dX4_takeRun_165 rfl (lv_at hl 2 rfl) ?_
            refine lv_iconst (v := 4) hx hb dX4_takeRun_166 (by decide) ?_
            refine va_put (D := D) (ci := 4) (v := .int 4) (ty := .int) (C := RX4) (T := TX4) (N := 10) hx hb hts inlX4 tyX4 tyX4_ok nmX4 hown hK hP hD hS 0 rfl rfl 7 (by decide) (hts (Cond.fieldLink RX4 67 "ChanceRings$Reader" "token" "I") qw_369) (fun _ h9 => h9) rfl (by decide +kernel) rfl rfl (Nat.le_of_ble_eq_true rfl) dX4_takeRun_167 (fun H locs hP hD hS => ?_)
            have hP : va_P D vwCl [(wO4 rd tp n rd_kindWords ww fk fp x_60398 4 tpl x_60401), (wO8 tp tp_bytes tl), (wI g tp_bytes 0 440 tf)] H := hP
            have hD : va_D A [(wO4 rd tp n rd_kindWords ww fk fp x_60398 4 tpl x_60401), (wO8 tp tp_bytes tl), (wI g tp_bytes 0 440 tf)] := hD
            have hP9 := hP.sub (ws' := [(wO4 rd tp n rd_kindWords ww fk fp x_60398 4 tpl x_60401), (wO8 tp tp_bytes tl), (wI g tp_bytes 0 440 tf)]) [0, 1, 2] rfl
            have hD9 := hD.sub (ws' := [(wO4 rd tp n rd_kindWords ww fk fp x_60398 4 tpl x_60401), (wO8 tp tp_bytes tl), (wI g tp_bytes 0 440 tf)]) [0, 1, 2] (by decide) rfl
            exact W.vret hx hb hr (fun t ht hW => ⟨⟨(), rfl, trivial, x_60398, 4, x_60401, (tr_w h_x_60398 (by decide) (by decide)), (⟨by decide, by decide⟩ : 0 ≤ (4 : Int32).toInt ∧ (4 : Int32).toInt ≤ 4), (RNI.wrong hr60402_0 hst (by (first | (clear h_fk h_fp h_nx h_tk h_tpl htv h_x_60399 h_x_60400 c_60406_i h_60408 c_60415_i h_60416 c_60418_i; omega) | omega)) (by (first | (clear h_fk h_fp h_nx h_tk h_tpl htv h_x_60399 h_x_60400 c_60406_i h_60408 c_60415_i h_60416 c_60418_i; omega) | omega)) (by decide)), by rw [ht]; exact hP9, hD9⟩, hS.F ht⟩) hS.2.2 dX4_takeRun_170
          · skip
            have kk_6 := tk_6
            have c_60415_i := Int32.le_iff_toInt_le.mp (Int32.not_lt.mp c_60415)
            have h_60417 : 0 ≤ (x_60399 : Int32).toInt ∧ (x_60399 : Int32).toInt ≤ 6 := nr_le_l h_x_60399 (⟨by decide, by decide⟩ : 6 ≤ (6 : Int32).toInt ∧ (6 : Int32).toInt ≤ 6) c_60415_i (by decide) (by decide)
            refine lv_aload_n hx hb dX4_takeRun_140 rfl (lv_at hl 2 rfl) ?_
            refine lv_iconst (v := 1) hx hb dX4_takeRun_141 (by decide) ?_
            refine va_put (D := D) (ci := 4) (v := .int 1) (ty := .int) (C := RX4) (T := TX4) (N := 10) hx hb hts inlX4 tyX4 tyX4_ok nmX4 hown hK hP hD hS 0 rfl rfl 7 (by decide) (hts (Cond.fieldLink RX4 67 "ChanceRings$Reader" "token" "I") qw_369) (fun _ h9 => h9) rfl (by decide +kernel) rfl rfl (Nat.le_of_ble_eq_true rfl) dX4_takeRun_142 (fun H locs hP hD hS => ?_)
            have hP : va_P D vwCl [(wO4 rd tp n rd_kindWords ww fk fp x_60398 1 tpl x_60401), (wO8 tp tp_bytes tl), (wI g tp_bytes 0 440 tf)] H := hP
            have hD : va_D A [(wO4 rd tp n rd_kindWords ww fk fp x_60398 1 tpl x_60401), (wO8 tp tp_bytes tl), (wI g tp_bytes 0 440 tf)] := hD
            refine lv_goto (tgt := 170) hx hb dX4_takeRun_145 (by decide) ?_
            have hP9 := hP.sub (ws' := [(wO4 rd tp n rd_kindWords ww fk fp x_60398 1 tpl x_60401), (wO8 tp tp_bytes tl), (wI g tp_bytes 0 440 tf)]) [0, 1, 2] rfl
            have hD9 := hD.sub (ws' := [(wO4 rd tp n rd_kindWords ww fk fp x_60398 1 tpl x_60401), (wO8 tp tp_bytes tl), (wI g tp_bytes 0 440 tf)]) [0, 1, 2] (by decide) rfl
            exact W.vret hx hb hr (fun t ht hW => ⟨⟨(), rfl, trivial, x_60398, 1, x_60401, (tr_w h_x_60398 (by decide) (by decide)), (⟨by decide, by decide⟩ : 0 ≤ (1 : Int32).toInt ∧ (1 : Int32).toInt ≤ 4), (RNI.word hr60402_0 hst (by (first | (clear h_fk h_fp h_nx h_tk h_tpl htv h_x_60399 h_x_60400 c_60406_i h_60408 c_60415_i h_60417; omega) | omega)) (by (first | (clear h_fk h_fp h_nx h_tk h_tpl htv h_x_60399 h_x_60400 c_60406_i h_60408 c_60415_i h_60417; omega) | omega)) (by decide)), by rw [ht]; exact hP9, hD9⟩, hS.F ht⟩) hS.2.2 dX4_takeRun_170
      · skip
        have c_60403_i := Int32.lt_iff_toInt_lt.mp (Int32.not_le.mp c_60403)
        have h_60404 : 0 ≤ (x_60398 : Int32).toInt ∧ (x_60398 : Int32).toInt ≤ 439 := nr_lt_l h_x_60398 h_tl c_60403_i (by decide) (by decide)
        have h_60405 : 1 ≤ (tl : Int32).toInt ∧ (tl : Int32).toInt ≤ 440 := nr_lt_r h_x_60398 h_tl c_60403_i (by decide) (by decide)
        refine lv_aload_n hx hb dX4_takeRun_18 rfl (lv_at hl 2 rfl) ?_
        refine va_get (D := D) (ci := 4) (v := .ref tp) (C := RX4) (T := TX4) (N := 10) hx hb hts inlX4 hown hK hP 0 rfl rfl 0 (by decide) (hts (Cond.fieldLink RX4 9 "ChanceRings$Reader" "tape" "LChanceRings$Tape;") qw_367) (fun _ h9 => h9) rfl dX4_takeRun_19 ?_
        refine va_get (D := D) (ci := 8) (v := .ref tp_bytes) (C := RX8) (T := TX8) (N := 2) hx hb hts inlX8 hown hK hP 1 rfl rfl 0 (by decide) (hts (Cond.fieldLink RX4 136 "ChanceRings$Tape" "bytes" "[I") qw_370) (fun _ h9 => h9) rfl dX4_takeRun_22 ?_
        refine lv_aload_n hx hb dX4_takeRun_25 rfl (lv_at hl 2 rfl) ?_
        refine va_get (D := D) (ci := 4) (v := .int x_60398) (C := RX4) (T := TX4) (N := 10) hx hb hts inlX4 hown hK hP 0 rfl rfl 6 (by decide) (hts (Cond.fieldLink RX4 61 "ChanceRings$Reader" "next" "I") qw_366) (fun _ h9 => h9) rfl dX4_takeRun_26 ?_
        refine va_iald hx hb hK hP 2 0 rfl rfl (tr_in h_60404 (by decide) (by decide)) dX4_takeRun_29 ?_
        refine lv_topi (fun v_60419 v_60419_e => ?_)
        have h_v_60419 : 0 ≤ (v_60419 : Int32).toInt ∧ (v_60419 : Int32).toInt ≤ 255 := by rw [v_60419_e]; exact h_tf _
        have g_v_60419 : v_60419 = tf (x_60398.toInt.toNat) := v_60419_e.trans (congrArg tf rfl)
        have gi_v_60419 := congrArg Int32.toInt g_v_60419
        have rr_9 := RNI.rng hr60402_0
        have gb_v_60419 : bg tf (tl : Int32).toInt x_60398.toInt.toNat = v_60419.toInt := bg_cl h_tf gi_v_60419 (by (first | (clear h_fk h_fp h_nx h_tk h_tpl htv h_x_60399 h_x_60400; omega) | omega))
        have hPc := hP.sub (ws' := []) [] rfl
        refine vp_callSi (va_Run.run (va_runS (As := [.int v_60419]) (rest := []) ⟨hx, hb, hml, hown, hts⟩ (c_X4_isLetter l D g v_60419) (va_cwS 1 hts (tz_gS qw_371 qw_372 qw_364 qw_373) rfl rfl rfl (by decide +kernel) ⟨Nat.le_of_ble_eq_true rfl, Nat.le_of_ble_eq_true rfl⟩) ⟨tz_blS, tz_preS hPc hK⟩ rfl rfl hl.1 rfl (lv_room (Nat.le_of_ble_eq_true rfl)) dX4_takeRun_30 ⟨Nat.le_of_ble_eq_true rfl, Nat.le_of_ble_eq_true rfl⟩)) (fun r_60420 hw => ?_)
        have hw_60421 : 0 ≤ (r_60420 : Int32).toInt ∧ (r_60420 : Int32).toInt ≤ 1 := hw.1
        have hw_60421_p0 : Hide (¬ (r_60420 : Int32).toInt = 0 → 97 ≤ (v_60419 : Int32).toInt ∧ (v_60419 : Int32).toInt ≤ 122) := hw.2.1
        have hw_60421_p1 : Hide ((r_60420 : Int32).toInt = 0 → (v_60419 : Int32).toInt < 97 ∨ 122 < (v_60419 : Int32).toInt) := hw.2.2
        refine lv_if_ne (tgt := 54) hx hb dX4_takeRun_33 (by decide) (fun c_60422 => ?_) (fun c_60422 => ?_)
        · skip
          have kk_0 := tk_0
          have c_60422_i : ¬ (r_60420 : Int32).toInt = (0 : Int32).toInt := (fun q => c_60422 (Int32.toInt_inj.mp q))
          have hw_60421_p0_u := (hw_60421_p0).get (fun q => c_60422_i (q.trans tk_0.symm))
          have h_60423 : 1 ≤ (r_60420 : Int32).toInt ∧ (r_60420 : Int32).toInt ≤ 1 := nr_ne_l hw_60421 (⟨by decide, by decide⟩ : 0 ≤ (0 : Int32).toInt ∧ (0 : Int32).toInt ≤ 0) c_60422_i (by decide) (by decide)
          refine lv_aload_n hx hb dX4_takeRun_54 rfl (lv_at hl 2 rfl) ?_
          refine va_get (D := D) (ci := 4) (v := .ref tp) (C := RX4) (T := TX4) (N := 10) hx hb hts inlX4 hown hK hP 0 rfl rfl 0 (by decide) (hts (Cond.fieldLink RX4 9 "ChanceRings$Reader" "tape" "LChanceRings$Tape;") qw_367) (fun _ h9 => h9) rfl dX4_takeRun_55 ?_
          refine va_get (D := D) (ci := 8) (v := .ref tp_bytes) (C := RX8) (T := TX8) (N := 2) hx hb hts inlX8 hown hK hP 1 rfl rfl 0 (by decide) (hts (Cond.fieldLink RX4 136 "ChanceRings$Tape" "bytes" "[I") qw_370) (fun _ h9 => h9) rfl dX4_takeRun_58 ?_
          refine lv_aload_n hx hb dX4_takeRun_61 rfl (lv_at hl 2 rfl) ?_
          refine va_get (D := D) (ci := 4) (v := .int x_60398) (C := RX4) (T := TX4) (N := 10) hx hb hts inlX4 hown hK hP 0 rfl rfl 6 (by decide) (hts (Cond.fieldLink RX4 61 "ChanceRings$Reader" "next" "I") qw_366) (fun _ h9 => h9) rfl dX4_takeRun_62 ?_
          refine va_iald hx hb hK hP 2 0 rfl rfl (tr_in h_60404 (by decide) (by decide)) dX4_takeRun_65 ?_
          refine tz_i (y := v_60419) ((congrArg tf rfl).trans g_v_60419.symm) ?_
          refine lv_istore_n (lv' := [(3, .int v_60419), (2, .int x_60400), (1, .int x_60399), (0, .ref rd)]) hx hb dX4_takeRun_66 rfl hl (by decide) rfl (fun ls hl => ?_)
          refine lv_iload_n hx hb dX4_takeRun_67 rfl (lv_at hl 0 rfl) ?_
          have hPc := hP.sub (ws' := []) [] rfl
          refine vp_callSi (va_Run.run (va_runS (As := [.int v_60419]) (rest := []) ⟨hx, hb, hml, hown, hts⟩ (c_X4_isLetter l D g v_60419) (va_cwS 1 hts (tz_gS qw_371 qw_372 qw_364 qw_373) rfl rfl rfl (by decide +kernel) ⟨Nat.le_of_ble_eq_true rfl, Nat.le_of_ble_eq_true rfl⟩) ⟨tz_blS, tz_preS hPc hK⟩ rfl rfl hl.1 rfl (lv_room (Nat.le_of_ble_eq_true rfl)) dX4_takeRun_68 ⟨Nat.le_of_ble_eq_true rfl, Nat.le_of_ble_eq_true rfl⟩)) (fun r_60425 hw => ?_)
          have hw_60426 : 0 ≤ (r_60425 : Int32).toInt ∧ (r_60425 : Int32).toInt ≤ 1 := hw.1
          have hw_60426_p0 : Hide (¬ (r_60425 : Int32).toInt = 0 → 97 ≤ (v_60419 : Int32).toInt ∧ (v_60419 : Int32).toInt ≤ 122) := hw.2.1
          have hw_60426_p1 : Hide ((r_60425 : Int32).toInt = 0 → (v_60419 : Int32).toInt < 97 ∨ 122 < (v_60419 : Int32).toInt) := hw.2.2
          refine lv_if_eq (tgt := 98) hx hb dX4_takeRun_71 (by decide) (fun c_60427 => ?_) (fun c_60427 => ?_)
          · skip
            have c_60427_i : (r_60425 : Int32).toInt = (0 : Int32).toInt := congrArg Int32.toInt c_60427
            have hw_60426_p1_u := (hw_60426_p1).get (c_60427_i.trans tk_0)
            have h_60428 : 0 ≤ (r_60425 : Int32).toInt ∧ (r_60425 : Int32).toInt ≤ 0 := nr_eq_l hw_60426 (⟨by decide, by decide⟩ : 0 ≤ (0 : Int32).toInt ∧ (0 : Int32).toInt ≤ 0) c_60427_i (by decide) (by decide)
            obtain ⟨v_60430, v_60430_e⟩ : ∃ y : Int32, y = x_60400 + Int32.ofInt 1 := ⟨_, rfl⟩
            have h_v_60430 : 1 ≤ (v_60430 : Int32).toInt ∧ (v_60430 : Int32).toInt ≤ 441 := by rw [v_60430_e]; exact tr_add h_x_60400 (⟨by decide, by decide⟩ : 1 ≤ (Int32.ofInt 1 : Int32).toInt ∧ (Int32.ofInt 1 : Int32).toInt ≤ 1) (by decide) (by decide) (by decide) (by decide)
            have q_v_60430 : v_60430.toInt = x_60400.toInt + 1 := by rw [v_60430_e]; exact tr_addE h_x_60400 (⟨by decide, by decide⟩ : 1 ≤ (Int32.ofInt 1 : Int32).toInt ∧ (Int32.ofInt 1 : Int32).toInt ≤ 1) (by decide) (by decide)
            refine lv_iinc (v := v_60430) (lv' := [(2, .int v_60430), (3, .int v_60419), (1, .int x_60399), (0, .ref rd)]) hx hb dX4_takeRun_98 hl (k := 1) rfl v_60430_e.symm (by decide) rfl (fun ls hl => ?_)
            refine lv_aload_n hx hb dX4_takeRun_101 rfl (lv_at hl 3 rfl) ?_
            refine lv_aload_n hx hb dX4_takeRun_102 rfl (lv_at hl 3 rfl) ?_
            refine va_get (D := D) (ci := 4) (v := .int x_60401) (C := RX4) (T := TX4) (N := 10) hx hb hts inlX4 hown hK hP 0 rfl rfl 9 (by decide) (hts (Cond.fieldLink RX4 86 "ChanceRings$Reader" "tokenValue" "I") qw_374) (fun _ h9 => h9) rfl dX4_takeRun_103 ?_
            refine lv_bipush (v := 10) hx hb dX4_takeRun_106 (by decide) ?_
            refine lv_imul hx hb dX4_takeRun_108 ?_
            refine lv_topi (fun v_60431 v_60431_e => ?_)
            refine lv_iload_n hx hb dX4_takeRun_109 rfl (lv_at hl 1 rfl) ?_
            refine lv_bipush (v := 48) hx hb dX4_takeRun_110 (by decide) ?_
            refine lv_isub hx hb dX4_takeRun_112 ?_
            refine lv_topi (fun v_60432 v_60432_e => ?_)
            have h_v_60432 : (-48) ≤ (v_60432 : Int32).toInt ∧ (v_60432 : Int32).toInt ≤ 207 := by rw [v_60432_e]; exact tr_sub h_v_60419 (⟨by decide, by decide⟩ : 48 ≤ (48 : Int32).toInt ∧ (48 : Int32).toInt ≤ 48) (by decide) (by decide) (by decide) (by decide)
            have q_v_60432 : v_60432.toInt = v_60419.toInt - 48 := by rw [v_60432_e]; exact tr_subE h_v_60419 (⟨by decide, by decide⟩ : 48 ≤ (48 : Int32).toInt ∧ (48 : Int32).toInt ≤ 48) (by decide) (by decide)
            refine lv_iadd hx hb dX4_takeRun_113 ?_
            refine lv_topi (fun v_60433 v_60433_e => ?_)
            refine va_put (D := D) (ci := 4) (v := .int v_60433) (ty := .int) (C := RX4) (T := TX4) (N := 10) hx hb hts inlX4 tyX4 tyX4_ok nmX4 hown hK hP hD hS 0 rfl rfl 9 (by decide) (hts (Cond.fieldLink RX4 86 "ChanceRings$Reader" "tokenValue" "I") qw_374) (fun _ h9 => h9) rfl (by decide +kernel) rfl rfl (Nat.le_of_ble_eq_true rfl) dX4_takeRun_114 (fun H locs hP hD hS => ?_)
            have hP : va_P D vwCl [(wO4 rd tp n rd_kindWords ww fk fp x_60398 tk tpl v_60433), (wO8 tp tp_bytes tl), (wI g tp_bytes 0 440 tf)] H := hP
            have hD : va_D A [(wO4 rd tp n rd_kindWords ww fk fp x_60398 tk tpl v_60433), (wO8 tp tp_bytes tl), (wI g tp_bytes 0 440 tf)] := hD
            refine lv_aload_n hx hb dX4_takeRun_117 rfl (lv_at hl 3 rfl) ?_
            refine lv_dup hx hb dX4_takeRun_118 rfl ?_
            refine va_get (D := D) (ci := 4) (v := .int x_60398) (C := RX4) (T := TX4) (N := 10) hx hb hts inlX4 hown hK hP 0 rfl rfl 6 (by decide) (hts (Cond.fieldLink RX4 61 "ChanceRings$Reader" "next" "I") qw_366) (fun _ h9 => h9) rfl dX4_takeRun_119 ?_
            refine lv_iconst (v := 1) hx hb dX4_takeRun_122 (by decide) ?_
            refine lv_iadd hx hb dX4_takeRun_123 ?_
            refine lv_topi (fun v_60434 v_60434_e => ?_)
            have h_v_60434 : 1 ≤ (v_60434 : Int32).toInt ∧ (v_60434 : Int32).toInt ≤ 440 := by rw [v_60434_e]; exact tr_add h_60404 (⟨by decide, by decide⟩ : 1 ≤ (1 : Int32).toInt ∧ (1 : Int32).toInt ≤ 1) (by decide) (by decide) (by decide) (by decide)
            have q_v_60434 : v_60434.toInt = x_60398.toInt + 1 := by rw [v_60434_e]; exact tr_addE h_60404 (⟨by decide, by decide⟩ : 1 ≤ (1 : Int32).toInt ∧ (1 : Int32).toInt ≤ 1) (by decide) (by decide)
            refine va_put (D := D) (ci := 4) (v := .int v_60434) (ty := .int) (C := RX4) (T := TX4) (N := 10) hx hb hts inlX4 tyX4 tyX4_ok nmX4 hown hK hP hD hS 0 rfl rfl 6 (by decide) (hts (Cond.fieldLink RX4 61 "ChanceRings$Reader" "next" "I") qw_366) (fun _ h9 => h9) rfl (by decide +kernel) rfl rfl (Nat.le_of_ble_eq_true rfl) dX4_takeRun_124 (fun H locs hP hD hS => ?_)
            have hP : va_P D vwCl [(wO4 rd tp n rd_kindWords ww fk fp v_60434 tk tpl v_60433), (wO8 tp tp_bytes tl), (wI g tp_bytes 0 440 tf)] H := hP
            have hD : va_D A [(wO4 rd tp n rd_kindWords ww fk fp v_60434 tk tpl v_60433), (wO8 tp tp_bytes tl), (wI g tp_bytes 0 440 tf)] := hD
            refine lv_goto (tgt := 4) hx hb dX4_takeRun_127 (by decide) ?_
            exact ih_60402 v_60434 x_60399 v_60430 v_60433 H _ ls (tr_w h_v_60434 (by decide) (by decide)) (tr_w h_x_60399 (by decide) (by decide)) (by (first | (clear h_fk h_fp h_nx h_tk h_tpl htv hw_60421 c_60422_i h_60423 hw_60426 c_60427_i h_60428; omega) | omega)) (RNI.digit hr60402_0 (by (first | (clear h_fk h_fp h_nx h_tk h_tpl htv hw_60421 c_60422_i h_60423 hw_60426 c_60427_i h_60428; omega) | omega)) (by rw [gb_v_60419]; unfold dgt; (first | (clear h_fk h_fp h_nx h_tk h_tpl htv hw_60421 c_60422_i h_60423 hw_60426 c_60427_i h_60428; omega) | omega)) (by (first | (clear h_fk h_fp h_nx h_tk h_tpl htv hw_60421 c_60422_i h_60423 hw_60426 c_60427_i h_60428; omega) | omega)) (fun q9 q8 => by rw [gb_v_60419]; have b9 := RNI.bd2 hr60402_0 q9 (by (first | (clear h_fk h_fp h_nx h_tk h_tpl htv hw_60421 c_60422_i h_60423 hw_60426 c_60427_i h_60428; omega) | omega)); have b8 := tv10 v_60431_e v_60433_e b9.1 (by (first | (clear h_fk h_fp h_nx h_tk h_tpl htv hw_60421 c_60422_i h_60423 hw_60426 c_60427_i h_60428; omega) | omega)) (by (first | (clear h_fk h_fp h_nx h_tk h_tpl htv hw_60421 c_60422_i h_60423 hw_60426 c_60427_i h_60428; omega) | omega)) (by (first | (clear h_fk h_fp h_nx h_tk h_tpl htv hw_60421 c_60422_i h_60423 hw_60426 c_60427_i h_60428; omega) | omega)); (first | (clear h_fk h_fp h_nx h_tk h_tpl htv hw_60421 c_60422_i h_60423 hw_60426 c_60427_i h_60428; omega) | omega))) (by (first | (clear h_fk h_fp h_nx h_tk h_tpl htv hw_60421 c_60422_i h_60423 hw_60426 c_60427_i h_60428; omega) | omega)) (hP.sub [0, 1, 2] rfl) (hD.sub [0, 1, 2] (by decide) rfl) hS (lv_sub hl [0, 2, 3] rfl)
          · skip
            have c_60427_i : ¬ (r_60425 : Int32).toInt = (0 : Int32).toInt := (fun q => c_60427 (Int32.toInt_inj.mp q))
            have hw_60426_p0_u := (hw_60426_p0).get (fun q => c_60427_i (q.trans tk_0.symm))
            have h_60429 : 1 ≤ (r_60425 : Int32).toInt ∧ (r_60425 : Int32).toInt ≤ 1 := nr_ne_l hw_60426 (⟨by decide, by decide⟩ : 0 ≤ (0 : Int32).toInt ∧ (0 : Int32).toInt ≤ 0) c_60427_i (by decide) (by decide)
            obtain ⟨v_60435, v_60435_e⟩ : ∃ y : Int32, y = x_60399 + Int32.ofInt 1 := ⟨_, rfl⟩
            have h_v_60435 : 1 ≤ (v_60435 : Int32).toInt ∧ (v_60435 : Int32).toInt ≤ 441 := by rw [v_60435_e]; exact tr_add h_x_60399 (⟨by decide, by decide⟩ : 1 ≤ (Int32.ofInt 1 : Int32).toInt ∧ (Int32.ofInt 1 : Int32).toInt ≤ 1) (by decide) (by decide) (by decide) (by decide)
            have q_v_60435 : v_60435.toInt = x_60399.toInt + 1 := by rw [v_60435_e]; exact tr_addE h_x_60399 (⟨by decide, by decide⟩ : 1 ≤ (Int32.ofInt 1 : Int32).toInt ∧ (Int32.ofInt 1 : Int32).toInt ≤ 1) (by decide) (by decide)
            refine lv_iinc (v := v_60435) (lv' := [(1, .int v_60435), (3, .int v_60419), (2, .int x_60400), (0, .ref rd)]) hx hb dX4_takeRun_74 hl (k := 2) rfl v_60435_e.symm (by decide) rfl (fun ls hl => ?_)
            refine lv_aload_n hx hb dX4_takeRun_77 rfl (lv_at hl 3 rfl) ?_
            refine lv_aload_n hx hb dX4_takeRun_78 rfl (lv_at hl 3 rfl) ?_
            refine va_get (D := D) (ci := 4) (v := .int x_60401) (C := RX4) (T := TX4) (N := 10) hx hb hts inlX4 hown hK hP 0 rfl rfl 9 (by decide) (hts (Cond.fieldLink RX4 86 "ChanceRings$Reader" "tokenValue" "I") qw_374) (fun _ h9 => h9) rfl dX4_takeRun_79 ?_
            refine lv_bipush (v := 27) hx hb dX4_takeRun_82 (by decide) ?_
            refine lv_imul hx hb dX4_takeRun_84 ?_
            refine lv_topi (fun v_60436 v_60436_e => ?_)
            refine lv_iload_n hx hb dX4_takeRun_85 rfl (lv_at hl 1 rfl) ?_
            refine lv_bipush (v := 97) hx hb dX4_takeRun_86 (by decide) ?_
            refine lv_isub hx hb dX4_takeRun_88 ?_
            refine lv_topi (fun v_60437 v_60437_e => ?_)
            have h_v_60437 : (-97) ≤ (v_60437 : Int32).toInt ∧ (v_60437 : Int32).toInt ≤ 158 := by rw [v_60437_e]; exact tr_sub h_v_60419 (⟨by decide, by decide⟩ : 97 ≤ (97 : Int32).toInt ∧ (97 : Int32).toInt ≤ 97) (by decide) (by decide) (by decide) (by decide)
            have q_v_60437 : v_60437.toInt = v_60419.toInt - 97 := by rw [v_60437_e]; exact tr_subE h_v_60419 (⟨by decide, by decide⟩ : 97 ≤ (97 : Int32).toInt ∧ (97 : Int32).toInt ≤ 97) (by decide) (by decide)
            refine lv_iconst (v := 1) hx hb dX4_takeRun_89 (by decide) ?_
            refine lv_iadd hx hb dX4_takeRun_90 ?_
            refine lv_topi (fun v_60438 v_60438_e => ?_)
            have h_v_60438 : (-96) ≤ (v_60438 : Int32).toInt ∧ (v_60438 : Int32).toInt ≤ 159 := by rw [v_60438_e]; exact tr_add h_v_60437 (⟨by decide, by decide⟩ : 1 ≤ (1 : Int32).toInt ∧ (1 : Int32).toInt ≤ 1) (by decide) (by decide) (by decide) (by decide)
            have q_v_60438 : v_60438.toInt = v_60437.toInt + 1 := by rw [v_60438_e]; exact tr_addE h_v_60437 (⟨by decide, by decide⟩ : 1 ≤ (1 : Int32).toInt ∧ (1 : Int32).toInt ≤ 1) (by decide) (by decide)
            refine lv_iadd hx hb dX4_takeRun_91 ?_
            refine lv_topi (fun v_60439 v_60439_e => ?_)
            refine va_put (D := D) (ci := 4) (v := .int v_60439) (ty := .int) (C := RX4) (T := TX4) (N := 10) hx hb hts inlX4 tyX4 tyX4_ok nmX4 hown hK hP hD hS 0 rfl rfl 9 (by decide) (hts (Cond.fieldLink RX4 86 "ChanceRings$Reader" "tokenValue" "I") qw_374) (fun _ h9 => h9) rfl (by decide +kernel) rfl rfl (Nat.le_of_ble_eq_true rfl) dX4_takeRun_92 (fun H locs hP hD hS => ?_)
            have hP : va_P D vwCl [(wO4 rd tp n rd_kindWords ww fk fp x_60398 tk tpl v_60439), (wO8 tp tp_bytes tl), (wI g tp_bytes 0 440 tf)] H := hP
            have hD : va_D A [(wO4 rd tp n rd_kindWords ww fk fp x_60398 tk tpl v_60439), (wO8 tp tp_bytes tl), (wI g tp_bytes 0 440 tf)] := hD
            refine lv_goto (tgt := 117) hx hb dX4_takeRun_95 (by decide) ?_
            refine lv_aload_n hx hb dX4_takeRun_117 rfl (lv_at hl 3 rfl) ?_
            refine lv_dup hx hb dX4_takeRun_118 rfl ?_
            refine va_get (D := D) (ci := 4) (v := .int x_60398) (C := RX4) (T := TX4) (N := 10) hx hb hts inlX4 hown hK hP 0 rfl rfl 6 (by decide) (hts (Cond.fieldLink RX4 61 "ChanceRings$Reader" "next" "I") qw_366) (fun _ h9 => h9) rfl dX4_takeRun_119 ?_
            refine lv_iconst (v := 1) hx hb dX4_takeRun_122 (by decide) ?_
            refine lv_iadd hx hb dX4_takeRun_123 ?_
            refine lv_topi (fun v_60440 v_60440_e => ?_)
            have h_v_60440 : 1 ≤ (v_60440 : Int32).toInt ∧ (v_60440 : Int32).toInt ≤ 440 := by rw [v_60440_e]; exact tr_add h_60404 (⟨by decide, by decide⟩ : 1 ≤ (1 : Int32).toInt ∧ (1 : Int32).toInt ≤ 1) (by decide) (by decide) (by decide) (by decide)
            have q_v_60440 : v_60440.toInt = x_60398.toInt + 1 := by rw [v_60440_e]; exact tr_addE h_60404 (⟨by decide, by decide⟩ : 1 ≤ (1 : Int32).toInt ∧ (1 : Int32).toInt ≤ 1) (by decide) (by decide)
            refine va_put (D := D) (ci := 4) (v := .int v_60440) (ty := .int) (C := RX4) (T := TX4) (N := 10) hx hb hts inlX4 tyX4 tyX4_ok nmX4 hown hK hP hD hS 0 rfl rfl 6 (by decide) (hts (Cond.fieldLink RX4 61 "ChanceRings$Reader" "next" "I") qw_366) (fun _ h9 => h9) rfl (by decide +kernel) rfl rfl (Nat.le_of_ble_eq_true rfl) dX4_takeRun_124 (fun H locs hP hD hS => ?_)
            have hP : va_P D vwCl [(wO4 rd tp n rd_kindWords ww fk fp v_60440 tk tpl v_60439), (wO8 tp tp_bytes tl), (wI g tp_bytes 0 440 tf)] H := hP
            have hD : va_D A [(wO4 rd tp n rd_kindWords ww fk fp v_60440 tk tpl v_60439), (wO8 tp tp_bytes tl), (wI g tp_bytes 0 440 tf)] := hD
            refine lv_goto (tgt := 4) hx hb dX4_takeRun_127 (by decide) ?_
            exact ih_60402 v_60440 v_60435 x_60400 v_60439 H _ ls (tr_w h_v_60440 (by decide) (by decide)) (by (first | (clear h_fk h_fp h_nx h_tk h_tpl htv hw_60421 c_60422_i h_60423 hw_60426 c_60427_i h_60429; omega) | omega)) (tr_w h_x_60400 (by decide) (by decide)) (RNI.letter hr60402_0 (by (first | (clear h_fk h_fp h_nx h_tk h_tpl htv hw_60421 c_60422_i h_60423 hw_60426 c_60427_i h_60429; omega) | omega)) (by rw [gb_v_60419]; unfold ltr; (first | (clear h_fk h_fp h_nx h_tk h_tpl htv hw_60421 c_60422_i h_60423 hw_60426 c_60427_i h_60429; omega) | omega)) (by (first | (clear h_fk h_fp h_nx h_tk h_tpl htv hw_60421 c_60422_i h_60423 hw_60426 c_60427_i h_60429; omega) | omega)) (fun q9 q8 => by rw [gb_v_60419]; have b9 := RNI.bd hr60402_0 q9 (by (first | (clear h_fk h_fp h_nx h_tk h_tpl htv hw_60421 c_60422_i h_60423 hw_60426 c_60427_i h_60429; omega) | omega)); have b8 := tv27 v_60436_e v_60439_e b9.1 b9.2 (by (first | (clear h_fk h_fp h_nx h_tk h_tpl htv hw_60421 c_60422_i h_60423 hw_60426 c_60427_i h_60429; omega) | omega)) (by (first | (clear h_fk h_fp h_nx h_tk h_tpl htv hw_60421 c_60422_i h_60423 hw_60426 c_60427_i h_60429; omega) | omega)); (first | (clear h_fk h_fp h_nx h_tk h_tpl htv hw_60421 c_60422_i h_60423 hw_60426 c_60427_i h_60429; omega) | omega))) (by (first | (clear h_fk h_fp h_nx h_tk h_tpl htv hw_60421 c_60422_i h_60423 hw_60426 c_60427_i h_60429; omega) | omega)) (hP.sub [0, 1, 2] rfl) (hD.sub [0, 1, 2] (by decide) rfl) hS (lv_sub hl [2, 0, 3] rfl)
        · skip
          have kk_0 := tk_0
          have c_60422_i : (r_60420 : Int32).toInt = (0 : Int32).toInt := congrArg Int32.toInt c_60422
          have hw_60421_p1_u := (hw_60421_p1).get (c_60422_i.trans tk_0)
          have h_60424 : 0 ≤ (r_60420 : Int32).toInt ∧ (r_60420 : Int32).toInt ≤ 0 := nr_eq_l hw_60421 (⟨by decide, by decide⟩ : 0 ≤ (0 : Int32).toInt ∧ (0 : Int32).toInt ≤ 0) c_60422_i (by decide) (by decide)
          refine lv_aload_n hx hb dX4_takeRun_36 rfl (lv_at hl 2 rfl) ?_
          refine va_get (D := D) (ci := 4) (v := .ref tp) (C := RX4) (T := TX4) (N := 10) hx hb hts inlX4 hown hK hP 0 rfl rfl 0 (by decide) (hts (Cond.fieldLink RX4 9 "ChanceRings$Reader" "tape" "LChanceRings$Tape;") qw_367) (fun _ h9 => h9) rfl dX4_takeRun_37 ?_
          refine va_get (D := D) (ci := 8) (v := .ref tp_bytes) (C := RX8) (T := TX8) (N := 2) hx hb hts inlX8 hown hK hP 1 rfl rfl 0 (by decide) (hts (Cond.fieldLink RX4 136 "ChanceRings$Tape" "bytes" "[I") qw_370) (fun _ h9 => h9) rfl dX4_takeRun_40 ?_
          refine lv_aload_n hx hb dX4_takeRun_43 rfl (lv_at hl 2 rfl) ?_
          refine va_get (D := D) (ci := 4) (v := .int x_60398) (C := RX4) (T := TX4) (N := 10) hx hb hts inlX4 hown hK hP 0 rfl rfl 6 (by decide) (hts (Cond.fieldLink RX4 61 "ChanceRings$Reader" "next" "I") qw_366) (fun _ h9 => h9) rfl dX4_takeRun_44 ?_
          refine va_iald hx hb hK hP 2 0 rfl rfl (tr_in h_60404 (by decide) (by decide)) dX4_takeRun_47 ?_
          refine tz_i (y := v_60419) ((congrArg tf rfl).trans g_v_60419.symm) ?_
          have hPc := hP.sub (ws' := []) [] rfl
          refine vp_callSi (va_Run.run (va_runS (As := [.int v_60419]) (rest := []) ⟨hx, hb, hml, hown, hts⟩ (c_X4_isDigit l D g v_60419) (va_cwS 1 hts (tz_gS qw_375 qw_376 qw_364 qw_377) rfl rfl rfl (by decide +kernel) ⟨Nat.le_of_ble_eq_true rfl, Nat.le_of_ble_eq_true rfl⟩) ⟨tz_blS, tz_preS hPc hK⟩ rfl rfl hl.1 rfl (lv_room (Nat.le_of_ble_eq_true rfl)) dX4_takeRun_48 ⟨Nat.le_of_ble_eq_true rfl, Nat.le_of_ble_eq_true rfl⟩)) (fun r_60441 hw => ?_)
          have hw_60442 : 0 ≤ (r_60441 : Int32).toInt ∧ (r_60441 : Int32).toInt ≤ 1 := hw.1
          have hw_60442_p0 : Hide (¬ (r_60441 : Int32).toInt = 0 → 48 ≤ (v_60419 : Int32).toInt ∧ (v_60419 : Int32).toInt ≤ 57) := hw.2.1
          have hw_60442_p1 : Hide ((r_60441 : Int32).toInt = 0 → (v_60419 : Int32).toInt < 48 ∨ 57 < (v_60419 : Int32).toInt) := hw.2.2
          refine lv_if_eq (tgt := 130) hx hb dX4_takeRun_51 (by decide) (fun c_60443 => ?_) (fun c_60443 => ?_)
          · skip
            have c_60443_i : (r_60441 : Int32).toInt = (0 : Int32).toInt := congrArg Int32.toInt c_60443
            have hw_60442_p1_u := (hw_60442_p1).get (c_60443_i.trans tk_0)
            have h_60444 : 0 ≤ (r_60441 : Int32).toInt ∧ (r_60441 : Int32).toInt ≤ 0 := nr_eq_l hw_60442 (⟨by decide, by decide⟩ : 0 ≤ (0 : Int32).toInt ∧ (0 : Int32).toInt ≤ 0) c_60443_i (by decide) (by decide)
            have hst : ¬ (ltr (bg tf (tl : Int32).toInt x_60398.toInt.toNat) ∨ dgt (bg tf (tl : Int32).toInt x_60398.toInt.toNat)) := by rw [gb_v_60419]; unfold ltr dgt; (first | (clear h_fk h_fp h_nx h_tk h_tpl htv h_x_60399 h_x_60400 hw_60421 c_60422_i h_60424 hw_60442 c_60443_i h_60444; omega) | omega)
            have rr_8 := RNI.rng hr60402_0
            refine lv_iload_n hx hb dX4_takeRun_130 rfl (lv_at hl 0 rfl) ?_
            refine lv_if_ne (tgt := 148) hx hb dX4_takeRun_131 (by decide) (fun c_60446 => ?_) (fun c_60446 => ?_)
            · skip
              have c_60446_i : ¬ (x_60400 : Int32).toInt = (0 : Int32).toInt := (fun q => c_60446 (Int32.toInt_inj.mp q))
              have h_60447 : 1 ≤ (x_60400 : Int32).toInt ∧ (x_60400 : Int32).toInt ≤ 440 := nr_ne_l h_x_60400 (⟨by decide, by decide⟩ : 0 ≤ (0 : Int32).toInt ∧ (0 : Int32).toInt ≤ 0) c_60446_i (by decide) (by decide)
              refine lv_iload_n hx hb dX4_takeRun_148 rfl (lv_at hl 1 rfl) ?_
              refine lv_if_ne (tgt := 165) hx hb dX4_takeRun_149 (by decide) (fun c_60449 => ?_) (fun c_60449 => ?_)
              · skip
                have c_60449_i : ¬ (x_60399 : Int32).toInt = (0 : Int32).toInt := (fun q => c_60449 (Int32.toInt_inj.mp q))
                have h_60450 : 1 ≤ (x_60399 : Int32).toInt ∧ (x_60399 : Int32).toInt ≤ 440 := nr_ne_l h_x_60399 (⟨by decide, by decide⟩ : 0 ≤ (0 : Int32).toInt ∧ (0 : Int32).toInt ≤ 0) c_60449_i (by decide) (by decide)
                refine lv_aload_n hx hb dX4_takeRun_165 rfl (lv_at hl 2 rfl) ?_
                refine lv_iconst (v := 4) hx hb dX4_takeRun_166 (by decide) ?_
                refine va_put (D := D) (ci := 4) (v := .int 4) (ty := .int) (C := RX4) (T := TX4) (N := 10) hx hb hts inlX4 tyX4 tyX4_ok nmX4 hown hK hP hD hS 0 rfl rfl 7 (by decide) (hts (Cond.fieldLink RX4 67 "ChanceRings$Reader" "token" "I") qw_369) (fun _ h9 => h9) rfl (by decide +kernel) rfl rfl (Nat.le_of_ble_eq_true rfl) dX4_takeRun_167 (fun H locs hP hD hS => ?_)
                have hP : va_P D vwCl [(wO4 rd tp n rd_kindWords ww fk fp x_60398 4 tpl x_60401), (wO8 tp tp_bytes tl), (wI g tp_bytes 0 440 tf)] H := hP
                have hD : va_D A [(wO4 rd tp n rd_kindWords ww fk fp x_60398 4 tpl x_60401), (wO8 tp tp_bytes tl), (wI g tp_bytes 0 440 tf)] := hD
                have hP9 := hP.sub (ws' := [(wO4 rd tp n rd_kindWords ww fk fp x_60398 4 tpl x_60401), (wO8 tp tp_bytes tl), (wI g tp_bytes 0 440 tf)]) [0, 1, 2] rfl
                have hD9 := hD.sub (ws' := [(wO4 rd tp n rd_kindWords ww fk fp x_60398 4 tpl x_60401), (wO8 tp tp_bytes tl), (wI g tp_bytes 0 440 tf)]) [0, 1, 2] (by decide) rfl
                exact W.vret hx hb hr (fun t ht hW => ⟨⟨(), rfl, trivial, x_60398, 4, x_60401, (tr_w h_60404 (by decide) (by decide)), (⟨by decide, by decide⟩ : 0 ≤ (4 : Int32).toInt ∧ (4 : Int32).toInt ≤ 4), (RNI.wrong hr60402_0 hst (by (first | (clear h_fk h_fp h_nx h_tk h_tpl htv h_x_60399 h_x_60400 hw_60421 c_60422_i h_60424 hw_60442 c_60443_i h_60444 c_60446_i h_60447 c_60449_i h_60450; omega) | omega)) (by (first | (clear h_fk h_fp h_nx h_tk h_tpl htv h_x_60399 h_x_60400 hw_60421 c_60422_i h_60424 hw_60442 c_60443_i h_60444 c_60446_i h_60447 c_60449_i h_60450; omega) | omega)) (by decide)), by rw [ht]; exact hP9, hD9⟩, hS.F ht⟩) hS.2.2 dX4_takeRun_170
              · skip
                have c_60449_i : (x_60399 : Int32).toInt = (0 : Int32).toInt := congrArg Int32.toInt c_60449
                have h_60451 : 0 ≤ (x_60399 : Int32).toInt ∧ (x_60399 : Int32).toInt ≤ 0 := nr_eq_l h_x_60399 (⟨by decide, by decide⟩ : 0 ≤ (0 : Int32).toInt ∧ (0 : Int32).toInt ≤ 0) c_60449_i (by decide) (by decide)
                refine lv_iload_n hx hb dX4_takeRun_152 rfl (lv_at hl 0 rfl) ?_
                refine lv_iconst (v := 2) hx hb dX4_takeRun_153 (by decide) ?_
                refine lv_icmp_gt (tgt := 165) hx hb dX4_takeRun_154 (by decide) (fun c_60452 => ?_) (fun c_60452 => ?_)
                · skip
                  have kk_2 := tk_2
                  have c_60452_i := Int32.lt_iff_toInt_lt.mp c_60452
                  have h_60453 : 3 ≤ (x_60400 : Int32).toInt ∧ (x_60400 : Int32).toInt ≤ 440 := nr_lt_r (⟨by decide, by decide⟩ : 2 ≤ (2 : Int32).toInt ∧ (2 : Int32).toInt ≤ 2) h_60447 c_60452_i (by decide) (by decide)
                  refine lv_aload_n hx hb dX4_takeRun_165 rfl (lv_at hl 2 rfl) ?_
                  refine lv_iconst (v := 4) hx hb dX4_takeRun_166 (by decide) ?_
                  refine va_put (D := D) (ci := 4) (v := .int 4) (ty := .int) (C := RX4) (T := TX4) (N := 10) hx hb hts inlX4 tyX4 tyX4_ok nmX4 hown hK hP hD hS 0 rfl rfl 7 (by decide) (hts (Cond.fieldLink RX4 67 "ChanceRings$Reader" "token" "I") qw_369) (fun _ h9 => h9) rfl (by decide +kernel) rfl rfl (Nat.le_of_ble_eq_true rfl) dX4_takeRun_167 (fun H locs hP hD hS => ?_)
                  have hP : va_P D vwCl [(wO4 rd tp n rd_kindWords ww fk fp x_60398 4 tpl x_60401), (wO8 tp tp_bytes tl), (wI g tp_bytes 0 440 tf)] H := hP
                  have hD : va_D A [(wO4 rd tp n rd_kindWords ww fk fp x_60398 4 tpl x_60401), (wO8 tp tp_bytes tl), (wI g tp_bytes 0 440 tf)] := hD
                  have hP9 := hP.sub (ws' := [(wO4 rd tp n rd_kindWords ww fk fp x_60398 4 tpl x_60401), (wO8 tp tp_bytes tl), (wI g tp_bytes 0 440 tf)]) [0, 1, 2] rfl
                  have hD9 := hD.sub (ws' := [(wO4 rd tp n rd_kindWords ww fk fp x_60398 4 tpl x_60401), (wO8 tp tp_bytes tl), (wI g tp_bytes 0 440 tf)]) [0, 1, 2] (by decide) rfl
                  exact W.vret hx hb hr (fun t ht hW => ⟨⟨(), rfl, trivial, x_60398, 4, x_60401, (tr_w h_60404 (by decide) (by decide)), (⟨by decide, by decide⟩ : 0 ≤ (4 : Int32).toInt ∧ (4 : Int32).toInt ≤ 4), (RNI.wrong hr60402_0 hst (by (first | (clear h_fk h_fp h_nx h_tk h_tpl htv h_x_60399 h_x_60400 hw_60421 c_60422_i h_60424 hw_60442 c_60443_i h_60444 c_60446_i h_60447 c_60449_i h_60451 c_60452_i h_60453; omega) | omega)) (by (first | (clear h_fk h_fp h_nx h_tk h_tpl htv h_x_60399 h_x_60400 hw_60421 c_60422_i h_60424 hw_60442 c_60443_i h_60444 c_60446_i h_60447 c_60449_i h_60451 c_60452_i h_60453; omega) | omega)) (by decide)), by rw [ht]; exact hP9, hD9⟩, hS.F ht⟩) hS.2.2 dX4_takeRun_170
                · skip
                  have kk_2 := tk_2
                  have c_60452_i := Int32.le_iff_toInt_le.mp (Int32.not_lt.mp c_60452)
                  have h_60454 : 1 ≤ (x_60400 : Int32).toInt ∧ (x_60400 : Int32).toInt ≤ 2 := nr_le_l h_60447 (⟨by decide, by decide⟩ : 2 ≤ (2 : Int32).toInt ∧ (2 : Int32).toInt ≤ 2) c_60452_i (by decide) (by decide)
                  refine lv_aload_n hx hb dX4_takeRun_157 rfl (lv_at hl 2 rfl) ?_
                  refine lv_iconst (v := 2) hx hb dX4_takeRun_158 (by decide) ?_
                  refine va_put (D := D) (ci := 4) (v := .int 2) (ty := .int) (C := RX4) (T := TX4) (N := 10) hx hb hts inlX4 tyX4 tyX4_ok nmX4 hown hK hP hD hS 0 rfl rfl 7 (by decide) (hts (Cond.fieldLink RX4 67 "ChanceRings$Reader" "token" "I") qw_369) (fun _ h9 => h9) rfl (by decide +kernel) rfl rfl (Nat.le_of_ble_eq_true rfl) dX4_takeRun_159 (fun H locs hP hD hS => ?_)
                  have hP : va_P D vwCl [(wO4 rd tp n rd_kindWords ww fk fp x_60398 2 tpl x_60401), (wO8 tp tp_bytes tl), (wI g tp_bytes 0 440 tf)] H := hP
                  have hD : va_D A [(wO4 rd tp n rd_kindWords ww fk fp x_60398 2 tpl x_60401), (wO8 tp tp_bytes tl), (wI g tp_bytes 0 440 tf)] := hD
                  refine lv_goto (tgt := 170) hx hb dX4_takeRun_162 (by decide) ?_
                  have hP9 := hP.sub (ws' := [(wO4 rd tp n rd_kindWords ww fk fp x_60398 2 tpl x_60401), (wO8 tp tp_bytes tl), (wI g tp_bytes 0 440 tf)]) [0, 1, 2] rfl
                  have hD9 := hD.sub (ws' := [(wO4 rd tp n rd_kindWords ww fk fp x_60398 2 tpl x_60401), (wO8 tp tp_bytes tl), (wI g tp_bytes 0 440 tf)]) [0, 1, 2] (by decide) rfl
                  exact W.vret hx hb hr (fun t ht hW => ⟨⟨(), rfl, trivial, x_60398, 2, x_60401, (tr_w h_60404 (by decide) (by decide)), (⟨by decide, by decide⟩ : 0 ≤ (2 : Int32).toInt ∧ (2 : Int32).toInt ≤ 4), (RNI.number hr60402_0 hst (by (first | (clear h_fk h_fp h_nx h_tk h_tpl htv h_x_60399 h_x_60400 hw_60421 c_60422_i h_60424 hw_60442 c_60443_i h_60444 c_60446_i h_60447 c_60449_i h_60451 c_60452_i h_60454; omega) | omega)) (by (first | (clear h_fk h_fp h_nx h_tk h_tpl htv h_x_60399 h_x_60400 hw_60421 c_60422_i h_60424 hw_60442 c_60443_i h_60444 c_60446_i h_60447 c_60449_i h_60451 c_60452_i h_60454; omega) | omega)) (by decide)), by rw [ht]; exact hP9, hD9⟩, hS.F ht⟩) hS.2.2 dX4_takeRun_170
            · skip
              have c_60446_i : (x_60400 : Int32).toInt = (0 : Int32).toInt := congrArg Int32.toInt c_60446
              have h_60448 : 0 ≤ (x_60400 : Int32).toInt ∧ (x_60400 : Int32).toInt ≤ 0 := nr_eq_l h_x_60400 (⟨by decide, by decide⟩ : 0 ≤ (0 : Int32).toInt ∧ (0 : Int32).toInt ≤ 0) c_60446_i (by decide) (by decide)
              refine lv_iload_n hx hb dX4_takeRun_134 rfl (lv_at hl 1 rfl) ?_
              refine lv_bipush (v := 6) hx hb dX4_takeRun_135 (by decide) ?_
              refine lv_icmp_gt (tgt := 148) hx hb dX4_takeRun_137 (by decide) (fun c_60455 => ?_) (fun c_60455 => ?_)
              · skip
                have kk_6 := tk_6
                have c_60455_i := Int32.lt_iff_toInt_lt.mp c_60455
                have h_60456 : 7 ≤ (x_60399 : Int32).toInt ∧ (x_60399 : Int32).toInt ≤ 440 := nr_lt_r (⟨by decide, by decide⟩ : 6 ≤ (6 : Int32).toInt ∧ (6 : Int32).toInt ≤ 6) h_x_60399 c_60455_i (by decide) (by decide)
                refine lv_iload_n hx hb dX4_takeRun_148 rfl (lv_at hl 1 rfl) ?_
                refine lv_if_ne (tgt := 165) hx hb dX4_takeRun_149 (by decide) (fun c_60458 => ?_) (fun h9 => (nr_x_eq h_60456 (⟨by decide, by decide⟩ : 0 ≤ (0 : Int32).toInt ∧ (0 : Int32).toInt ≤ 0) (congrArg Int32.toInt h9) (by decide)).elim)
                have c_60458_i : ¬ (x_60399 : Int32).toInt = (0 : Int32).toInt := (fun q => c_60458 (Int32.toInt_inj.mp q))
                refine lv_aload_n hx hb dX4_takeRun_165 rfl (lv_at hl 2 rfl) ?_
                refine lv_iconst (v := 4) hx hb dX4_takeRun_166 (by decide) ?_
                refine va_put (D := D) (ci := 4) (v := .int 4) (ty := .int) (C := RX4) (T := TX4) (N := 10) hx hb hts inlX4 tyX4 tyX4_ok nmX4 hown hK hP hD hS 0 rfl rfl 7 (by decide) (hts (Cond.fieldLink RX4 67 "ChanceRings$Reader" "token" "I") qw_369) (fun _ h9 => h9) rfl (by decide +kernel) rfl rfl (Nat.le_of_ble_eq_true rfl) dX4_takeRun_167 (fun H locs hP hD hS => ?_)
                have hP : va_P D vwCl [(wO4 rd tp n rd_kindWords ww fk fp x_60398 4 tpl x_60401), (wO8 tp tp_bytes tl), (wI g tp_bytes 0 440 tf)] H := hP
                have hD : va_D A [(wO4 rd tp n rd_kindWords ww fk fp x_60398 4 tpl x_60401), (wO8 tp tp_bytes tl), (wI g tp_bytes 0 440 tf)] := hD
                have hP9 := hP.sub (ws' := [(wO4 rd tp n rd_kindWords ww fk fp x_60398 4 tpl x_60401), (wO8 tp tp_bytes tl), (wI g tp_bytes 0 440 tf)]) [0, 1, 2] rfl
                have hD9 := hD.sub (ws' := [(wO4 rd tp n rd_kindWords ww fk fp x_60398 4 tpl x_60401), (wO8 tp tp_bytes tl), (wI g tp_bytes 0 440 tf)]) [0, 1, 2] (by decide) rfl
                exact W.vret hx hb hr (fun t ht hW => ⟨⟨(), rfl, trivial, x_60398, 4, x_60401, (tr_w h_60404 (by decide) (by decide)), (⟨by decide, by decide⟩ : 0 ≤ (4 : Int32).toInt ∧ (4 : Int32).toInt ≤ 4), (RNI.wrong hr60402_0 hst (by (first | (clear h_fk h_fp h_nx h_tk h_tpl htv h_x_60399 h_x_60400 hw_60421 c_60422_i h_60424 hw_60442 c_60443_i h_60444 c_60446_i h_60448 c_60455_i h_60456 c_60458_i; omega) | omega)) (by (first | (clear h_fk h_fp h_nx h_tk h_tpl htv h_x_60399 h_x_60400 hw_60421 c_60422_i h_60424 hw_60442 c_60443_i h_60444 c_60446_i h_60448 c_60455_i h_60456 c_60458_i; omega) | omega)) (by decide)), by rw [ht]; exact hP9, hD9⟩, hS.F ht⟩) hS.2.2 dX4_takeRun_170
              · skip
                have kk_6 := tk_6
                have c_60455_i := Int32.le_iff_toInt_le.mp (Int32.not_lt.mp c_60455)
                have h_60457 : 0 ≤ (x_60399 : Int32).toInt ∧ (x_60399 : Int32).toInt ≤ 6 := nr_le_l h_x_60399 (⟨by decide, by decide⟩ : 6 ≤ (6 : Int32).toInt ∧ (6 : Int32).toInt ≤ 6) c_60455_i (by decide) (by decide)
                refine lv_aload_n hx hb dX4_takeRun_140 rfl (lv_at hl 2 rfl) ?_
                refine lv_iconst (v := 1) hx hb dX4_takeRun_141 (by decide) ?_
                refine va_put (D := D) (ci := 4) (v := .int 1) (ty := .int) (C := RX4) (T := TX4) (N := 10) hx hb hts inlX4 tyX4 tyX4_ok nmX4 hown hK hP hD hS 0 rfl rfl 7 (by decide) (hts (Cond.fieldLink RX4 67 "ChanceRings$Reader" "token" "I") qw_369) (fun _ h9 => h9) rfl (by decide +kernel) rfl rfl (Nat.le_of_ble_eq_true rfl) dX4_takeRun_142 (fun H locs hP hD hS => ?_)
                have hP : va_P D vwCl [(wO4 rd tp n rd_kindWords ww fk fp x_60398 1 tpl x_60401), (wO8 tp tp_bytes tl), (wI g tp_bytes 0 440 tf)] H := hP
                have hD : va_D A [(wO4 rd tp n rd_kindWords ww fk fp x_60398 1 tpl x_60401), (wO8 tp tp_bytes tl), (wI g tp_bytes 0 440 tf)] := hD
                refine lv_goto (tgt := 170) hx hb dX4_takeRun_145 (by decide) ?_
                have hP9 := hP.sub (ws' := [(wO4 rd tp n rd_kindWords ww fk fp x_60398 1 tpl x_60401), (wO8 tp tp_bytes tl), (wI g tp_bytes 0 440 tf)]) [0, 1, 2] rfl
                have hD9 := hD.sub (ws' := [(wO4 rd tp n rd_kindWords ww fk fp x_60398 1 tpl x_60401), (wO8 tp tp_bytes tl), (wI g tp_bytes 0 440 tf)]) [0, 1, 2] (by decide) rfl
                exact W.vret hx hb hr (fun t ht hW => ⟨⟨(), rfl, trivial, x_60398, 1, x_60401, (tr_w h_60404 (by decide) (by decide)), (⟨by decide, by decide⟩ : 0 ≤ (1 : Int32).toInt ∧ (1 : Int32).toInt ≤ 4), (RNI.word hr60402_0 hst (by (first | (clear h_fk h_fp h_nx h_tk h_tpl htv h_x_60399 h_x_60400 hw_60421 c_60422_i h_60424 hw_60442 c_60443_i h_60444 c_60446_i h_60448 c_60455_i h_60457; omega) | omega)) (by (first | (clear h_fk h_fp h_nx h_tk h_tpl htv h_x_60399 h_x_60400 hw_60421 c_60422_i h_60424 hw_60442 c_60443_i h_60444 c_60446_i h_60448 c_60455_i h_60457; omega) | omega)) (by decide)), by rw [ht]; exact hP9, hD9⟩, hS.F ht⟩) hS.2.2 dX4_takeRun_170
          · skip
            have c_60443_i : ¬ (r_60441 : Int32).toInt = (0 : Int32).toInt := (fun q => c_60443 (Int32.toInt_inj.mp q))
            have hw_60442_p0_u := (hw_60442_p0).get (fun q => c_60443_i (q.trans tk_0.symm))
            have h_60445 : 1 ≤ (r_60441 : Int32).toInt ∧ (r_60441 : Int32).toInt ≤ 1 := nr_ne_l hw_60442 (⟨by decide, by decide⟩ : 0 ≤ (0 : Int32).toInt ∧ (0 : Int32).toInt ≤ 0) c_60443_i (by decide) (by decide)
            refine lv_aload_n hx hb dX4_takeRun_54 rfl (lv_at hl 2 rfl) ?_
            refine va_get (D := D) (ci := 4) (v := .ref tp) (C := RX4) (T := TX4) (N := 10) hx hb hts inlX4 hown hK hP 0 rfl rfl 0 (by decide) (hts (Cond.fieldLink RX4 9 "ChanceRings$Reader" "tape" "LChanceRings$Tape;") qw_367) (fun _ h9 => h9) rfl dX4_takeRun_55 ?_
            refine va_get (D := D) (ci := 8) (v := .ref tp_bytes) (C := RX8) (T := TX8) (N := 2) hx hb hts inlX8 hown hK hP 1 rfl rfl 0 (by decide) (hts (Cond.fieldLink RX4 136 "ChanceRings$Tape" "bytes" "[I") qw_370) (fun _ h9 => h9) rfl dX4_takeRun_58 ?_
            refine lv_aload_n hx hb dX4_takeRun_61 rfl (lv_at hl 2 rfl) ?_
            refine va_get (D := D) (ci := 4) (v := .int x_60398) (C := RX4) (T := TX4) (N := 10) hx hb hts inlX4 hown hK hP 0 rfl rfl 6 (by decide) (hts (Cond.fieldLink RX4 61 "ChanceRings$Reader" "next" "I") qw_366) (fun _ h9 => h9) rfl dX4_takeRun_62 ?_
            refine va_iald hx hb hK hP 2 0 rfl rfl (tr_in h_60404 (by decide) (by decide)) dX4_takeRun_65 ?_
            refine tz_i (y := v_60419) ((congrArg tf rfl).trans g_v_60419.symm) ?_
            refine lv_istore_n (lv' := [(3, .int v_60419), (2, .int x_60400), (1, .int x_60399), (0, .ref rd)]) hx hb dX4_takeRun_66 rfl hl (by decide) rfl (fun ls hl => ?_)
            refine lv_iload_n hx hb dX4_takeRun_67 rfl (lv_at hl 0 rfl) ?_
            have hPc := hP.sub (ws' := []) [] rfl
            refine vp_callSi (va_Run.run (va_runS (As := [.int v_60419]) (rest := []) ⟨hx, hb, hml, hown, hts⟩ (c_X4_isLetter l D g v_60419) (va_cwS 1 hts (tz_gS qw_371 qw_372 qw_364 qw_373) rfl rfl rfl (by decide +kernel) ⟨Nat.le_of_ble_eq_true rfl, Nat.le_of_ble_eq_true rfl⟩) ⟨tz_blS, tz_preS hPc hK⟩ rfl rfl hl.1 rfl (lv_room (Nat.le_of_ble_eq_true rfl)) dX4_takeRun_68 ⟨Nat.le_of_ble_eq_true rfl, Nat.le_of_ble_eq_true rfl⟩)) (fun r_60459 hw => ?_)
            have hw_60460 : 0 ≤ (r_60459 : Int32).toInt ∧ (r_60459 : Int32).toInt ≤ 1 := hw.1
            have hw_60460_p0 : Hide (¬ (r_60459 : Int32).toInt = 0 → 97 ≤ (v_60419 : Int32).toInt ∧ (v_60419 : Int32).toInt ≤ 122) := hw.2.1
            have hw_60460_p1 : Hide ((r_60459 : Int32).toInt = 0 → (v_60419 : Int32).toInt < 97 ∨ 122 < (v_60419 : Int32).toInt) := hw.2.2
            refine lv_if_eq (tgt := 98) hx hb dX4_takeRun_71 (by decide) (fun c_60461 => ?_) (fun c_60461 => ?_)
            · skip
              have c_60461_i : (r_60459 : Int32).toInt = (0 : Int32).toInt := congrArg Int32.toInt c_60461
              have hw_60460_p1_u := (hw_60460_p1).get (c_60461_i.trans tk_0)
              have h_60462 : 0 ≤ (r_60459 : Int32).toInt ∧ (r_60459 : Int32).toInt ≤ 0 := nr_eq_l hw_60460 (⟨by decide, by decide⟩ : 0 ≤ (0 : Int32).toInt ∧ (0 : Int32).toInt ≤ 0) c_60461_i (by decide) (by decide)
              obtain ⟨v_60464, v_60464_e⟩ : ∃ y : Int32, y = x_60400 + Int32.ofInt 1 := ⟨_, rfl⟩
              have h_v_60464 : 1 ≤ (v_60464 : Int32).toInt ∧ (v_60464 : Int32).toInt ≤ 441 := by rw [v_60464_e]; exact tr_add h_x_60400 (⟨by decide, by decide⟩ : 1 ≤ (Int32.ofInt 1 : Int32).toInt ∧ (Int32.ofInt 1 : Int32).toInt ≤ 1) (by decide) (by decide) (by decide) (by decide)
              have q_v_60464 : v_60464.toInt = x_60400.toInt + 1 := by rw [v_60464_e]; exact tr_addE h_x_60400 (⟨by decide, by decide⟩ : 1 ≤ (Int32.ofInt 1 : Int32).toInt ∧ (Int32.ofInt 1 : Int32).toInt ≤ 1) (by decide) (by decide)
              refine lv_iinc (v := v_60464) (lv' := [(2, .int v_60464), (3, .int v_60419), (1, .int x_60399), (0, .ref rd)]) hx hb dX4_takeRun_98 hl (k := 1) rfl v_60464_e.symm (by decide) rfl (fun ls hl => ?_)
              refine lv_aload_n hx hb dX4_takeRun_101 rfl (lv_at hl 3 rfl) ?_
              refine lv_aload_n hx hb dX4_takeRun_102 rfl (lv_at hl 3 rfl) ?_
              refine va_get (D := D) (ci := 4) (v := .int x_60401) (C := RX4) (T := TX4) (N := 10) hx hb hts inlX4 hown hK hP 0 rfl rfl 9 (by decide) (hts (Cond.fieldLink RX4 86 "ChanceRings$Reader" "tokenValue" "I") qw_374) (fun _ h9 => h9) rfl dX4_takeRun_103 ?_
              refine lv_bipush (v := 10) hx hb dX4_takeRun_106 (by decide) ?_
              refine lv_imul hx hb dX4_takeRun_108 ?_
              refine lv_topi (fun v_60465 v_60465_e => ?_)
              refine lv_iload_n hx hb dX4_takeRun_109 rfl (lv_at hl 1 rfl) ?_
              refine lv_bipush (v := 48) hx hb dX4_takeRun_110 (by decide) ?_
              refine lv_isub hx hb dX4_takeRun_112 ?_
              refine lv_topi (fun v_60466 v_60466_e => ?_)
              have h_v_60466 : (-48) ≤ (v_60466 : Int32).toInt ∧ (v_60466 : Int32).toInt ≤ 207 := by rw [v_60466_e]; exact tr_sub h_v_60419 (⟨by decide, by decide⟩ : 48 ≤ (48 : Int32).toInt ∧ (48 : Int32).toInt ≤ 48) (by decide) (by decide) (by decide) (by decide)
              have q_v_60466 : v_60466.toInt = v_60419.toInt - 48 := by rw [v_60466_e]; exact tr_subE h_v_60419 (⟨by decide, by decide⟩ : 48 ≤ (48 : Int32).toInt ∧ (48 : Int32).toInt ≤ 48) (by decide) (by decide)
              refine lv_iadd hx hb dX4_takeRun_113 ?_
              refine lv_topi (fun v_60467 v_60467_e => ?_)
              refine va_put (D := D) (ci := 4) (v := .int v_60467) (ty := .int) (C := RX4) (T := TX4) (N := 10) hx hb hts inlX4 tyX4 tyX4_ok nmX4 hown hK hP hD hS 0 rfl rfl 9 (by decide) (hts (Cond.fieldLink RX4 86 "ChanceRings$Reader" "tokenValue" "I") qw_374) (fun _ h9 => h9) rfl (by decide +kernel) rfl rfl (Nat.le_of_ble_eq_true rfl) dX4_takeRun_114 (fun H locs hP hD hS => ?_)
              have hP : va_P D vwCl [(wO4 rd tp n rd_kindWords ww fk fp x_60398 tk tpl v_60467), (wO8 tp tp_bytes tl), (wI g tp_bytes 0 440 tf)] H := hP
              have hD : va_D A [(wO4 rd tp n rd_kindWords ww fk fp x_60398 tk tpl v_60467), (wO8 tp tp_bytes tl), (wI g tp_bytes 0 440 tf)] := hD
              refine lv_aload_n hx hb dX4_takeRun_117 rfl (lv_at hl 3 rfl) ?_
              refine lv_dup hx hb dX4_takeRun_118 rfl ?_
              refine va_get (D := D) (ci := 4) (v := .int x_60398) (C := RX4) (T := TX4) (N := 10) hx hb hts inlX4 hown hK hP 0 rfl rfl 6 (by decide) (hts (Cond.fieldLink RX4 61 "ChanceRings$Reader" "next" "I") qw_366) (fun _ h9 => h9) rfl dX4_takeRun_119 ?_
              refine lv_iconst (v := 1) hx hb dX4_takeRun_122 (by decide) ?_
              refine lv_iadd hx hb dX4_takeRun_123 ?_
              refine lv_topi (fun v_60468 v_60468_e => ?_)
              have h_v_60468 : 1 ≤ (v_60468 : Int32).toInt ∧ (v_60468 : Int32).toInt ≤ 440 := by rw [v_60468_e]; exact tr_add h_60404 (⟨by decide, by decide⟩ : 1 ≤ (1 : Int32).toInt ∧ (1 : Int32).toInt ≤ 1) (by decide) (by decide) (by decide) (by decide)
              have q_v_60468 : v_60468.toInt = x_60398.toInt + 1 := by rw [v_60468_e]; exact tr_addE h_60404 (⟨by decide, by decide⟩ : 1 ≤ (1 : Int32).toInt ∧ (1 : Int32).toInt ≤ 1) (by decide) (by decide)
              refine va_put (D := D) (ci := 4) (v := .int v_60468) (ty := .int) (C := RX4) (T := TX4) (N := 10) hx hb hts inlX4 tyX4 tyX4_ok nmX4 hown hK hP hD hS 0 rfl rfl 6 (by decide) (hts (Cond.fieldLink RX4 61 "ChanceRings$Reader" "next" "I") qw_366) (fun _ h9 => h9) rfl (by decide +kernel) rfl rfl (Nat.le_of_ble_eq_true rfl) dX4_takeRun_124 (fun H locs hP hD hS => ?_)
              have hP : va_P D vwCl [(wO4 rd tp n rd_kindWords ww fk fp v_60468 tk tpl v_60467), (wO8 tp tp_bytes tl), (wI g tp_bytes 0 440 tf)] H := hP
              have hD : va_D A [(wO4 rd tp n rd_kindWords ww fk fp v_60468 tk tpl v_60467), (wO8 tp tp_bytes tl), (wI g tp_bytes 0 440 tf)] := hD
              refine lv_goto (tgt := 4) hx hb dX4_takeRun_127 (by decide) ?_
              exact ih_60402 v_60468 x_60399 v_60464 v_60467 H _ ls (tr_w h_v_60468 (by decide) (by decide)) (tr_w h_x_60399 (by decide) (by decide)) (by (first | (clear h_fk h_fp h_nx h_tk h_tpl htv hw_60421 c_60422_i h_60424 hw_60442 c_60443_i h_60445 hw_60460 c_60461_i h_60462; omega) | omega)) (RNI.digit hr60402_0 (by (first | (clear h_fk h_fp h_nx h_tk h_tpl htv hw_60421 c_60422_i h_60424 hw_60442 c_60443_i h_60445 hw_60460 c_60461_i h_60462; omega) | omega)) (by rw [gb_v_60419]; unfold dgt; (first | (clear h_fk h_fp h_nx h_tk h_tpl htv hw_60421 c_60422_i h_60424 hw_60442 c_60443_i h_60445 hw_60460 c_60461_i h_60462; omega) | omega)) (by (first | (clear h_fk h_fp h_nx h_tk h_tpl htv hw_60421 c_60422_i h_60424 hw_60442 c_60443_i h_60445 hw_60460 c_60461_i h_60462; omega) | omega)) (fun q9 q8 => by rw [gb_v_60419]; have b9 := RNI.bd2 hr60402_0 q9 (by (first | (clear h_fk h_fp h_nx h_tk h_tpl htv hw_60421 c_60422_i h_60424 hw_60442 c_60443_i h_60445 hw_60460 c_60461_i h_60462; omega) | omega)); have b8 := tv10 v_60465_e v_60467_e b9.1 (by (first | (clear h_fk h_fp h_nx h_tk h_tpl htv hw_60421 c_60422_i h_60424 hw_60442 c_60443_i h_60445 hw_60460 c_60461_i h_60462; omega) | omega)) (by (first | (clear h_fk h_fp h_nx h_tk h_tpl htv hw_60421 c_60422_i h_60424 hw_60442 c_60443_i h_60445 hw_60460 c_60461_i h_60462; omega) | omega)) (by (first | (clear h_fk h_fp h_nx h_tk h_tpl htv hw_60421 c_60422_i h_60424 hw_60442 c_60443_i h_60445 hw_60460 c_60461_i h_60462; omega) | omega)); (first | (clear h_fk h_fp h_nx h_tk h_tpl htv hw_60421 c_60422_i h_60424 hw_60442 c_60443_i h_60445 hw_60460 c_60461_i h_60462; omega) | omega))) (by (first | (clear h_fk h_fp h_nx h_tk h_tpl htv hw_60421 c_60422_i h_60424 hw_60442 c_60443_i h_60445 hw_60460 c_60461_i h_60462; omega) | omega)) (hP.sub [0, 1, 2] rfl) (hD.sub [0, 1, 2] (by decide) rfl) hS (lv_sub hl [0, 2, 3] rfl)
            · skip
              have c_60461_i : ¬ (r_60459 : Int32).toInt = (0 : Int32).toInt := (fun q => c_60461 (Int32.toInt_inj.mp q))
              have hw_60460_p0_u := (hw_60460_p0).get (fun q => c_60461_i (q.trans tk_0.symm))
              have h_60463 : 1 ≤ (r_60459 : Int32).toInt ∧ (r_60459 : Int32).toInt ≤ 1 := nr_ne_l hw_60460 (⟨by decide, by decide⟩ : 0 ≤ (0 : Int32).toInt ∧ (0 : Int32).toInt ≤ 0) c_60461_i (by decide) (by decide)
              obtain ⟨v_60469, v_60469_e⟩ : ∃ y : Int32, y = x_60399 + Int32.ofInt 1 := ⟨_, rfl⟩
              have h_v_60469 : 1 ≤ (v_60469 : Int32).toInt ∧ (v_60469 : Int32).toInt ≤ 441 := by rw [v_60469_e]; exact tr_add h_x_60399 (⟨by decide, by decide⟩ : 1 ≤ (Int32.ofInt 1 : Int32).toInt ∧ (Int32.ofInt 1 : Int32).toInt ≤ 1) (by decide) (by decide) (by decide) (by decide)
              have q_v_60469 : v_60469.toInt = x_60399.toInt + 1 := by rw [v_60469_e]; exact tr_addE h_x_60399 (⟨by decide, by decide⟩ : 1 ≤ (Int32.ofInt 1 : Int32).toInt ∧ (Int32.ofInt 1 : Int32).toInt ≤ 1) (by decide) (by decide)
              refine lv_iinc (v := v_60469) (lv' := [(1, .int v_60469), (3, .int v_60419), (2, .int x_60400), (0, .ref rd)]) hx hb dX4_takeRun_74 hl (k := 2) rfl v_60469_e.symm (by decide) rfl (fun ls hl => ?_)
              refine lv_aload_n hx hb dX4_takeRun_77 rfl (lv_at hl 3 rfl) ?_
              refine lv_aload_n hx hb dX4_takeRun_78 rfl (lv_at hl 3 rfl) ?_
              refine va_get (D := D) (ci := 4) (v := .int x_60401) (C := RX4) (T := TX4) (N := 10) hx hb hts inlX4 hown hK hP 0 rfl rfl 9 (by decide) (hts (Cond.fieldLink RX4 86 "ChanceRings$Reader" "tokenValue" "I") qw_374) (fun _ h9 => h9) rfl dX4_takeRun_79 ?_
              refine lv_bipush (v := 27) hx hb dX4_takeRun_82 (by decide) ?_
              refine lv_imul hx hb dX4_takeRun_84 ?_
              refine lv_topi (fun v_60470 v_60470_e => ?_)
              refine lv_iload_n hx hb dX4_takeRun_85 rfl (lv_at hl 1 rfl) ?_
              refine lv_bipush (v := 97) hx hb dX4_takeRun_86 (by decide) ?_
              refine lv_isub hx hb dX4_takeRun_88 ?_
              refine lv_topi (fun v_60471 v_60471_e => ?_)
              have h_v_60471 : (-97) ≤ (v_60471 : Int32).toInt ∧ (v_60471 : Int32).toInt ≤ 158 := by rw [v_60471_e]; exact tr_sub h_v_60419 (⟨by decide, by decide⟩ : 97 ≤ (97 : Int32).toInt ∧ (97 : Int32).toInt ≤ 97) (by decide) (by decide) (by decide) (by decide)
              have q_v_60471 : v_60471.toInt = v_60419.toInt - 97 := by rw [v_60471_e]; exact tr_subE h_v_60419 (⟨by decide, by decide⟩ : 97 ≤ (97 : Int32).toInt ∧ (97 : Int32).toInt ≤ 97) (by decide) (by decide)
              refine lv_iconst (v := 1) hx hb dX4_takeRun_89 (by decide) ?_
              refine lv_iadd hx hb dX4_takeRun_90 ?_
              refine lv_topi (fun v_60472 v_60472_e => ?_)
              have h_v_60472 : (-96) ≤ (v_60472 : Int32).toInt ∧ (v_60472 : Int32).toInt ≤ 159 := by rw [v_60472_e]; exact tr_add h_v_60471 (⟨by decide, by decide⟩ : 1 ≤ (1 : Int32).toInt ∧ (1 : Int32).toInt ≤ 1) (by decide) (by decide) (by decide) (by decide)
              have q_v_60472 : v_60472.toInt = v_60471.toInt + 1 := by rw [v_60472_e]; exact tr_addE h_v_60471 (⟨by decide, by decide⟩ : 1 ≤ (1 : Int32).toInt ∧ (1 : Int32).toInt ≤ 1) (by decide) (by decide)
              refine lv_iadd hx hb dX4_takeRun_91 ?_
              refine lv_topi (fun v_60473 v_60473_e => ?_)
              refine va_put (D := D) (ci := 4) (v := .int v_60473) (ty := .int) (C := RX4) (T := TX4) (N := 10) hx hb hts inlX4 tyX4 tyX4_ok nmX4 hown hK hP hD hS 0 rfl rfl 9 (by decide) (hts (Cond.fieldLink RX4 86 "ChanceRings$Reader" "tokenValue" "I") qw_374) (fun _ h9 => h9) rfl (by decide +kernel) rfl rfl (Nat.le_of_ble_eq_true rfl) dX4_takeRun_92 (fun H locs hP hD hS => ?_)
              have hP : va_P D vwCl [(wO4 rd tp n rd_kindWords ww fk fp x_60398 tk tpl v_60473), (wO8 tp tp_bytes tl), (wI g tp_bytes 0 440 tf)] H := hP
              have hD : va_D A [(wO4 rd tp n rd_kindWords ww fk fp x_60398 tk tpl v_60473), (wO8 tp tp_bytes tl), (wI g tp_bytes 0 440 tf)] := hD
              refine lv_goto (tgt := 117) hx hb dX4_takeRun_95 (by decide) ?_
              refine lv_aload_n hx hb dX4_takeRun_117 rfl (lv_at hl 3 rfl) ?_
              refine lv_dup hx hb dX4_takeRun_118 rfl ?_
              refine va_get (D := D) (ci := 4) (v := .int x_60398) (C := RX4) (T := TX4) (N := 10) hx hb hts inlX4 hown hK hP 0 rfl rfl 6 (by decide) (hts (Cond.fieldLink RX4 61 "ChanceRings$Reader" "next" "I") qw_366) (fun _ h9 => h9) rfl dX4_takeRun_119 ?_
              refine lv_iconst (v := 1) hx hb dX4_takeRun_122 (by decide) ?_
              refine lv_iadd hx hb dX4_takeRun_123 ?_
              refine lv_topi (fun v_60474 v_60474_e => ?_)
              have h_v_60474 : 1 ≤ (v_60474 : Int32).toInt ∧ (v_60474 : Int32).toInt ≤ 440 := by rw [v_60474_e]; exact tr_add h_60404 (⟨by decide, by decide⟩ : 1 ≤ (1 : Int32).toInt ∧ (1 : Int32).toInt ≤ 1) (by decide) (by decide) (by decide) (by decide)
              have q_v_60474 : v_60474.toInt = x_60398.toInt + 1 := by rw [v_60474_e]; exact tr_addE h_60404 (⟨by decide, by decide⟩ : 1 ≤ (1 : Int32).toInt ∧ (1 : Int32).toInt ≤ 1) (by decide) (by decide)
              refine va_put (D := D) (ci := 4) (v := .int v_60474) (ty := .int) (C := RX4) (T := TX4) (N := 10) hx hb hts inlX4 tyX4 tyX4_ok nmX4 hown hK hP hD hS 0 rfl rfl 6 (by decide) (hts (Cond.fieldLink RX4 61 "ChanceRings$Reader" "next" "I") qw_366) (fun _ h9 => h9) rfl (by decide +kernel) rfl rfl (Nat.le_of_ble_eq_true rfl) dX4_takeRun_124 (fun H locs hP hD hS => ?_)
              have hP : va_P D vwCl [(wO4 rd tp n rd_kindWords ww fk fp v_60474 tk tpl v_60473), (wO8 tp tp_bytes tl), (wI g tp_bytes 0 440 tf)] H := hP
              have hD : va_D A [(wO4 rd tp n rd_kindWords ww fk fp v_60474 tk tpl v_60473), (wO8 tp tp_bytes tl), (wI g tp_bytes 0 440 tf)] := hD
              refine lv_goto (tgt := 4) hx hb dX4_takeRun_127 (by decide) ?_
              exact ih_60402 v_60474 v_60469 x_60400 v_60473 H _ ls (tr_w h_v_60474 (by decide) (by decide)) (by (first | (clear h_fk h_fp h_nx h_tk h_tpl htv hw_60421 c_60422_i h_60424 hw_60442 c_60443_i h_60445 hw_60460 c_60461_i h_60463; omega) | omega)) (tr_w h_x_60400 (by decide) (by decide)) (RNI.letter hr60402_0 (by (first | (clear h_fk h_fp h_nx h_tk h_tpl htv hw_60421 c_60422_i h_60424 hw_60442 c_60443_i h_60445 hw_60460 c_60461_i h_60463; omega) | omega)) (by rw [gb_v_60419]; unfold ltr; (first | (clear h_fk h_fp h_nx h_tk h_tpl htv hw_60421 c_60422_i h_60424 hw_60442 c_60443_i h_60445 hw_60460 c_60461_i h_60463; omega) | omega)) (by (first | (clear h_fk h_fp h_nx h_tk h_tpl htv hw_60421 c_60422_i h_60424 hw_60442 c_60443_i h_60445 hw_60460 c_60461_i h_60463; omega) | omega)) (fun q9 q8 => by rw [gb_v_60419]; have b9 := RNI.bd hr60402_0 q9 (by (first | (clear h_fk h_fp h_nx h_tk h_tpl htv hw_60421 c_60422_i h_60424 hw_60442 c_60443_i h_60445 hw_60460 c_60461_i h_60463; omega) | omega)); have b8 := tv27 v_60470_e v_60473_e b9.1 b9.2 (by (first | (clear h_fk h_fp h_nx h_tk h_tpl htv hw_60421 c_60422_i h_60424 hw_60442 c_60443_i h_60445 hw_60460 c_60461_i h_60463; omega) | omega)) (by (first | (clear h_fk h_fp h_nx h_tk h_tpl htv hw_60421 c_60422_i h_60424 hw_60442 c_60443_i h_60445 hw_60460 c_60461_i h_60463; omega) | omega)); (first | (clear h_fk h_fp h_nx h_tk h_tpl htv hw_60421 c_60422_i h_60424 hw_60442 c_60443_i h_60445 hw_60460 c_60461_i h_60463; omega) | omega))) (by (first | (clear h_fk h_fp h_nx h_tk h_tpl htv hw_60421 c_60422_i h_60424 hw_60442 c_60443_i h_60445 hw_60460 c_60461_i h_60463; omega) | omega)) (hP.sub [0, 1, 2] rfl) (hD.sub [0, 1, 2] (by decide) rfl) hS (lv_sub hl [2, 0, 3] rfl)
  exact lp_60402 441 nx 0 0 tv s.heap _ ls (tr_w h_nx (by decide) (by decide)) (⟨by decide, by decide⟩ : 0 ≤ (0 : Int32).toInt ∧ (0 : Int32).toInt ≤ 440) (⟨by decide, by decide⟩ : 0 ≤ (0 : Int32).toInt ∧ (0 : Int32).toInt ≤ 440) (RNI.zero rfl rfl rfl htv) (by (first | (clear h_fk h_fp h_tk h_tpl h_tl; omega) | omega)) (hP.sub [0, 1, 2] rfl) (hD.sub [0, 1, 2] (by decide) rfl) hS (lv_sub hl [0, 1, 2] rfl)
set_option maxHeartbeats 4000000 in
set_option maxRecDepth 100000 in
theorem c_X4_advance (l : Launch) (D : va_G) (g : Nat → ClassId) (sz : Nat) (rd : Nat) (tp : Nat) (n : Nat) (rd_kindWords : Nat) (ww : Int32) (fk : Int32) (fp : Int32) (nx : Int32) (tk : Int32) (tpl : Int32) (tv : Int32) (tp_bytes : Nat) (tl : Int32) (tf : Nat → Int32) (h_fk : 0 ≤ (fk : Int32).toInt ∧ (fk : Int32).toInt ≤ 5) (h_fp : 0 ≤ (fp : Int32).toInt ∧ (fp : Int32).toInt ≤ 440) (h_nx : 0 ≤ (nx : Int32).toInt ∧ (nx : Int32).toInt ≤ 440) (h_tk : 0 ≤ (tk : Int32).toInt ∧ (tk : Int32).toInt ≤ 4) (h_tpl : 0 ≤ (tpl : Int32).toInt ∧ (tpl : Int32).toInt ≤ 440) (h_tl : 0 ≤ (tl : Int32).toInt ∧ (tl : Int32).toInt ≤ 440) (h_tf : ∀ j : Nat, 0 ≤ (tf j).toInt ∧ (tf j).toInt ≤ 255) : Met l yX4_advance (.code yX4_advance cX4_advance 1 none :: wsL_law) ({ frames := 2, cells := 0, slots := 0, locals := 43 }) (va_Pc [.ref rd] (fun U => U.heap.size = sz ∧ va_P D vwCl [(wO4 rd tp n rd_kindWords ww fk fp nx tk tpl tv), (wO8 tp tp_bytes tl), (wI g tp_bytes 0 440 tf)] U.heap ∧ va_K D vwCl (TY g) U ∧ va_D (fun _ => True) [(wO4 rd tp n rd_kindWords ww fk fp nx tk tpl tv), (wO8 tp tp_bytes tl), (wI g tp_bytes 0 440 tf)])) (va_Qv (fun (_ : Unit) => True) (fun _ t => ∃ onx : Int32, ∃ otk : Int32, ∃ otpl : Int32, ∃ otv : Int32, (0 ≤ (onx : Int32).toInt ∧ (onx : Int32).toInt ≤ 440) ∧ (0 ≤ (otk : Int32).toInt ∧ (otk : Int32).toInt ≤ 4) ∧ (0 ≤ (otpl : Int32).toInt ∧ (otpl : Int32).toInt ≤ 440) ∧ (TK (bg tf (tl : Int32).toInt) (nx : Int32).toInt.toNat (otk : Int32).toInt (otpl : Int32).toInt.toNat (onx : Int32).toInt.toNat (otv : Int32).toInt) ∧ va_P D vwCl [(wO4 rd tp n rd_kindWords ww fk fp onx otk otpl otv), (wO8 tp tp_bytes tl), (wI g tp_bytes 0 440 tf)] t.heap ∧ va_D (va_A [(wO4 rd tp n rd_kindWords ww fk fp nx tk tpl tv), (wO8 tp tp_bytes tl), (wI g tp_bytes 0 440 tf)] sz) [(wO4 rd tp n rd_kindWords ww fk fp onx otk otpl otv), (wO8 tp tp_bytes tl), (wI g tp_bytes 0 440 tf)]) (va_A [(wO4 rd tp n rd_kindWords ww fk fp nx tk tpl tv), (wO8 tp tp_bytes tl), (wI g tp_bytes 0 440 tf)] sz)) 0 0 (va_A [(wO4 rd tp n rd_kindWords ww fk fp nx tk tpl tv), (wO8 tp tp_bytes tl), (wI g tp_bytes 0 440 tf)] sz) := by
  refine Met.ofW (cc := cX4_advance) (maxL := 1) (ret := none) (by decide) rfl ?_
  intro p e s m args below meth c s₁ B hml hv
  obtain ⟨ha, hsz, hP, hK, hD0⟩ := hv
  have hx := B.exec
  have hb := B.bytes
  have hr := B.returns
  have hts0 := atoms_spec (ws := (.code yX4_advance cX4_advance 1 none :: wsL_law)) B.pre
  have hts : ∀ w ∈ wsL_law, w.before args s = true := fun w h => hts0 w (List.mem_cons_of_mem _ h)
  have hown : s.vm.findClass RX4 = some m.cls := findClass_of_methodNamed B.named
  have hlocks := B.notSynchronized
  subst hsz
  have hD := hD0.self (sz := s.heap.size)
  generalize hAe : va_A [(wO4 rd tp n rd_kindWords ww fk fp nx tk tpl tv), (wO8 tp tp_bytes tl), (wI g tp_bytes 0 440 tf)] s.heap.size = A at hD ⊢
  have hA : ∀ q : Nat, s.heap.size ≤ q → A q := fun q h => by rw [← hAe]; exact Or.inr h
  have hS : va_S A s.heap s.heap [] := va_S.rf
  have hP : va_P D vwCl [(wO4 rd tp n rd_kindWords ww fk fp nx tk tpl tv), (wO8 tp tp_bytes tl), (wI g tp_bytes 0 440 tf)] s.heap := hP
  refine W.eq (g2 := entryFrame m ([.ref rd] : List Value).toArray 1) (by rw [ha]) ?_
  have hl := lv_entry ([.ref rd]) (n := 1) (Nat.le_of_ble_eq_true rfl)
  rw [lg_entry_eq]
  generalize (lg_sl ([.ref rd]) ++ List.replicate (1 - (lg_sl ([.ref rd])).length) Slot.unset).toArray = ls at hl ⊢
  have hl : lv_has ls 1 [(0, .ref rd)] := hl
  have lp_60545 : ∀ (n_60545 : Nat) (x_60544 : Int32) (H : Heap) (locs : List Loc) (ls : Array Slot), (0 ≤ (x_60544 : Int32).toInt ∧ (x_60544 : Int32).toInt ≤ 440) → (SKI (bg tf (tl : Int32).toInt) (nx : Int32).toInt.toNat x_60544.toInt.toNat) → (440 - x_60544.toInt < (n_60545 : Int)) → va_P D vwCl [(wO4 rd tp n rd_kindWords ww fk fp x_60544 tk tpl tv), (wO8 tp tp_bytes tl), (wI g tp_bytes 0 440 tf)] H → va_D A [(wO4 rd tp n rd_kindWords ww fk fp x_60544 tk tpl tv), (wO8 tp tp_bytes tl), (wI g tp_bytes 0 440 tf)] → va_S A s.heap H locs → lv_has ls 1 [(0, .ref rd)] → W p l e (headSpec (.code yX4_advance cX4_advance 1 none :: wsL_law) ({ frames := 2, cells := 0, slots := 0, locals := 43 })).room s m args below meth c H locs 0 0 (MQ below (va_Qv (fun (_ : Unit) => True) (fun _ t => ∃ onx : Int32, ∃ otk : Int32, ∃ otpl : Int32, ∃ otv : Int32, (0 ≤ (onx : Int32).toInt ∧ (onx : Int32).toInt ≤ 440) ∧ (0 ≤ (otk : Int32).toInt ∧ (otk : Int32).toInt ≤ 4) ∧ (0 ≤ (otpl : Int32).toInt ∧ (otpl : Int32).toInt ≤ 440) ∧ (TK (bg tf (tl : Int32).toInt) (nx : Int32).toInt.toNat (otk : Int32).toInt (otpl : Int32).toInt.toNat (onx : Int32).toInt.toNat (otv : Int32).toInt) ∧ va_P D vwCl [(wO4 rd tp n rd_kindWords ww fk fp onx otk otpl otv), (wO8 tp tp_bytes tl), (wI g tp_bytes 0 440 tf)] t.heap ∧ va_D A [(wO4 rd tp n rd_kindWords ww fk fp onx otk otpl otv), (wO8 tp tp_bytes tl), (wI g tp_bytes 0 440 tf)]) A) args s 0 0 A) (F0 m 0 ls []) := by
    intro n_60545
    induction n_60545 with
    | zero =>
      intro x_60544 H locs ls h_x_60544 hr60545_0 hm_60545 hP hD hS hl
      exfalso; omega
    | succ n_60545 ih_60545 =>
      intro x_60544 H locs ls h_x_60544 hr60545_0 hm_60545 hP hD hS hl
      refine lv_aload_n hx hb dX4_advance_0 rfl (lv_at hl 0 rfl) ?_
      refine va_get (D := D) (ci := 4) (v := .int x_60544) (C := RX4) (T := TX4) (N := 10) hx hb hts inlX4 hown hK hP 0 rfl rfl 6 (by decide) (hts (Cond.fieldLink RX4 61 "ChanceRings$Reader" "next" "I") qw_366) (fun _ h9 => h9) rfl dX4_advance_1 ?_
      refine lv_aload_n hx hb dX4_advance_4 rfl (lv_at hl 0 rfl) ?_
      refine va_get (D := D) (ci := 4) (v := .ref tp) (C := RX4) (T := TX4) (N := 10) hx hb hts inlX4 hown hK hP 0 rfl rfl 0 (by decide) (hts (Cond.fieldLink RX4 9 "ChanceRings$Reader" "tape" "LChanceRings$Tape;") qw_367) (fun _ h9 => h9) rfl dX4_advance_5 ?_
      refine va_get (D := D) (ci := 8) (v := .int tl) (C := RX8) (T := TX8) (N := 2) hx hb hts inlX8 hown hK hP 1 rfl rfl 1 (by decide) (hts (Cond.fieldLink RX4 52 "ChanceRings$Tape" "length" "I") qw_368) (fun _ h9 => h9) rfl dX4_advance_8 ?_
      refine lv_icmp_ge (tgt := 44) hx hb dX4_advance_11 (by decide) (fun c_60546 => ?_) (fun c_60546 => ?_)
      · skip
        have c_60546_i := Int32.le_iff_toInt_le.mp c_60546
        have skp_9 : SKp (bg tf (tl : Int32).toInt) (nx : Int32).toInt.toNat x_60544.toInt.toNat := SKI.fin hr60545_0 (by rw [bg_out (by (first | (clear h_fk h_fp h_tk h_tpl; omega) | omega))]; (first | (clear h_fk h_fp h_tk h_tpl; omega) | omega))
        refine lv_aload_n hx hb dX4_advance_44 rfl (lv_at hl 0 rfl) ?_
        refine lv_aload_n hx hb dX4_advance_45 rfl (lv_at hl 0 rfl) ?_
        refine va_get (D := D) (ci := 4) (v := .int x_60544) (C := RX4) (T := TX4) (N := 10) hx hb hts inlX4 hown hK hP 0 rfl rfl 6 (by decide) (hts (Cond.fieldLink RX4 61 "ChanceRings$Reader" "next" "I") qw_366) (fun _ h9 => h9) rfl dX4_advance_46 ?_
        refine va_put (D := D) (ci := 4) (v := .int x_60544) (ty := .int) (C := RX4) (T := TX4) (N := 10) hx hb hts inlX4 tyX4 tyX4_ok nmX4 hown hK hP hD hS 0 rfl rfl 8 (by decide) (hts (Cond.fieldLink RX4 77 "ChanceRings$Reader" "tokenPlace" "I") qw_360) (fun _ h9 => h9) rfl (by decide +kernel) rfl rfl (Nat.le_of_ble_eq_true rfl) dX4_advance_49 (fun H locs hP hD hS => ?_)
        have hP : va_P D vwCl [(wO4 rd tp n rd_kindWords ww fk fp x_60544 tk x_60544 tv), (wO8 tp tp_bytes tl), (wI g tp_bytes 0 440 tf)] H := hP
        have hD : va_D A [(wO4 rd tp n rd_kindWords ww fk fp x_60544 tk x_60544 tv), (wO8 tp tp_bytes tl), (wI g tp_bytes 0 440 tf)] := hD
        refine lv_aload_n hx hb dX4_advance_52 rfl (lv_at hl 0 rfl) ?_
        refine lv_iconst (v := 0) hx hb dX4_advance_53 (by decide) ?_
        refine va_put (D := D) (ci := 4) (v := .int 0) (ty := .int) (C := RX4) (T := TX4) (N := 10) hx hb hts inlX4 tyX4 tyX4_ok nmX4 hown hK hP hD hS 0 rfl rfl 9 (by decide) (hts (Cond.fieldLink RX4 86 "ChanceRings$Reader" "tokenValue" "I") qw_374) (fun _ h9 => h9) rfl (by decide +kernel) rfl rfl (Nat.le_of_ble_eq_true rfl) dX4_advance_54 (fun H locs hP hD hS => ?_)
        have hP : va_P D vwCl [(wO4 rd tp n rd_kindWords ww fk fp x_60544 tk x_60544 0), (wO8 tp tp_bytes tl), (wI g tp_bytes 0 440 tf)] H := hP
        have hD : va_D A [(wO4 rd tp n rd_kindWords ww fk fp x_60544 tk x_60544 0), (wO8 tp tp_bytes tl), (wI g tp_bytes 0 440 tf)] := hD
        refine lv_aload_n hx hb dX4_advance_57 rfl (lv_at hl 0 rfl) ?_
        refine va_get (D := D) (ci := 4) (v := .int x_60544) (C := RX4) (T := TX4) (N := 10) hx hb hts inlX4 hown hK hP 0 rfl rfl 6 (by decide) (hts (Cond.fieldLink RX4 61 "ChanceRings$Reader" "next" "I") qw_366) (fun _ h9 => h9) rfl dX4_advance_58 ?_
        refine lv_aload_n hx hb dX4_advance_61 rfl (lv_at hl 0 rfl) ?_
        refine va_get (D := D) (ci := 4) (v := .ref tp) (C := RX4) (T := TX4) (N := 10) hx hb hts inlX4 hown hK hP 0 rfl rfl 0 (by decide) (hts (Cond.fieldLink RX4 9 "ChanceRings$Reader" "tape" "LChanceRings$Tape;") qw_367) (fun _ h9 => h9) rfl dX4_advance_62 ?_
        refine va_get (D := D) (ci := 8) (v := .int tl) (C := RX8) (T := TX8) (N := 2) hx hb hts inlX8 hown hK hP 1 rfl rfl 1 (by decide) (hts (Cond.fieldLink RX4 52 "ChanceRings$Tape" "length" "I") qw_368) (fun _ h9 => h9) rfl dX4_advance_65 ?_
        refine lv_icmp_lt (tgt := 79) hx hb dX4_advance_68 (by decide) (fun c_60549 => ?_) (fun c_60549 => ?_)
        · skip
          have c_60549_i := Int32.lt_iff_toInt_lt.mp c_60549
          have h_60550 : 0 ≤ (x_60544 : Int32).toInt ∧ (x_60544 : Int32).toInt ≤ 439 := nr_lt_l h_x_60544 h_tl c_60549_i (by decide) (by decide)
          have h_60551 : 1 ≤ (tl : Int32).toInt ∧ (tl : Int32).toInt ≤ 440 := nr_lt_r h_x_60544 h_tl c_60549_i (by decide) (by decide)
          refine lv_aload_n hx hb dX4_advance_79 rfl (lv_at hl 0 rfl) ?_
          refine va_get (D := D) (ci := 4) (v := .ref tp) (C := RX4) (T := TX4) (N := 10) hx hb hts inlX4 hown hK hP 0 rfl rfl 0 (by decide) (hts (Cond.fieldLink RX4 9 "ChanceRings$Reader" "tape" "LChanceRings$Tape;") qw_367) (fun _ h9 => h9) rfl dX4_advance_80 ?_
          refine va_get (D := D) (ci := 8) (v := .ref tp_bytes) (C := RX8) (T := TX8) (N := 2) hx hb hts inlX8 hown hK hP 1 rfl rfl 0 (by decide) (hts (Cond.fieldLink RX4 136 "ChanceRings$Tape" "bytes" "[I") qw_370) (fun _ h9 => h9) rfl dX4_advance_83 ?_
          refine lv_aload_n hx hb dX4_advance_86 rfl (lv_at hl 0 rfl) ?_
          refine va_get (D := D) (ci := 4) (v := .int x_60544) (C := RX4) (T := TX4) (N := 10) hx hb hts inlX4 hown hK hP 0 rfl rfl 6 (by decide) (hts (Cond.fieldLink RX4 61 "ChanceRings$Reader" "next" "I") qw_366) (fun _ h9 => h9) rfl dX4_advance_87 ?_
          refine va_iald hx hb hK hP 2 0 rfl rfl (tr_in h_60550 (by decide) (by decide)) dX4_advance_90 ?_
          refine lv_topi (fun v_60552 v_60552_e => ?_)
          have h_v_60552 : 0 ≤ (v_60552 : Int32).toInt ∧ (v_60552 : Int32).toInt ≤ 255 := by rw [v_60552_e]; exact h_tf _
          have g_v_60552 : v_60552 = tf (x_60544.toInt.toNat) := v_60552_e.trans (congrArg tf rfl)
          have gi_v_60552 := congrArg Int32.toInt g_v_60552
          have gb_v_60552 : bg tf (tl : Int32).toInt x_60544.toInt.toNat = v_60552.toInt := bg_cl h_tf gi_v_60552 (by (first | (clear h_fk h_fp h_nx h_tk h_tpl; omega) | omega))
          refine lv_bipush (v := 59) hx hb dX4_advance_91 (by decide) ?_
          refine lv_icmp_ne (tgt := 114) hx hb dX4_advance_93 (by decide) (fun c_60553 => ?_) (fun c_60553 => ?_)
          · skip
            have kk_59 := tk_59
            have c_60553_i : ¬ (v_60552 : Int32).toInt = (59 : Int32).toInt := (fun q => c_60553 (Int32.toInt_inj.mp q))
            refine lv_aload_n hx hb dX4_advance_114 rfl (lv_at hl 0 rfl) ?_
            refine va_get (D := D) (ci := 4) (v := .ref tp) (C := RX4) (T := TX4) (N := 10) hx hb hts inlX4 hown hK hP 0 rfl rfl 0 (by decide) (hts (Cond.fieldLink RX4 9 "ChanceRings$Reader" "tape" "LChanceRings$Tape;") qw_367) (fun _ h9 => h9) rfl dX4_advance_115 ?_
            refine va_get (D := D) (ci := 8) (v := .ref tp_bytes) (C := RX8) (T := TX8) (N := 2) hx hb hts inlX8 hown hK hP 1 rfl rfl 0 (by decide) (hts (Cond.fieldLink RX4 136 "ChanceRings$Tape" "bytes" "[I") qw_370) (fun _ h9 => h9) rfl dX4_advance_118 ?_
            refine lv_aload_n hx hb dX4_advance_121 rfl (lv_at hl 0 rfl) ?_
            refine va_get (D := D) (ci := 4) (v := .int x_60544) (C := RX4) (T := TX4) (N := 10) hx hb hts inlX4 hown hK hP 0 rfl rfl 6 (by decide) (hts (Cond.fieldLink RX4 61 "ChanceRings$Reader" "next" "I") qw_366) (fun _ h9 => h9) rfl dX4_advance_122 ?_
            refine va_iald hx hb hK hP 2 0 rfl rfl (tr_in h_60550 (by decide) (by decide)) dX4_advance_125 ?_
            refine tz_i (y := v_60552) ((congrArg tf rfl).trans g_v_60552.symm) ?_
            have hPc := hP.sub (ws' := []) [] rfl
            refine vp_callSi (va_Run.run (va_runS (As := [.int v_60552]) (rest := []) ⟨hx, hb, hml, hown, hts⟩ (c_X4_isLetter l D g v_60552) (va_cwS 1 hts (tz_gS qw_371 qw_372 qw_364 qw_373) rfl rfl rfl (by decide +kernel) ⟨Nat.le_of_ble_eq_true rfl, Nat.le_of_ble_eq_true rfl⟩) ⟨tz_blS, tz_preS hPc hK⟩ rfl rfl hl.1 rfl (lv_room (Nat.le_of_ble_eq_true rfl)) dX4_advance_126 ⟨Nat.le_of_ble_eq_true rfl, Nat.le_of_ble_eq_true rfl⟩)) (fun r_60555 hw => ?_)
            have hw_60556 : 0 ≤ (r_60555 : Int32).toInt ∧ (r_60555 : Int32).toInt ≤ 1 := hw.1
            have hw_60556_p0 : Hide (¬ (r_60555 : Int32).toInt = 0 → 97 ≤ (v_60552 : Int32).toInt ∧ (v_60552 : Int32).toInt ≤ 122) := hw.2.1
            have hw_60556_p1 : Hide ((r_60555 : Int32).toInt = 0 → (v_60552 : Int32).toInt < 97 ∨ 122 < (v_60552 : Int32).toInt) := hw.2.2
            refine lv_if_ne (tgt := 150) hx hb dX4_advance_129 (by decide) (fun c_60557 => ?_) (fun c_60557 => ?_)
            · skip
              have kk_0 := tk_0
              have c_60557_i : ¬ (r_60555 : Int32).toInt = (0 : Int32).toInt := (fun q => c_60557 (Int32.toInt_inj.mp q))
              have hw_60556_p0_u := (hw_60556_p0).get (fun q => c_60557_i (q.trans tk_0.symm))
              have h_60558 : 1 ≤ (r_60555 : Int32).toInt ∧ (r_60555 : Int32).toInt ≤ 1 := nr_ne_l hw_60556 (⟨by decide, by decide⟩ : 0 ≤ (0 : Int32).toInt ∧ (0 : Int32).toInt ≤ 0) c_60557_i (by decide) (by decide)
              refine lv_aload_n hx hb dX4_advance_150 rfl (lv_at hl 0 rfl) ?_
              have hPc := hP.sub (ws' := [(wO4 rd tp n rd_kindWords ww fk fp x_60544 tk x_60544 0), (wO8 tp tp_bytes tl), (wI g tp_bytes 0 440 tf)]) [0, 1, 2] rfl
              have hDc := hD.sub (ws' := [(wO4 rd tp n rd_kindWords ww fk fp x_60544 tk x_60544 0), (wO8 tp tp_bytes tl), (wI g tp_bytes 0 440 tf)]) [0, 1, 2] (by decide) rfl
              have hFc := va_free (wc := [(wO4 rd tp n rd_kindWords ww fk fp x_60544 tk x_60544 0), (wO8 tp tp_bytes tl), (wI g tp_bytes 0 440 tf)]) hD hS hA [0, 1, 2] rfl
              refine va_callv (va_runV (As := []) (rest := []) ⟨hx, hb, hml, hown, hts⟩ (c_X4_takeRun l D g H.size rd tp n rd_kindWords ww fk fp x_60544 tk x_60544 0 tp_bytes tl tf (tr_w h_fk (by decide) (by decide)) (tr_w h_fp (by decide) (by decide)) (tr_w h_60550 (by decide) (by decide)) (tr_w h_tk (by decide) (by decide)) (tr_w h_60550 (by decide) (by decide)) (tr_w h_60551 (by decide) (by decide)) (tr_wa h_tf (by decide) (by decide)) (by first | rfl | decide | (first | (clear h_nx h_tpl hw_60556 c_60557_i h_60558; omega) | omega))) (cwV 0 hts (tz_gV qw_378 qw_379 qw_380 qw_364 qw_381) rfl rfl rfl (by decide +kernel) ⟨Nat.le_of_ble_eq_true rfl, Nat.le_of_ble_eq_true rfl⟩) ⟨tz_blQ, va_recv hK hPc (ci := 4) (q0 := 0) rfl rfl, tz_preQ hPc hK hDc⟩ rfl rfl hl.1 rfl (lv_room (Nat.le_of_ble_eq_true rfl)) dX4_advance_151 ⟨Nat.le_of_ble_eq_true rfl, Nat.le_of_ble_eq_true rfl⟩) hS (fun q _ h => hFc q h) hFc (fun u t H1 locs ht hvm hw hB hz1 hk1 hS => ?_)
              obtain ⟨onx_60561, otk_60562, otv_60563, hf_60564, hf_60565, hf_60566, hP1, hD1⟩ := hB
              rw [ht] at hP1
              obtain ⟨hP, hD⟩ := va_join (wr := []) (w1 := [(wO4 rd tp n rd_kindWords ww fk fp onx_60561 otk_60562 x_60544 otv_60563), (wO8 tp tp_bytes tl), (wI g tp_bytes 0 440 tf)]) hP hD [0, 1, 2] [] rfl rfl (by decide) (by decide) hk1 hFc hP1 hD1
              generalize H1 = H at hP hS ⊢
              have hP : va_P D vwCl [(wO4 rd tp n rd_kindWords ww fk fp onx_60561 otk_60562 x_60544 otv_60563), (wO8 tp tp_bytes tl), (wI g tp_bytes 0 440 tf)] H := hP
              have hD : va_D A [(wO4 rd tp n rd_kindWords ww fk fp onx_60561 otk_60562 x_60544 otv_60563), (wO8 tp tp_bytes tl), (wI g tp_bytes 0 440 tf)] := hD
              refine lv_goto (tgt := 162) hx hb dX4_advance_154 (by decide) ?_
              have hP9 := hP.sub (ws' := [(wO4 rd tp n rd_kindWords ww fk fp onx_60561 otk_60562 x_60544 otv_60563), (wO8 tp tp_bytes tl), (wI g tp_bytes 0 440 tf)]) [0, 1, 2] rfl
              have hD9 := hD.sub (ws' := [(wO4 rd tp n rd_kindWords ww fk fp onx_60561 otk_60562 x_60544 otv_60563), (wO8 tp tp_bytes tl), (wI g tp_bytes 0 440 tf)]) [0, 1, 2] (by decide) rfl
              exact W.vret hx hb hr (fun t ht hW => ⟨⟨(), rfl, trivial, onx_60561, otk_60562, x_60544, otv_60563, (tr_w hf_60564 (by decide) (by decide)), (tr_w hf_60565 (by decide) (by decide)), (tr_w h_60550 (by decide) (by decide)), (tk_run skp_9 (by rw [gb_v_60552]; unfold ltr dgt; (first | (clear h_fk h_fp h_nx h_tk h_tpl hw_60556 c_60557_i h_60558; omega) | omega)) hf_60566), by rw [ht]; exact hP9, hD9⟩, hS.F ht⟩) hS.2.2 dX4_advance_162
            · skip
              have kk_0 := tk_0
              have c_60557_i : (r_60555 : Int32).toInt = (0 : Int32).toInt := congrArg Int32.toInt c_60557
              have hw_60556_p1_u := (hw_60556_p1).get (c_60557_i.trans tk_0)
              have h_60559 : 0 ≤ (r_60555 : Int32).toInt ∧ (r_60555 : Int32).toInt ≤ 0 := nr_eq_l hw_60556 (⟨by decide, by decide⟩ : 0 ≤ (0 : Int32).toInt ∧ (0 : Int32).toInt ≤ 0) c_60557_i (by decide) (by decide)
              refine lv_aload_n hx hb dX4_advance_132 rfl (lv_at hl 0 rfl) ?_
              refine va_get (D := D) (ci := 4) (v := .ref tp) (C := RX4) (T := TX4) (N := 10) hx hb hts inlX4 hown hK hP 0 rfl rfl 0 (by decide) (hts (Cond.fieldLink RX4 9 "ChanceRings$Reader" "tape" "LChanceRings$Tape;") qw_367) (fun _ h9 => h9) rfl dX4_advance_133 ?_
              refine va_get (D := D) (ci := 8) (v := .ref tp_bytes) (C := RX8) (T := TX8) (N := 2) hx hb hts inlX8 hown hK hP 1 rfl rfl 0 (by decide) (hts (Cond.fieldLink RX4 136 "ChanceRings$Tape" "bytes" "[I") qw_370) (fun _ h9 => h9) rfl dX4_advance_136 ?_
              refine lv_aload_n hx hb dX4_advance_139 rfl (lv_at hl 0 rfl) ?_
              refine va_get (D := D) (ci := 4) (v := .int x_60544) (C := RX4) (T := TX4) (N := 10) hx hb hts inlX4 hown hK hP 0 rfl rfl 6 (by decide) (hts (Cond.fieldLink RX4 61 "ChanceRings$Reader" "next" "I") qw_366) (fun _ h9 => h9) rfl dX4_advance_140 ?_
              refine va_iald hx hb hK hP 2 0 rfl rfl (tr_in h_60550 (by decide) (by decide)) dX4_advance_143 ?_
              refine tz_i (y := v_60552) ((congrArg tf rfl).trans g_v_60552.symm) ?_
              have hPc := hP.sub (ws' := []) [] rfl
              refine vp_callSi (va_Run.run (va_runS (As := [.int v_60552]) (rest := []) ⟨hx, hb, hml, hown, hts⟩ (c_X4_isDigit l D g v_60552) (va_cwS 1 hts (tz_gS qw_375 qw_376 qw_364 qw_377) rfl rfl rfl (by decide +kernel) ⟨Nat.le_of_ble_eq_true rfl, Nat.le_of_ble_eq_true rfl⟩) ⟨tz_blS, tz_preS hPc hK⟩ rfl rfl hl.1 rfl (lv_room (Nat.le_of_ble_eq_true rfl)) dX4_advance_144 ⟨Nat.le_of_ble_eq_true rfl, Nat.le_of_ble_eq_true rfl⟩)) (fun r_60567 hw => ?_)
              have hw_60568 : 0 ≤ (r_60567 : Int32).toInt ∧ (r_60567 : Int32).toInt ≤ 1 := hw.1
              have hw_60568_p0 : Hide (¬ (r_60567 : Int32).toInt = 0 → 48 ≤ (v_60552 : Int32).toInt ∧ (v_60552 : Int32).toInt ≤ 57) := hw.2.1
              have hw_60568_p1 : Hide ((r_60567 : Int32).toInt = 0 → (v_60552 : Int32).toInt < 48 ∨ 57 < (v_60552 : Int32).toInt) := hw.2.2
              refine lv_if_eq (tgt := 157) hx hb dX4_advance_147 (by decide) (fun c_60569 => ?_) (fun c_60569 => ?_)
              · skip
                have c_60569_i : (r_60567 : Int32).toInt = (0 : Int32).toInt := congrArg Int32.toInt c_60569
                have hw_60568_p1_u := (hw_60568_p1).get (c_60569_i.trans tk_0)
                have h_60570 : 0 ≤ (r_60567 : Int32).toInt ∧ (r_60567 : Int32).toInt ≤ 0 := nr_eq_l hw_60568 (⟨by decide, by decide⟩ : 0 ≤ (0 : Int32).toInt ∧ (0 : Int32).toInt ≤ 0) c_60569_i (by decide) (by decide)
                refine lv_aload_n hx hb dX4_advance_157 rfl (lv_at hl 0 rfl) ?_
                refine lv_iconst (v := 4) hx hb dX4_advance_158 (by decide) ?_
                refine va_put (D := D) (ci := 4) (v := .int 4) (ty := .int) (C := RX4) (T := TX4) (N := 10) hx hb hts inlX4 tyX4 tyX4_ok nmX4 hown hK hP hD hS 0 rfl rfl 7 (by decide) (hts (Cond.fieldLink RX4 67 "ChanceRings$Reader" "token" "I") qw_369) (fun _ h9 => h9) rfl (by decide +kernel) rfl rfl (Nat.le_of_ble_eq_true rfl) dX4_advance_159 (fun H locs hP hD hS => ?_)
                have hP : va_P D vwCl [(wO4 rd tp n rd_kindWords ww fk fp x_60544 4 x_60544 0), (wO8 tp tp_bytes tl), (wI g tp_bytes 0 440 tf)] H := hP
                have hD : va_D A [(wO4 rd tp n rd_kindWords ww fk fp x_60544 4 x_60544 0), (wO8 tp tp_bytes tl), (wI g tp_bytes 0 440 tf)] := hD
                have hP9 := hP.sub (ws' := [(wO4 rd tp n rd_kindWords ww fk fp x_60544 4 x_60544 0), (wO8 tp tp_bytes tl), (wI g tp_bytes 0 440 tf)]) [0, 1, 2] rfl
                have hD9 := hD.sub (ws' := [(wO4 rd tp n rd_kindWords ww fk fp x_60544 4 x_60544 0), (wO8 tp tp_bytes tl), (wI g tp_bytes 0 440 tf)]) [0, 1, 2] (by decide) rfl
                exact W.vret hx hb hr (fun t ht hW => ⟨⟨(), rfl, trivial, x_60544, 4, x_60544, 0, (tr_w h_60550 (by decide) (by decide)), (⟨by decide, by decide⟩ : 0 ≤ (4 : Int32).toInt ∧ (4 : Int32).toInt ≤ 4), (tr_w h_60550 (by decide) (by decide)), (tk_wrong skp_9 (by rw [gb_v_60552]; (first | (clear h_fk h_fp h_nx h_tk h_tpl hw_60556 c_60557_i h_60559 hw_60568 c_60569_i h_60570; omega) | omega)) (by rw [gb_v_60552]; (first | (clear h_fk h_fp h_nx h_tk h_tpl hw_60556 c_60557_i h_60559 hw_60568 c_60569_i h_60570; omega) | omega)) (by rw [gb_v_60552]; unfold ltr; (first | (clear h_fk h_fp h_nx h_tk h_tpl hw_60556 c_60557_i h_60559 hw_60568 c_60569_i h_60570; omega) | omega)) (by rw [gb_v_60552]; unfold dgt; (first | (clear h_fk h_fp h_nx h_tk h_tpl hw_60556 c_60557_i h_60559 hw_60568 c_60569_i h_60570; omega) | omega)) (by decide)), by rw [ht]; exact hP9, hD9⟩, hS.F ht⟩) hS.2.2 dX4_advance_162
              · skip
                have c_60569_i : ¬ (r_60567 : Int32).toInt = (0 : Int32).toInt := (fun q => c_60569 (Int32.toInt_inj.mp q))
                have hw_60568_p0_u := (hw_60568_p0).get (fun q => c_60569_i (q.trans tk_0.symm))
                have h_60571 : 1 ≤ (r_60567 : Int32).toInt ∧ (r_60567 : Int32).toInt ≤ 1 := nr_ne_l hw_60568 (⟨by decide, by decide⟩ : 0 ≤ (0 : Int32).toInt ∧ (0 : Int32).toInt ≤ 0) c_60569_i (by decide) (by decide)
                refine lv_aload_n hx hb dX4_advance_150 rfl (lv_at hl 0 rfl) ?_
                have hPc := hP.sub (ws' := [(wO4 rd tp n rd_kindWords ww fk fp x_60544 tk x_60544 0), (wO8 tp tp_bytes tl), (wI g tp_bytes 0 440 tf)]) [0, 1, 2] rfl
                have hDc := hD.sub (ws' := [(wO4 rd tp n rd_kindWords ww fk fp x_60544 tk x_60544 0), (wO8 tp tp_bytes tl), (wI g tp_bytes 0 440 tf)]) [0, 1, 2] (by decide) rfl
                have hFc := va_free (wc := [(wO4 rd tp n rd_kindWords ww fk fp x_60544 tk x_60544 0), (wO8 tp tp_bytes tl), (wI g tp_bytes 0 440 tf)]) hD hS hA [0, 1, 2] rfl
                refine va_callv (va_runV (As := []) (rest := []) ⟨hx, hb, hml, hown, hts⟩ (c_X4_takeRun l D g H.size rd tp n rd_kindWords ww fk fp x_60544 tk x_60544 0 tp_bytes tl tf (tr_w h_fk (by decide) (by decide)) (tr_w h_fp (by decide) (by decide)) (tr_w h_60550 (by decide) (by decide)) (tr_w h_tk (by decide) (by decide)) (tr_w h_60550 (by decide) (by decide)) (tr_w h_60551 (by decide) (by decide)) (tr_wa h_tf (by decide) (by decide)) (by first | rfl | decide | (first | (clear h_nx h_tpl hw_60556 c_60557_i h_60559 hw_60568 c_60569_i h_60571; omega) | omega))) (cwV 0 hts (tz_gV qw_378 qw_379 qw_380 qw_364 qw_381) rfl rfl rfl (by decide +kernel) ⟨Nat.le_of_ble_eq_true rfl, Nat.le_of_ble_eq_true rfl⟩) ⟨tz_blQ, va_recv hK hPc (ci := 4) (q0 := 0) rfl rfl, tz_preQ hPc hK hDc⟩ rfl rfl hl.1 rfl (lv_room (Nat.le_of_ble_eq_true rfl)) dX4_advance_151 ⟨Nat.le_of_ble_eq_true rfl, Nat.le_of_ble_eq_true rfl⟩) hS (fun q _ h => hFc q h) hFc (fun u t H1 locs ht hvm hw hB hz1 hk1 hS => ?_)
                obtain ⟨onx_60573, otk_60574, otv_60575, hf_60576, hf_60577, hf_60578, hP1, hD1⟩ := hB
                rw [ht] at hP1
                obtain ⟨hP, hD⟩ := va_join (wr := []) (w1 := [(wO4 rd tp n rd_kindWords ww fk fp onx_60573 otk_60574 x_60544 otv_60575), (wO8 tp tp_bytes tl), (wI g tp_bytes 0 440 tf)]) hP hD [0, 1, 2] [] rfl rfl (by decide) (by decide) hk1 hFc hP1 hD1
                generalize H1 = H at hP hS ⊢
                have hP : va_P D vwCl [(wO4 rd tp n rd_kindWords ww fk fp onx_60573 otk_60574 x_60544 otv_60575), (wO8 tp tp_bytes tl), (wI g tp_bytes 0 440 tf)] H := hP
                have hD : va_D A [(wO4 rd tp n rd_kindWords ww fk fp onx_60573 otk_60574 x_60544 otv_60575), (wO8 tp tp_bytes tl), (wI g tp_bytes 0 440 tf)] := hD
                refine lv_goto (tgt := 162) hx hb dX4_advance_154 (by decide) ?_
                have hP9 := hP.sub (ws' := [(wO4 rd tp n rd_kindWords ww fk fp onx_60573 otk_60574 x_60544 otv_60575), (wO8 tp tp_bytes tl), (wI g tp_bytes 0 440 tf)]) [0, 1, 2] rfl
                have hD9 := hD.sub (ws' := [(wO4 rd tp n rd_kindWords ww fk fp onx_60573 otk_60574 x_60544 otv_60575), (wO8 tp tp_bytes tl), (wI g tp_bytes 0 440 tf)]) [0, 1, 2] (by decide) rfl
                exact W.vret hx hb hr (fun t ht hW => ⟨⟨(), rfl, trivial, onx_60573, otk_60574, x_60544, otv_60575, (tr_w hf_60576 (by decide) (by decide)), (tr_w hf_60577 (by decide) (by decide)), (tr_w h_60550 (by decide) (by decide)), (tk_run skp_9 (by rw [gb_v_60552]; unfold ltr dgt; (first | (clear h_fk h_fp h_nx h_tk h_tpl hw_60556 c_60557_i h_60559 hw_60568 c_60569_i h_60571; omega) | omega)) hf_60578), by rw [ht]; exact hP9, hD9⟩, hS.F ht⟩) hS.2.2 dX4_advance_162
          · skip
            have kk_59 := tk_59
            have c_60553_i : (v_60552 : Int32).toInt = (59 : Int32).toInt := congrArg Int32.toInt c_60553
            have h_60554 : 59 ≤ (v_60552 : Int32).toInt ∧ (v_60552 : Int32).toInt ≤ 59 := nr_eq_l h_v_60552 (⟨by decide, by decide⟩ : 59 ≤ (59 : Int32).toInt ∧ (59 : Int32).toInt ≤ 59) c_60553_i (by decide) (by decide)
            refine lv_aload_n hx hb dX4_advance_96 rfl (lv_at hl 0 rfl) ?_
            refine lv_iconst (v := 3) hx hb dX4_advance_97 (by decide) ?_
            refine va_put (D := D) (ci := 4) (v := .int 3) (ty := .int) (C := RX4) (T := TX4) (N := 10) hx hb hts inlX4 tyX4 tyX4_ok nmX4 hown hK hP hD hS 0 rfl rfl 7 (by decide) (hts (Cond.fieldLink RX4 67 "ChanceRings$Reader" "token" "I") qw_369) (fun _ h9 => h9) rfl (by decide +kernel) rfl rfl (Nat.le_of_ble_eq_true rfl) dX4_advance_98 (fun H locs hP hD hS => ?_)
            have hP : va_P D vwCl [(wO4 rd tp n rd_kindWords ww fk fp x_60544 3 x_60544 0), (wO8 tp tp_bytes tl), (wI g tp_bytes 0 440 tf)] H := hP
            have hD : va_D A [(wO4 rd tp n rd_kindWords ww fk fp x_60544 3 x_60544 0), (wO8 tp tp_bytes tl), (wI g tp_bytes 0 440 tf)] := hD
            refine lv_aload_n hx hb dX4_advance_101 rfl (lv_at hl 0 rfl) ?_
            refine lv_dup hx hb dX4_advance_102 rfl ?_
            refine va_get (D := D) (ci := 4) (v := .int x_60544) (C := RX4) (T := TX4) (N := 10) hx hb hts inlX4 hown hK hP 0 rfl rfl 6 (by decide) (hts (Cond.fieldLink RX4 61 "ChanceRings$Reader" "next" "I") qw_366) (fun _ h9 => h9) rfl dX4_advance_103 ?_
            refine lv_iconst (v := 1) hx hb dX4_advance_106 (by decide) ?_
            refine lv_iadd hx hb dX4_advance_107 ?_
            refine lv_topi (fun v_60579 v_60579_e => ?_)
            have h_v_60579 : 1 ≤ (v_60579 : Int32).toInt ∧ (v_60579 : Int32).toInt ≤ 440 := by rw [v_60579_e]; exact tr_add h_60550 (⟨by decide, by decide⟩ : 1 ≤ (1 : Int32).toInt ∧ (1 : Int32).toInt ≤ 1) (by decide) (by decide) (by decide) (by decide)
            have q_v_60579 : v_60579.toInt = x_60544.toInt + 1 := by rw [v_60579_e]; exact tr_addE h_60550 (⟨by decide, by decide⟩ : 1 ≤ (1 : Int32).toInt ∧ (1 : Int32).toInt ≤ 1) (by decide) (by decide)
            refine va_put (D := D) (ci := 4) (v := .int v_60579) (ty := .int) (C := RX4) (T := TX4) (N := 10) hx hb hts inlX4 tyX4 tyX4_ok nmX4 hown hK hP hD hS 0 rfl rfl 6 (by decide) (hts (Cond.fieldLink RX4 61 "ChanceRings$Reader" "next" "I") qw_366) (fun _ h9 => h9) rfl (by decide +kernel) rfl rfl (Nat.le_of_ble_eq_true rfl) dX4_advance_108 (fun H locs hP hD hS => ?_)
            have hP : va_P D vwCl [(wO4 rd tp n rd_kindWords ww fk fp v_60579 3 x_60544 0), (wO8 tp tp_bytes tl), (wI g tp_bytes 0 440 tf)] H := hP
            have hD : va_D A [(wO4 rd tp n rd_kindWords ww fk fp v_60579 3 x_60544 0), (wO8 tp tp_bytes tl), (wI g tp_bytes 0 440 tf)] := hD
            refine lv_goto (tgt := 162) hx hb dX4_advance_111 (by decide) ?_
            have hP9 := hP.sub (ws' := [(wO4 rd tp n rd_kindWords ww fk fp v_60579 3 x_60544 0), (wO8 tp tp_bytes tl), (wI g tp_bytes 0 440 tf)]) [0, 1, 2] rfl
            have hD9 := hD.sub (ws' := [(wO4 rd tp n rd_kindWords ww fk fp v_60579 3 x_60544 0), (wO8 tp tp_bytes tl), (wI g tp_bytes 0 440 tf)]) [0, 1, 2] (by decide) rfl
            exact W.vret hx hb hr (fun t ht hW => ⟨⟨(), rfl, trivial, v_60579, 3, x_60544, 0, (tr_w h_v_60579 (by decide) (by decide)), (⟨by decide, by decide⟩ : 0 ≤ (3 : Int32).toInt ∧ (3 : Int32).toInt ≤ 4), (tr_w h_60550 (by decide) (by decide)), (tk_semi skp_9 (by rw [gb_v_60552]; (first | (clear h_fk h_fp h_nx h_tk h_tpl; omega) | omega)) (by decide) (by (first | (clear h_fk h_fp h_nx h_tk h_tpl; omega) | omega))), by rw [ht]; exact hP9, hD9⟩, hS.F ht⟩) hS.2.2 dX4_advance_162
        · skip
          have c_60549_i := Int32.le_iff_toInt_le.mp (Int32.not_lt.mp c_60549)
          refine lv_aload_n hx hb dX4_advance_71 rfl (lv_at hl 0 rfl) ?_
          refine lv_iconst (v := 0) hx hb dX4_advance_72 (by decide) ?_
          refine va_put (D := D) (ci := 4) (v := .int 0) (ty := .int) (C := RX4) (T := TX4) (N := 10) hx hb hts inlX4 tyX4 tyX4_ok nmX4 hown hK hP hD hS 0 rfl rfl 7 (by decide) (hts (Cond.fieldLink RX4 67 "ChanceRings$Reader" "token" "I") qw_369) (fun _ h9 => h9) rfl (by decide +kernel) rfl rfl (Nat.le_of_ble_eq_true rfl) dX4_advance_73 (fun H locs hP hD hS => ?_)
          have hP : va_P D vwCl [(wO4 rd tp n rd_kindWords ww fk fp x_60544 0 x_60544 0), (wO8 tp tp_bytes tl), (wI g tp_bytes 0 440 tf)] H := hP
          have hD : va_D A [(wO4 rd tp n rd_kindWords ww fk fp x_60544 0 x_60544 0), (wO8 tp tp_bytes tl), (wI g tp_bytes 0 440 tf)] := hD
          refine lv_goto (tgt := 162) hx hb dX4_advance_76 (by decide) ?_
          have hP9 := hP.sub (ws' := [(wO4 rd tp n rd_kindWords ww fk fp x_60544 0 x_60544 0), (wO8 tp tp_bytes tl), (wI g tp_bytes 0 440 tf)]) [0, 1, 2] rfl
          have hD9 := hD.sub (ws' := [(wO4 rd tp n rd_kindWords ww fk fp x_60544 0 x_60544 0), (wO8 tp tp_bytes tl), (wI g tp_bytes 0 440 tf)]) [0, 1, 2] (by decide) rfl
          exact W.vret hx hb hr (fun t ht hW => ⟨⟨(), rfl, trivial, x_60544, 0, x_60544, 0, (tr_w h_x_60544 (by decide) (by decide)), (⟨by decide, by decide⟩ : 0 ≤ (0 : Int32).toInt ∧ (0 : Int32).toInt ≤ 4), (tr_w h_x_60544 (by decide) (by decide)), (tk_none skp_9 (by exact bg_out (by (first | (clear h_fk h_fp h_nx h_tk h_tpl; omega) | omega))) (by decide) rfl), by rw [ht]; exact hP9, hD9⟩, hS.F ht⟩) hS.2.2 dX4_advance_162
      · skip
        have c_60546_i := Int32.lt_iff_toInt_lt.mp (Int32.not_le.mp c_60546)
        have h_60547 : 0 ≤ (x_60544 : Int32).toInt ∧ (x_60544 : Int32).toInt ≤ 439 := nr_lt_l h_x_60544 h_tl c_60546_i (by decide) (by decide)
        have h_60548 : 1 ≤ (tl : Int32).toInt ∧ (tl : Int32).toInt ≤ 440 := nr_lt_r h_x_60544 h_tl c_60546_i (by decide) (by decide)
        refine lv_aload_n hx hb dX4_advance_14 rfl (lv_at hl 0 rfl) ?_
        refine va_get (D := D) (ci := 4) (v := .ref tp) (C := RX4) (T := TX4) (N := 10) hx hb hts inlX4 hown hK hP 0 rfl rfl 0 (by decide) (hts (Cond.fieldLink RX4 9 "ChanceRings$Reader" "tape" "LChanceRings$Tape;") qw_367) (fun _ h9 => h9) rfl dX4_advance_15 ?_
        refine va_get (D := D) (ci := 8) (v := .ref tp_bytes) (C := RX8) (T := TX8) (N := 2) hx hb hts inlX8 hown hK hP 1 rfl rfl 0 (by decide) (hts (Cond.fieldLink RX4 136 "ChanceRings$Tape" "bytes" "[I") qw_370) (fun _ h9 => h9) rfl dX4_advance_18 ?_
        refine lv_aload_n hx hb dX4_advance_21 rfl (lv_at hl 0 rfl) ?_
        refine va_get (D := D) (ci := 4) (v := .int x_60544) (C := RX4) (T := TX4) (N := 10) hx hb hts inlX4 hown hK hP 0 rfl rfl 6 (by decide) (hts (Cond.fieldLink RX4 61 "ChanceRings$Reader" "next" "I") qw_366) (fun _ h9 => h9) rfl dX4_advance_22 ?_
        refine va_iald hx hb hK hP 2 0 rfl rfl (tr_in h_60547 (by decide) (by decide)) dX4_advance_25 ?_
        refine lv_topi (fun v_60580 v_60580_e => ?_)
        have h_v_60580 : 0 ≤ (v_60580 : Int32).toInt ∧ (v_60580 : Int32).toInt ≤ 255 := by rw [v_60580_e]; exact h_tf _
        have g_v_60580 : v_60580 = tf (x_60544.toInt.toNat) := v_60580_e.trans (congrArg tf rfl)
        have gi_v_60580 := congrArg Int32.toInt g_v_60580
        have gb_v_60580 : bg tf (tl : Int32).toInt x_60544.toInt.toNat = v_60580.toInt := bg_cl h_tf gi_v_60580 (by (first | (clear h_fk h_fp h_nx h_tk h_tpl; omega) | omega))
        refine lv_bipush (v := 32) hx hb dX4_advance_26 (by decide) ?_
        refine lv_icmp_ne (tgt := 44) hx hb dX4_advance_28 (by decide) (fun c_60581 => ?_) (fun c_60581 => ?_)
        · skip
          have kk_32 := tk_32
          have c_60581_i : ¬ (v_60580 : Int32).toInt = (32 : Int32).toInt := (fun q => c_60581 (Int32.toInt_inj.mp q))
          have skp_9 : SKp (bg tf (tl : Int32).toInt) (nx : Int32).toInt.toNat x_60544.toInt.toNat := SKI.fin hr60545_0 (by rw [gb_v_60580]; (first | (clear h_fk h_fp h_tk h_tpl; omega) | omega))
          refine lv_aload_n hx hb dX4_advance_44 rfl (lv_at hl 0 rfl) ?_
          refine lv_aload_n hx hb dX4_advance_45 rfl (lv_at hl 0 rfl) ?_
          refine va_get (D := D) (ci := 4) (v := .int x_60544) (C := RX4) (T := TX4) (N := 10) hx hb hts inlX4 hown hK hP 0 rfl rfl 6 (by decide) (hts (Cond.fieldLink RX4 61 "ChanceRings$Reader" "next" "I") qw_366) (fun _ h9 => h9) rfl dX4_advance_46 ?_
          refine va_put (D := D) (ci := 4) (v := .int x_60544) (ty := .int) (C := RX4) (T := TX4) (N := 10) hx hb hts inlX4 tyX4 tyX4_ok nmX4 hown hK hP hD hS 0 rfl rfl 8 (by decide) (hts (Cond.fieldLink RX4 77 "ChanceRings$Reader" "tokenPlace" "I") qw_360) (fun _ h9 => h9) rfl (by decide +kernel) rfl rfl (Nat.le_of_ble_eq_true rfl) dX4_advance_49 (fun H locs hP hD hS => ?_)
          have hP : va_P D vwCl [(wO4 rd tp n rd_kindWords ww fk fp x_60544 tk x_60544 tv), (wO8 tp tp_bytes tl), (wI g tp_bytes 0 440 tf)] H := hP
          have hD : va_D A [(wO4 rd tp n rd_kindWords ww fk fp x_60544 tk x_60544 tv), (wO8 tp tp_bytes tl), (wI g tp_bytes 0 440 tf)] := hD
          refine lv_aload_n hx hb dX4_advance_52 rfl (lv_at hl 0 rfl) ?_
          refine lv_iconst (v := 0) hx hb dX4_advance_53 (by decide) ?_
          refine va_put (D := D) (ci := 4) (v := .int 0) (ty := .int) (C := RX4) (T := TX4) (N := 10) hx hb hts inlX4 tyX4 tyX4_ok nmX4 hown hK hP hD hS 0 rfl rfl 9 (by decide) (hts (Cond.fieldLink RX4 86 "ChanceRings$Reader" "tokenValue" "I") qw_374) (fun _ h9 => h9) rfl (by decide +kernel) rfl rfl (Nat.le_of_ble_eq_true rfl) dX4_advance_54 (fun H locs hP hD hS => ?_)
          have hP : va_P D vwCl [(wO4 rd tp n rd_kindWords ww fk fp x_60544 tk x_60544 0), (wO8 tp tp_bytes tl), (wI g tp_bytes 0 440 tf)] H := hP
          have hD : va_D A [(wO4 rd tp n rd_kindWords ww fk fp x_60544 tk x_60544 0), (wO8 tp tp_bytes tl), (wI g tp_bytes 0 440 tf)] := hD
          refine lv_aload_n hx hb dX4_advance_57 rfl (lv_at hl 0 rfl) ?_
          refine va_get (D := D) (ci := 4) (v := .int x_60544) (C := RX4) (T := TX4) (N := 10) hx hb hts inlX4 hown hK hP 0 rfl rfl 6 (by decide) (hts (Cond.fieldLink RX4 61 "ChanceRings$Reader" "next" "I") qw_366) (fun _ h9 => h9) rfl dX4_advance_58 ?_
          refine lv_aload_n hx hb dX4_advance_61 rfl (lv_at hl 0 rfl) ?_
          refine va_get (D := D) (ci := 4) (v := .ref tp) (C := RX4) (T := TX4) (N := 10) hx hb hts inlX4 hown hK hP 0 rfl rfl 0 (by decide) (hts (Cond.fieldLink RX4 9 "ChanceRings$Reader" "tape" "LChanceRings$Tape;") qw_367) (fun _ h9 => h9) rfl dX4_advance_62 ?_
          refine va_get (D := D) (ci := 8) (v := .int tl) (C := RX8) (T := TX8) (N := 2) hx hb hts inlX8 hown hK hP 1 rfl rfl 1 (by decide) (hts (Cond.fieldLink RX4 52 "ChanceRings$Tape" "length" "I") qw_368) (fun _ h9 => h9) rfl dX4_advance_65 ?_
          refine lv_icmp_lt (tgt := 79) hx hb dX4_advance_68 (by decide) (fun c_60583 => ?_) (fun c_60583 => ?_)
          · skip
            have c_60583_i := Int32.lt_iff_toInt_lt.mp c_60583
            refine lv_aload_n hx hb dX4_advance_79 rfl (lv_at hl 0 rfl) ?_
            refine va_get (D := D) (ci := 4) (v := .ref tp) (C := RX4) (T := TX4) (N := 10) hx hb hts inlX4 hown hK hP 0 rfl rfl 0 (by decide) (hts (Cond.fieldLink RX4 9 "ChanceRings$Reader" "tape" "LChanceRings$Tape;") qw_367) (fun _ h9 => h9) rfl dX4_advance_80 ?_
            refine va_get (D := D) (ci := 8) (v := .ref tp_bytes) (C := RX8) (T := TX8) (N := 2) hx hb hts inlX8 hown hK hP 1 rfl rfl 0 (by decide) (hts (Cond.fieldLink RX4 136 "ChanceRings$Tape" "bytes" "[I") qw_370) (fun _ h9 => h9) rfl dX4_advance_83 ?_
            refine lv_aload_n hx hb dX4_advance_86 rfl (lv_at hl 0 rfl) ?_
            refine va_get (D := D) (ci := 4) (v := .int x_60544) (C := RX4) (T := TX4) (N := 10) hx hb hts inlX4 hown hK hP 0 rfl rfl 6 (by decide) (hts (Cond.fieldLink RX4 61 "ChanceRings$Reader" "next" "I") qw_366) (fun _ h9 => h9) rfl dX4_advance_87 ?_
            refine va_iald hx hb hK hP 2 0 rfl rfl (tr_in h_60547 (by decide) (by decide)) dX4_advance_90 ?_
            refine tz_i (y := v_60580) ((congrArg tf rfl).trans g_v_60580.symm) ?_
            refine lv_bipush (v := 59) hx hb dX4_advance_91 (by decide) ?_
            refine lv_icmp_ne (tgt := 114) hx hb dX4_advance_93 (by decide) (fun c_60586 => ?_) (fun c_60586 => ?_)
            · skip
              have kk_59 := tk_59
              have c_60586_i : ¬ (v_60580 : Int32).toInt = (59 : Int32).toInt := (fun q => c_60586 (Int32.toInt_inj.mp q))
              refine lv_aload_n hx hb dX4_advance_114 rfl (lv_at hl 0 rfl) ?_
              refine va_get (D := D) (ci := 4) (v := .ref tp) (C := RX4) (T := TX4) (N := 10) hx hb hts inlX4 hown hK hP 0 rfl rfl 0 (by decide) (hts (Cond.fieldLink RX4 9 "ChanceRings$Reader" "tape" "LChanceRings$Tape;") qw_367) (fun _ h9 => h9) rfl dX4_advance_115 ?_
              refine va_get (D := D) (ci := 8) (v := .ref tp_bytes) (C := RX8) (T := TX8) (N := 2) hx hb hts inlX8 hown hK hP 1 rfl rfl 0 (by decide) (hts (Cond.fieldLink RX4 136 "ChanceRings$Tape" "bytes" "[I") qw_370) (fun _ h9 => h9) rfl dX4_advance_118 ?_
              refine lv_aload_n hx hb dX4_advance_121 rfl (lv_at hl 0 rfl) ?_
              refine va_get (D := D) (ci := 4) (v := .int x_60544) (C := RX4) (T := TX4) (N := 10) hx hb hts inlX4 hown hK hP 0 rfl rfl 6 (by decide) (hts (Cond.fieldLink RX4 61 "ChanceRings$Reader" "next" "I") qw_366) (fun _ h9 => h9) rfl dX4_advance_122 ?_
              refine va_iald hx hb hK hP 2 0 rfl rfl (tr_in h_60547 (by decide) (by decide)) dX4_advance_125 ?_
              refine tz_i (y := v_60580) ((congrArg tf rfl).trans g_v_60580.symm) ?_
              have hPc := hP.sub (ws' := []) [] rfl
              refine vp_callSi (va_Run.run (va_runS (As := [.int v_60580]) (rest := []) ⟨hx, hb, hml, hown, hts⟩ (c_X4_isLetter l D g v_60580) (va_cwS 1 hts (tz_gS qw_371 qw_372 qw_364 qw_373) rfl rfl rfl (by decide +kernel) ⟨Nat.le_of_ble_eq_true rfl, Nat.le_of_ble_eq_true rfl⟩) ⟨tz_blS, tz_preS hPc hK⟩ rfl rfl hl.1 rfl (lv_room (Nat.le_of_ble_eq_true rfl)) dX4_advance_126 ⟨Nat.le_of_ble_eq_true rfl, Nat.le_of_ble_eq_true rfl⟩)) (fun r_60588 hw => ?_)
              have hw_60589 : 0 ≤ (r_60588 : Int32).toInt ∧ (r_60588 : Int32).toInt ≤ 1 := hw.1
              have hw_60589_p0 : Hide (¬ (r_60588 : Int32).toInt = 0 → 97 ≤ (v_60580 : Int32).toInt ∧ (v_60580 : Int32).toInt ≤ 122) := hw.2.1
              have hw_60589_p1 : Hide ((r_60588 : Int32).toInt = 0 → (v_60580 : Int32).toInt < 97 ∨ 122 < (v_60580 : Int32).toInt) := hw.2.2
              refine lv_if_ne (tgt := 150) hx hb dX4_advance_129 (by decide) (fun c_60590 => ?_) (fun c_60590 => ?_)
              · skip
                have kk_0 := tk_0
                have c_60590_i : ¬ (r_60588 : Int32).toInt = (0 : Int32).toInt := (fun q => c_60590 (Int32.toInt_inj.mp q))
                have hw_60589_p0_u := (hw_60589_p0).get (fun q => c_60590_i (q.trans tk_0.symm))
                have h_60591 : 1 ≤ (r_60588 : Int32).toInt ∧ (r_60588 : Int32).toInt ≤ 1 := nr_ne_l hw_60589 (⟨by decide, by decide⟩ : 0 ≤ (0 : Int32).toInt ∧ (0 : Int32).toInt ≤ 0) c_60590_i (by decide) (by decide)
                refine lv_aload_n hx hb dX4_advance_150 rfl (lv_at hl 0 rfl) ?_
                have hPc := hP.sub (ws' := [(wO4 rd tp n rd_kindWords ww fk fp x_60544 tk x_60544 0), (wO8 tp tp_bytes tl), (wI g tp_bytes 0 440 tf)]) [0, 1, 2] rfl
                have hDc := hD.sub (ws' := [(wO4 rd tp n rd_kindWords ww fk fp x_60544 tk x_60544 0), (wO8 tp tp_bytes tl), (wI g tp_bytes 0 440 tf)]) [0, 1, 2] (by decide) rfl
                have hFc := va_free (wc := [(wO4 rd tp n rd_kindWords ww fk fp x_60544 tk x_60544 0), (wO8 tp tp_bytes tl), (wI g tp_bytes 0 440 tf)]) hD hS hA [0, 1, 2] rfl
                refine va_callv (va_runV (As := []) (rest := []) ⟨hx, hb, hml, hown, hts⟩ (c_X4_takeRun l D g H.size rd tp n rd_kindWords ww fk fp x_60544 tk x_60544 0 tp_bytes tl tf (tr_w h_fk (by decide) (by decide)) (tr_w h_fp (by decide) (by decide)) (tr_w h_60547 (by decide) (by decide)) (tr_w h_tk (by decide) (by decide)) (tr_w h_60547 (by decide) (by decide)) (tr_w h_60548 (by decide) (by decide)) (tr_wa h_tf (by decide) (by decide)) (by first | rfl | decide | (first | (clear h_nx h_tpl hw_60589 c_60590_i h_60591; omega) | omega))) (cwV 0 hts (tz_gV qw_378 qw_379 qw_380 qw_364 qw_381) rfl rfl rfl (by decide +kernel) ⟨Nat.le_of_ble_eq_true rfl, Nat.le_of_ble_eq_true rfl⟩) ⟨tz_blQ, va_recv hK hPc (ci := 4) (q0 := 0) rfl rfl, tz_preQ hPc hK hDc⟩ rfl rfl hl.1 rfl (lv_room (Nat.le_of_ble_eq_true rfl)) dX4_advance_151 ⟨Nat.le_of_ble_eq_true rfl, Nat.le_of_ble_eq_true rfl⟩) hS (fun q _ h => hFc q h) hFc (fun u t H1 locs ht hvm hw hB hz1 hk1 hS => ?_)
                obtain ⟨onx_60594, otk_60595, otv_60596, hf_60597, hf_60598, hf_60599, hP1, hD1⟩ := hB
                rw [ht] at hP1
                obtain ⟨hP, hD⟩ := va_join (wr := []) (w1 := [(wO4 rd tp n rd_kindWords ww fk fp onx_60594 otk_60595 x_60544 otv_60596), (wO8 tp tp_bytes tl), (wI g tp_bytes 0 440 tf)]) hP hD [0, 1, 2] [] rfl rfl (by decide) (by decide) hk1 hFc hP1 hD1
                generalize H1 = H at hP hS ⊢
                have hP : va_P D vwCl [(wO4 rd tp n rd_kindWords ww fk fp onx_60594 otk_60595 x_60544 otv_60596), (wO8 tp tp_bytes tl), (wI g tp_bytes 0 440 tf)] H := hP
                have hD : va_D A [(wO4 rd tp n rd_kindWords ww fk fp onx_60594 otk_60595 x_60544 otv_60596), (wO8 tp tp_bytes tl), (wI g tp_bytes 0 440 tf)] := hD
                refine lv_goto (tgt := 162) hx hb dX4_advance_154 (by decide) ?_
                have hP9 := hP.sub (ws' := [(wO4 rd tp n rd_kindWords ww fk fp onx_60594 otk_60595 x_60544 otv_60596), (wO8 tp tp_bytes tl), (wI g tp_bytes 0 440 tf)]) [0, 1, 2] rfl
                have hD9 := hD.sub (ws' := [(wO4 rd tp n rd_kindWords ww fk fp onx_60594 otk_60595 x_60544 otv_60596), (wO8 tp tp_bytes tl), (wI g tp_bytes 0 440 tf)]) [0, 1, 2] (by decide) rfl
                exact W.vret hx hb hr (fun t ht hW => ⟨⟨(), rfl, trivial, onx_60594, otk_60595, x_60544, otv_60596, (tr_w hf_60597 (by decide) (by decide)), (tr_w hf_60598 (by decide) (by decide)), (tr_w h_60547 (by decide) (by decide)), (tk_run skp_9 (by rw [gb_v_60580]; unfold ltr dgt; (first | (clear h_fk h_fp h_nx h_tk h_tpl hw_60589 c_60590_i h_60591; omega) | omega)) hf_60599), by rw [ht]; exact hP9, hD9⟩, hS.F ht⟩) hS.2.2 dX4_advance_162
              · skip
                have kk_0 := tk_0
                have c_60590_i : (r_60588 : Int32).toInt = (0 : Int32).toInt := congrArg Int32.toInt c_60590
                have hw_60589_p1_u := (hw_60589_p1).get (c_60590_i.trans tk_0)
                have h_60592 : 0 ≤ (r_60588 : Int32).toInt ∧ (r_60588 : Int32).toInt ≤ 0 := nr_eq_l hw_60589 (⟨by decide, by decide⟩ : 0 ≤ (0 : Int32).toInt ∧ (0 : Int32).toInt ≤ 0) c_60590_i (by decide) (by decide)
                refine lv_aload_n hx hb dX4_advance_132 rfl (lv_at hl 0 rfl) ?_
                refine va_get (D := D) (ci := 4) (v := .ref tp) (C := RX4) (T := TX4) (N := 10) hx hb hts inlX4 hown hK hP 0 rfl rfl 0 (by decide) (hts (Cond.fieldLink RX4 9 "ChanceRings$Reader" "tape" "LChanceRings$Tape;") qw_367) (fun _ h9 => h9) rfl dX4_advance_133 ?_
                refine va_get (D := D) (ci := 8) (v := .ref tp_bytes) (C := RX8) (T := TX8) (N := 2) hx hb hts inlX8 hown hK hP 1 rfl rfl 0 (by decide) (hts (Cond.fieldLink RX4 136 "ChanceRings$Tape" "bytes" "[I") qw_370) (fun _ h9 => h9) rfl dX4_advance_136 ?_
                refine lv_aload_n hx hb dX4_advance_139 rfl (lv_at hl 0 rfl) ?_
                refine va_get (D := D) (ci := 4) (v := .int x_60544) (C := RX4) (T := TX4) (N := 10) hx hb hts inlX4 hown hK hP 0 rfl rfl 6 (by decide) (hts (Cond.fieldLink RX4 61 "ChanceRings$Reader" "next" "I") qw_366) (fun _ h9 => h9) rfl dX4_advance_140 ?_
                refine va_iald hx hb hK hP 2 0 rfl rfl (tr_in h_60547 (by decide) (by decide)) dX4_advance_143 ?_
                refine tz_i (y := v_60580) ((congrArg tf rfl).trans g_v_60580.symm) ?_
                have hPc := hP.sub (ws' := []) [] rfl
                refine vp_callSi (va_Run.run (va_runS (As := [.int v_60580]) (rest := []) ⟨hx, hb, hml, hown, hts⟩ (c_X4_isDigit l D g v_60580) (va_cwS 1 hts (tz_gS qw_375 qw_376 qw_364 qw_377) rfl rfl rfl (by decide +kernel) ⟨Nat.le_of_ble_eq_true rfl, Nat.le_of_ble_eq_true rfl⟩) ⟨tz_blS, tz_preS hPc hK⟩ rfl rfl hl.1 rfl (lv_room (Nat.le_of_ble_eq_true rfl)) dX4_advance_144 ⟨Nat.le_of_ble_eq_true rfl, Nat.le_of_ble_eq_true rfl⟩)) (fun r_60600 hw => ?_)
                have hw_60601 : 0 ≤ (r_60600 : Int32).toInt ∧ (r_60600 : Int32).toInt ≤ 1 := hw.1
                have hw_60601_p0 : Hide (¬ (r_60600 : Int32).toInt = 0 → 48 ≤ (v_60580 : Int32).toInt ∧ (v_60580 : Int32).toInt ≤ 57) := hw.2.1
                have hw_60601_p1 : Hide ((r_60600 : Int32).toInt = 0 → (v_60580 : Int32).toInt < 48 ∨ 57 < (v_60580 : Int32).toInt) := hw.2.2
                refine lv_if_eq (tgt := 157) hx hb dX4_advance_147 (by decide) (fun c_60602 => ?_) (fun c_60602 => ?_)
                · skip
                  have c_60602_i : (r_60600 : Int32).toInt = (0 : Int32).toInt := congrArg Int32.toInt c_60602
                  have hw_60601_p1_u := (hw_60601_p1).get (c_60602_i.trans tk_0)
                  have h_60603 : 0 ≤ (r_60600 : Int32).toInt ∧ (r_60600 : Int32).toInt ≤ 0 := nr_eq_l hw_60601 (⟨by decide, by decide⟩ : 0 ≤ (0 : Int32).toInt ∧ (0 : Int32).toInt ≤ 0) c_60602_i (by decide) (by decide)
                  refine lv_aload_n hx hb dX4_advance_157 rfl (lv_at hl 0 rfl) ?_
                  refine lv_iconst (v := 4) hx hb dX4_advance_158 (by decide) ?_
                  refine va_put (D := D) (ci := 4) (v := .int 4) (ty := .int) (C := RX4) (T := TX4) (N := 10) hx hb hts inlX4 tyX4 tyX4_ok nmX4 hown hK hP hD hS 0 rfl rfl 7 (by decide) (hts (Cond.fieldLink RX4 67 "ChanceRings$Reader" "token" "I") qw_369) (fun _ h9 => h9) rfl (by decide +kernel) rfl rfl (Nat.le_of_ble_eq_true rfl) dX4_advance_159 (fun H locs hP hD hS => ?_)
                  have hP : va_P D vwCl [(wO4 rd tp n rd_kindWords ww fk fp x_60544 4 x_60544 0), (wO8 tp tp_bytes tl), (wI g tp_bytes 0 440 tf)] H := hP
                  have hD : va_D A [(wO4 rd tp n rd_kindWords ww fk fp x_60544 4 x_60544 0), (wO8 tp tp_bytes tl), (wI g tp_bytes 0 440 tf)] := hD
                  have hP9 := hP.sub (ws' := [(wO4 rd tp n rd_kindWords ww fk fp x_60544 4 x_60544 0), (wO8 tp tp_bytes tl), (wI g tp_bytes 0 440 tf)]) [0, 1, 2] rfl
                  have hD9 := hD.sub (ws' := [(wO4 rd tp n rd_kindWords ww fk fp x_60544 4 x_60544 0), (wO8 tp tp_bytes tl), (wI g tp_bytes 0 440 tf)]) [0, 1, 2] (by decide) rfl
                  exact W.vret hx hb hr (fun t ht hW => ⟨⟨(), rfl, trivial, x_60544, 4, x_60544, 0, (tr_w h_60547 (by decide) (by decide)), (⟨by decide, by decide⟩ : 0 ≤ (4 : Int32).toInt ∧ (4 : Int32).toInt ≤ 4), (tr_w h_60547 (by decide) (by decide)), (tk_wrong skp_9 (by rw [gb_v_60580]; (first | (clear h_fk h_fp h_nx h_tk h_tpl hw_60589 c_60590_i h_60592 hw_60601 c_60602_i h_60603; omega) | omega)) (by rw [gb_v_60580]; (first | (clear h_fk h_fp h_nx h_tk h_tpl hw_60589 c_60590_i h_60592 hw_60601 c_60602_i h_60603; omega) | omega)) (by rw [gb_v_60580]; unfold ltr; (first | (clear h_fk h_fp h_nx h_tk h_tpl hw_60589 c_60590_i h_60592 hw_60601 c_60602_i h_60603; omega) | omega)) (by rw [gb_v_60580]; unfold dgt; (first | (clear h_fk h_fp h_nx h_tk h_tpl hw_60589 c_60590_i h_60592 hw_60601 c_60602_i h_60603; omega) | omega)) (by decide)), by rw [ht]; exact hP9, hD9⟩, hS.F ht⟩) hS.2.2 dX4_advance_162
                · skip
                  have c_60602_i : ¬ (r_60600 : Int32).toInt = (0 : Int32).toInt := (fun q => c_60602 (Int32.toInt_inj.mp q))
                  have hw_60601_p0_u := (hw_60601_p0).get (fun q => c_60602_i (q.trans tk_0.symm))
                  have h_60604 : 1 ≤ (r_60600 : Int32).toInt ∧ (r_60600 : Int32).toInt ≤ 1 := nr_ne_l hw_60601 (⟨by decide, by decide⟩ : 0 ≤ (0 : Int32).toInt ∧ (0 : Int32).toInt ≤ 0) c_60602_i (by decide) (by decide)
                  refine lv_aload_n hx hb dX4_advance_150 rfl (lv_at hl 0 rfl) ?_
                  have hPc := hP.sub (ws' := [(wO4 rd tp n rd_kindWords ww fk fp x_60544 tk x_60544 0), (wO8 tp tp_bytes tl), (wI g tp_bytes 0 440 tf)]) [0, 1, 2] rfl
                  have hDc := hD.sub (ws' := [(wO4 rd tp n rd_kindWords ww fk fp x_60544 tk x_60544 0), (wO8 tp tp_bytes tl), (wI g tp_bytes 0 440 tf)]) [0, 1, 2] (by decide) rfl
                  have hFc := va_free (wc := [(wO4 rd tp n rd_kindWords ww fk fp x_60544 tk x_60544 0), (wO8 tp tp_bytes tl), (wI g tp_bytes 0 440 tf)]) hD hS hA [0, 1, 2] rfl
                  refine va_callv (va_runV (As := []) (rest := []) ⟨hx, hb, hml, hown, hts⟩ (c_X4_takeRun l D g H.size rd tp n rd_kindWords ww fk fp x_60544 tk x_60544 0 tp_bytes tl tf (tr_w h_fk (by decide) (by decide)) (tr_w h_fp (by decide) (by decide)) (tr_w h_60547 (by decide) (by decide)) (tr_w h_tk (by decide) (by decide)) (tr_w h_60547 (by decide) (by decide)) (tr_w h_60548 (by decide) (by decide)) (tr_wa h_tf (by decide) (by decide)) (by first | rfl | decide | (first | (clear h_nx h_tpl hw_60589 c_60590_i h_60592 hw_60601 c_60602_i h_60604; omega) | omega))) (cwV 0 hts (tz_gV qw_378 qw_379 qw_380 qw_364 qw_381) rfl rfl rfl (by decide +kernel) ⟨Nat.le_of_ble_eq_true rfl, Nat.le_of_ble_eq_true rfl⟩) ⟨tz_blQ, va_recv hK hPc (ci := 4) (q0 := 0) rfl rfl, tz_preQ hPc hK hDc⟩ rfl rfl hl.1 rfl (lv_room (Nat.le_of_ble_eq_true rfl)) dX4_advance_151 ⟨Nat.le_of_ble_eq_true rfl, Nat.le_of_ble_eq_true rfl⟩) hS (fun q _ h => hFc q h) hFc (fun u t H1 locs ht hvm hw hB hz1 hk1 hS => ?_)
                  obtain ⟨onx_60606, otk_60607, otv_60608, hf_60609, hf_60610, hf_60611, hP1, hD1⟩ := hB
                  rw [ht] at hP1
                  obtain ⟨hP, hD⟩ := va_join (wr := []) (w1 := [(wO4 rd tp n rd_kindWords ww fk fp onx_60606 otk_60607 x_60544 otv_60608), (wO8 tp tp_bytes tl), (wI g tp_bytes 0 440 tf)]) hP hD [0, 1, 2] [] rfl rfl (by decide) (by decide) hk1 hFc hP1 hD1
                  generalize H1 = H at hP hS ⊢
                  have hP : va_P D vwCl [(wO4 rd tp n rd_kindWords ww fk fp onx_60606 otk_60607 x_60544 otv_60608), (wO8 tp tp_bytes tl), (wI g tp_bytes 0 440 tf)] H := hP
                  have hD : va_D A [(wO4 rd tp n rd_kindWords ww fk fp onx_60606 otk_60607 x_60544 otv_60608), (wO8 tp tp_bytes tl), (wI g tp_bytes 0 440 tf)] := hD
                  refine lv_goto (tgt := 162) hx hb dX4_advance_154 (by decide) ?_
                  have hP9 := hP.sub (ws' := [(wO4 rd tp n rd_kindWords ww fk fp onx_60606 otk_60607 x_60544 otv_60608), (wO8 tp tp_bytes tl), (wI g tp_bytes 0 440 tf)]) [0, 1, 2] rfl
                  have hD9 := hD.sub (ws' := [(wO4 rd tp n rd_kindWords ww fk fp onx_60606 otk_60607 x_60544 otv_60608), (wO8 tp tp_bytes tl), (wI g tp_bytes 0 440 tf)]) [0, 1, 2] (by decide) rfl
                  exact W.vret hx hb hr (fun t ht hW => ⟨⟨(), rfl, trivial, onx_60606, otk_60607, x_60544, otv_60608, (tr_w hf_60609 (by decide) (by decide)), (tr_w hf_60610 (by decide) (by decide)), (tr_w h_60547 (by decide) (by decide)), (tk_run skp_9 (by rw [gb_v_60580]; unfold ltr dgt; (first | (clear h_fk h_fp h_nx h_tk h_tpl hw_60589 c_60590_i h_60592 hw_60601 c_60602_i h_60604; omega) | omega)) hf_60611), by rw [ht]; exact hP9, hD9⟩, hS.F ht⟩) hS.2.2 dX4_advance_162
            · skip
              have kk_59 := tk_59
              have c_60586_i : (v_60580 : Int32).toInt = (59 : Int32).toInt := congrArg Int32.toInt c_60586
              have h_60587 : 59 ≤ (v_60580 : Int32).toInt ∧ (v_60580 : Int32).toInt ≤ 59 := nr_eq_l h_v_60580 (⟨by decide, by decide⟩ : 59 ≤ (59 : Int32).toInt ∧ (59 : Int32).toInt ≤ 59) c_60586_i (by decide) (by decide)
              refine lv_aload_n hx hb dX4_advance_96 rfl (lv_at hl 0 rfl) ?_
              refine lv_iconst (v := 3) hx hb dX4_advance_97 (by decide) ?_
              refine va_put (D := D) (ci := 4) (v := .int 3) (ty := .int) (C := RX4) (T := TX4) (N := 10) hx hb hts inlX4 tyX4 tyX4_ok nmX4 hown hK hP hD hS 0 rfl rfl 7 (by decide) (hts (Cond.fieldLink RX4 67 "ChanceRings$Reader" "token" "I") qw_369) (fun _ h9 => h9) rfl (by decide +kernel) rfl rfl (Nat.le_of_ble_eq_true rfl) dX4_advance_98 (fun H locs hP hD hS => ?_)
              have hP : va_P D vwCl [(wO4 rd tp n rd_kindWords ww fk fp x_60544 3 x_60544 0), (wO8 tp tp_bytes tl), (wI g tp_bytes 0 440 tf)] H := hP
              have hD : va_D A [(wO4 rd tp n rd_kindWords ww fk fp x_60544 3 x_60544 0), (wO8 tp tp_bytes tl), (wI g tp_bytes 0 440 tf)] := hD
              refine lv_aload_n hx hb dX4_advance_101 rfl (lv_at hl 0 rfl) ?_
              refine lv_dup hx hb dX4_advance_102 rfl ?_
              refine va_get (D := D) (ci := 4) (v := .int x_60544) (C := RX4) (T := TX4) (N := 10) hx hb hts inlX4 hown hK hP 0 rfl rfl 6 (by decide) (hts (Cond.fieldLink RX4 61 "ChanceRings$Reader" "next" "I") qw_366) (fun _ h9 => h9) rfl dX4_advance_103 ?_
              refine lv_iconst (v := 1) hx hb dX4_advance_106 (by decide) ?_
              refine lv_iadd hx hb dX4_advance_107 ?_
              refine lv_topi (fun v_60612 v_60612_e => ?_)
              have h_v_60612 : 1 ≤ (v_60612 : Int32).toInt ∧ (v_60612 : Int32).toInt ≤ 440 := by rw [v_60612_e]; exact tr_add h_60547 (⟨by decide, by decide⟩ : 1 ≤ (1 : Int32).toInt ∧ (1 : Int32).toInt ≤ 1) (by decide) (by decide) (by decide) (by decide)
              have q_v_60612 : v_60612.toInt = x_60544.toInt + 1 := by rw [v_60612_e]; exact tr_addE h_60547 (⟨by decide, by decide⟩ : 1 ≤ (1 : Int32).toInt ∧ (1 : Int32).toInt ≤ 1) (by decide) (by decide)
              refine va_put (D := D) (ci := 4) (v := .int v_60612) (ty := .int) (C := RX4) (T := TX4) (N := 10) hx hb hts inlX4 tyX4 tyX4_ok nmX4 hown hK hP hD hS 0 rfl rfl 6 (by decide) (hts (Cond.fieldLink RX4 61 "ChanceRings$Reader" "next" "I") qw_366) (fun _ h9 => h9) rfl (by decide +kernel) rfl rfl (Nat.le_of_ble_eq_true rfl) dX4_advance_108 (fun H locs hP hD hS => ?_)
              have hP : va_P D vwCl [(wO4 rd tp n rd_kindWords ww fk fp v_60612 3 x_60544 0), (wO8 tp tp_bytes tl), (wI g tp_bytes 0 440 tf)] H := hP
              have hD : va_D A [(wO4 rd tp n rd_kindWords ww fk fp v_60612 3 x_60544 0), (wO8 tp tp_bytes tl), (wI g tp_bytes 0 440 tf)] := hD
              refine lv_goto (tgt := 162) hx hb dX4_advance_111 (by decide) ?_
              have hP9 := hP.sub (ws' := [(wO4 rd tp n rd_kindWords ww fk fp v_60612 3 x_60544 0), (wO8 tp tp_bytes tl), (wI g tp_bytes 0 440 tf)]) [0, 1, 2] rfl
              have hD9 := hD.sub (ws' := [(wO4 rd tp n rd_kindWords ww fk fp v_60612 3 x_60544 0), (wO8 tp tp_bytes tl), (wI g tp_bytes 0 440 tf)]) [0, 1, 2] (by decide) rfl
              exact W.vret hx hb hr (fun t ht hW => ⟨⟨(), rfl, trivial, v_60612, 3, x_60544, 0, (tr_w h_v_60612 (by decide) (by decide)), (⟨by decide, by decide⟩ : 0 ≤ (3 : Int32).toInt ∧ (3 : Int32).toInt ≤ 4), (tr_w h_60547 (by decide) (by decide)), (tk_semi skp_9 (by rw [gb_v_60580]; (first | (clear h_fk h_fp h_nx h_tk h_tpl; omega) | omega)) (by decide) (by (first | (clear h_fk h_fp h_nx h_tk h_tpl; omega) | omega))), by rw [ht]; exact hP9, hD9⟩, hS.F ht⟩) hS.2.2 dX4_advance_162
          · skip
            have c_60583_i := Int32.le_iff_toInt_le.mp (Int32.not_lt.mp c_60583)
            have h_60584 : 1 ≤ (x_60544 : Int32).toInt ∧ (x_60544 : Int32).toInt ≤ 439 := nr_le_r h_60548 h_60547 c_60583_i (by decide) (by decide)
            have h_60585 : 1 ≤ (tl : Int32).toInt ∧ (tl : Int32).toInt ≤ 439 := nr_le_l h_60548 h_60547 c_60583_i (by decide) (by decide)
            refine lv_aload_n hx hb dX4_advance_71 rfl (lv_at hl 0 rfl) ?_
            refine lv_iconst (v := 0) hx hb dX4_advance_72 (by decide) ?_
            refine va_put (D := D) (ci := 4) (v := .int 0) (ty := .int) (C := RX4) (T := TX4) (N := 10) hx hb hts inlX4 tyX4 tyX4_ok nmX4 hown hK hP hD hS 0 rfl rfl 7 (by decide) (hts (Cond.fieldLink RX4 67 "ChanceRings$Reader" "token" "I") qw_369) (fun _ h9 => h9) rfl (by decide +kernel) rfl rfl (Nat.le_of_ble_eq_true rfl) dX4_advance_73 (fun H locs hP hD hS => ?_)
            have hP : va_P D vwCl [(wO4 rd tp n rd_kindWords ww fk fp x_60544 0 x_60544 0), (wO8 tp tp_bytes tl), (wI g tp_bytes 0 440 tf)] H := hP
            have hD : va_D A [(wO4 rd tp n rd_kindWords ww fk fp x_60544 0 x_60544 0), (wO8 tp tp_bytes tl), (wI g tp_bytes 0 440 tf)] := hD
            refine lv_goto (tgt := 162) hx hb dX4_advance_76 (by decide) ?_
            have hP9 := hP.sub (ws' := [(wO4 rd tp n rd_kindWords ww fk fp x_60544 0 x_60544 0), (wO8 tp tp_bytes tl), (wI g tp_bytes 0 440 tf)]) [0, 1, 2] rfl
            have hD9 := hD.sub (ws' := [(wO4 rd tp n rd_kindWords ww fk fp x_60544 0 x_60544 0), (wO8 tp tp_bytes tl), (wI g tp_bytes 0 440 tf)]) [0, 1, 2] (by decide) rfl
            exact W.vret hx hb hr (fun t ht hW => ⟨⟨(), rfl, trivial, x_60544, 0, x_60544, 0, (tr_w h_60584 (by decide) (by decide)), (⟨by decide, by decide⟩ : 0 ≤ (0 : Int32).toInt ∧ (0 : Int32).toInt ≤ 4), (tr_w h_60584 (by decide) (by decide)), (tk_none skp_9 (by rw [gb_v_60580]; (first | (clear h_fk h_fp h_nx h_tk h_tpl; omega) | omega)) (by decide) rfl), by rw [ht]; exact hP9, hD9⟩, hS.F ht⟩) hS.2.2 dX4_advance_162
        · skip
          have kk_32 := tk_32
          have c_60581_i : (v_60580 : Int32).toInt = (32 : Int32).toInt := congrArg Int32.toInt c_60581
          have h_60582 : 32 ≤ (v_60580 : Int32).toInt ∧ (v_60580 : Int32).toInt ≤ 32 := nr_eq_l h_v_60580 (⟨by decide, by decide⟩ : 32 ≤ (32 : Int32).toInt ∧ (32 : Int32).toInt ≤ 32) c_60581_i (by decide) (by decide)
          refine lv_aload_n hx hb dX4_advance_31 rfl (lv_at hl 0 rfl) ?_
          refine lv_dup hx hb dX4_advance_32 rfl ?_
          refine va_get (D := D) (ci := 4) (v := .int x_60544) (C := RX4) (T := TX4) (N := 10) hx hb hts inlX4 hown hK hP 0 rfl rfl 6 (by decide) (hts (Cond.fieldLink RX4 61 "ChanceRings$Reader" "next" "I") qw_366) (fun _ h9 => h9) rfl dX4_advance_33 ?_
          refine lv_iconst (v := 1) hx hb dX4_advance_36 (by decide) ?_
          refine lv_iadd hx hb dX4_advance_37 ?_
          refine lv_topi (fun v_60613 v_60613_e => ?_)
          have h_v_60613 : 1 ≤ (v_60613 : Int32).toInt ∧ (v_60613 : Int32).toInt ≤ 440 := by rw [v_60613_e]; exact tr_add h_60547 (⟨by decide, by decide⟩ : 1 ≤ (1 : Int32).toInt ∧ (1 : Int32).toInt ≤ 1) (by decide) (by decide) (by decide) (by decide)
          have q_v_60613 : v_60613.toInt = x_60544.toInt + 1 := by rw [v_60613_e]; exact tr_addE h_60547 (⟨by decide, by decide⟩ : 1 ≤ (1 : Int32).toInt ∧ (1 : Int32).toInt ≤ 1) (by decide) (by decide)
          refine va_put (D := D) (ci := 4) (v := .int v_60613) (ty := .int) (C := RX4) (T := TX4) (N := 10) hx hb hts inlX4 tyX4 tyX4_ok nmX4 hown hK hP hD hS 0 rfl rfl 6 (by decide) (hts (Cond.fieldLink RX4 61 "ChanceRings$Reader" "next" "I") qw_366) (fun _ h9 => h9) rfl (by decide +kernel) rfl rfl (Nat.le_of_ble_eq_true rfl) dX4_advance_38 (fun H locs hP hD hS => ?_)
          have hP : va_P D vwCl [(wO4 rd tp n rd_kindWords ww fk fp v_60613 tk tpl tv), (wO8 tp tp_bytes tl), (wI g tp_bytes 0 440 tf)] H := hP
          have hD : va_D A [(wO4 rd tp n rd_kindWords ww fk fp v_60613 tk tpl tv), (wO8 tp tp_bytes tl), (wI g tp_bytes 0 440 tf)] := hD
          refine lv_goto (tgt := 0) hx hb dX4_advance_41 (by decide) ?_
          exact ih_60545 v_60613 H _ ls (tr_w h_v_60613 (by decide) (by decide)) (SKI.on hr60545_0 (by rw [gb_v_60580]; (first | (clear h_fk h_fp h_nx h_tk h_tpl; omega) | omega)) (by (first | (clear h_fk h_fp h_nx h_tk h_tpl; omega) | omega))) (by (first | (clear h_fk h_fp h_nx h_tk h_tpl; omega) | omega)) (hP.sub [0, 1, 2] rfl) (hD.sub [0, 1, 2] (by decide) rfl) hS (lv_sub hl [0] rfl)
  exact lp_60545 441 nx s.heap _ ls (tr_w h_nx (by decide) (by decide)) (SKI.zero rfl) (by (first | (clear h_fk h_fp h_tk h_tpl h_tl; omega) | omega)) (hP.sub [0, 1, 2] rfl) (hD.sub [0, 1, 2] (by decide) rfl) hS (lv_sub hl [0] rfl)
set_option maxHeartbeats 4000000 in
set_option maxRecDepth 100000 in
theorem c_X4_kindOf (l : Launch) (D : va_G) (g : Nat → ClassId) (rd : Nat) (p0 : Int32) (tp : Nat) (n : Nat) (rd_kindWords : Nat) (ww : Int32) (fk : Int32) (fp : Int32) (nx : Int32) (tk : Int32) (tpl : Int32) (tv : Int32) (kwf : Nat → Int32) (h_fk : 0 ≤ (fk : Int32).toInt ∧ (fk : Int32).toInt ≤ 5) (h_fp : 0 ≤ (fp : Int32).toInt ∧ (fp : Int32).toInt ≤ 440) (h_nx : 0 ≤ (nx : Int32).toInt ∧ (nx : Int32).toInt ≤ 440) (h_tk : 0 ≤ (tk : Int32).toInt ∧ (tk : Int32).toInt ≤ 4) (h_tpl : 0 ≤ (tpl : Int32).toInt ∧ (tpl : Int32).toInt ≤ 440) (hkw : KWs kwf) : Met l yX4_kindOf (.code yX4_kindOf cX4_kindOf 3 (some .int) :: wsL_law) ({ frames := 0, cells := 0, slots := 0, locals := 0 }) (va_Pc [.ref rd, .int p0] (fun U => va_P D vwCl [(wO4 rd tp n rd_kindWords ww fk fp nx tk tpl tv), (wI g rd_kindWords 0 4 kwf)] U.heap ∧ va_K D vwCl (TY g) U)) (vp_Si (fun r => ((-1) ≤ (r : Int32).toInt ∧ (r : Int32).toInt ≤ 3) ∧ ((r : Int32).toInt = kd3 (p0 : Int32).toInt))) 0 0 (fun _ => False) := by
  refine Met.ofW (cc := cX4_kindOf) (maxL := 3) (ret := (some .int)) (by decide) rfl ?_
  intro p e s m args below meth c s₁ B hml hv
  obtain ⟨ha, hP, hK⟩ := hv
  have hx := B.exec
  have hb := B.bytes
  have hr := B.returns
  have hts0 := atoms_spec (ws := (.code yX4_kindOf cX4_kindOf 3 (some .int) :: wsL_law)) B.pre
  have hts : ∀ w ∈ wsL_law, w.before args s = true := fun w h => hts0 w (List.mem_cons_of_mem _ h)
  have hown : s.vm.findClass RX4 = some m.cls := findClass_of_methodNamed B.named
  have hlocks := B.notSynchronized
  have hP : va_P D vwCl [(wO4 rd tp n rd_kindWords ww fk fp nx tk tpl tv), (wI g rd_kindWords 0 4 kwf)] s.heap := hP
  refine W.eq (g2 := entryFrame m ([.ref rd, .int p0] : List Value).toArray 3) (by rw [ha]) ?_
  have hl := lv_entry ([.ref rd, .int p0]) (n := 3) (Nat.le_of_ble_eq_true rfl)
  rw [lg_entry_eq]
  generalize (lg_sl ([.ref rd, .int p0]) ++ List.replicate (3 - (lg_sl ([.ref rd, .int p0])).length) Slot.unset).toArray = ls at hl ⊢
  have hl : lv_has ls 3 [(0, .ref rd), (1, .int p0)] := hl
  refine lv_iconst (v := 0) hx hb dX4_kindOf_0 (by decide) ?_
  refine lv_istore_n (lv' := [(2, .int 0), (0, .ref rd), (1, .int p0)]) hx hb dX4_kindOf_1 rfl hl (by decide) rfl (fun ls hl => ?_)
  refine lv_iload_n hx hb dX4_kindOf_2 rfl (lv_at hl 0 rfl) ?_
  refine lv_iconst (v := 3) hx hb dX4_kindOf_3 (by decide) ?_
  refine lv_icmp_gt (tgt := 25) hx hb dX4_kindOf_4 (by decide) (fun h9 => absurd h9 (by decide)) (fun _ => ?_)
  refine lv_aload_n hx hb dX4_kindOf_7 rfl (lv_at hl 1 rfl) ?_
  refine va_get (D := D) (ci := 4) (v := .ref rd_kindWords) (C := RX4) (T := TX4) (N := 10) hx hb hts inlX4 hown hK hP 0 rfl rfl 2 (by decide) (hts (Cond.fieldLink RX4 31 "ChanceRings$Reader" "kindWords" "[I") qw_382) (fun _ h9 => h9) rfl dX4_kindOf_8 ?_
  refine lv_iload_n hx hb dX4_kindOf_11 rfl (lv_at hl 0 rfl) ?_
  refine va_iald hx hb hK hP 1 0 rfl rfl (tz_in (by decide +kernel)) dX4_kindOf_12 ?_
  refine lv_topi (fun v_60614 v_60614_e => ?_)
  have g_v_60614 : v_60614 = kwf (0) := v_60614_e.trans (congrArg kwf rfl)
  have gi_v_60614 := congrArg Int32.toInt g_v_60614
  refine lv_iload_n hx hb dX4_kindOf_13 rfl (lv_at hl 2 rfl) ?_
  refine lv_icmp_ne (tgt := 19) hx hb dX4_kindOf_14 (by decide) (fun c_60615 => ?_) (fun c_60615 => ?_)
  · skip
    have c_60615_i : ¬ (v_60614 : Int32).toInt = (p0 : Int32).toInt := (fun q => c_60615 (Int32.toInt_inj.mp q))
    refine lv_iinc (v := 1) (lv' := [(2, .int 1), (0, .ref rd), (1, .int p0)]) hx hb dX4_kindOf_19 hl (k := 0) rfl (by decide) (by decide) rfl (fun ls hl => ?_)
    refine lv_goto (tgt := 2) hx hb dX4_kindOf_22 (by decide) ?_
    refine lv_iload_n hx hb dX4_kindOf_2 rfl (lv_at hl 0 rfl) ?_
    refine lv_iconst (v := 3) hx hb dX4_kindOf_3 (by decide) ?_
    refine lv_icmp_gt (tgt := 25) hx hb dX4_kindOf_4 (by decide) (fun h9 => absurd h9 (by decide)) (fun _ => ?_)
    refine lv_aload_n hx hb dX4_kindOf_7 rfl (lv_at hl 1 rfl) ?_
    refine va_get (D := D) (ci := 4) (v := .ref rd_kindWords) (C := RX4) (T := TX4) (N := 10) hx hb hts inlX4 hown hK hP 0 rfl rfl 2 (by decide) (hts (Cond.fieldLink RX4 31 "ChanceRings$Reader" "kindWords" "[I") qw_382) (fun _ h9 => h9) rfl dX4_kindOf_8 ?_
    refine lv_iload_n hx hb dX4_kindOf_11 rfl (lv_at hl 0 rfl) ?_
    refine va_iald hx hb hK hP 1 0 rfl rfl (tz_in (by decide +kernel)) dX4_kindOf_12 ?_
    refine lv_topi (fun v_60616 v_60616_e => ?_)
    have g_v_60616 : v_60616 = kwf (1) := v_60616_e.trans (congrArg kwf rfl)
    have gi_v_60616 := congrArg Int32.toInt g_v_60616
    refine lv_iload_n hx hb dX4_kindOf_13 rfl (lv_at hl 2 rfl) ?_
    refine lv_icmp_ne (tgt := 19) hx hb dX4_kindOf_14 (by decide) (fun c_60617 => ?_) (fun c_60617 => ?_)
    · skip
      have c_60617_i : ¬ (v_60616 : Int32).toInt = (p0 : Int32).toInt := (fun q => c_60617 (Int32.toInt_inj.mp q))
      refine lv_iinc (v := 2) (lv' := [(2, .int 2), (0, .ref rd), (1, .int p0)]) hx hb dX4_kindOf_19 hl (k := 0) rfl (by decide) (by decide) rfl (fun ls hl => ?_)
      refine lv_goto (tgt := 2) hx hb dX4_kindOf_22 (by decide) ?_
      refine lv_iload_n hx hb dX4_kindOf_2 rfl (lv_at hl 0 rfl) ?_
      refine lv_iconst (v := 3) hx hb dX4_kindOf_3 (by decide) ?_
      refine lv_icmp_gt (tgt := 25) hx hb dX4_kindOf_4 (by decide) (fun h9 => absurd h9 (by decide)) (fun _ => ?_)
      refine lv_aload_n hx hb dX4_kindOf_7 rfl (lv_at hl 1 rfl) ?_
      refine va_get (D := D) (ci := 4) (v := .ref rd_kindWords) (C := RX4) (T := TX4) (N := 10) hx hb hts inlX4 hown hK hP 0 rfl rfl 2 (by decide) (hts (Cond.fieldLink RX4 31 "ChanceRings$Reader" "kindWords" "[I") qw_382) (fun _ h9 => h9) rfl dX4_kindOf_8 ?_
      refine lv_iload_n hx hb dX4_kindOf_11 rfl (lv_at hl 0 rfl) ?_
      refine va_iald hx hb hK hP 1 0 rfl rfl (tz_in (by decide +kernel)) dX4_kindOf_12 ?_
      refine lv_topi (fun v_60618 v_60618_e => ?_)
      have g_v_60618 : v_60618 = kwf (2) := v_60618_e.trans (congrArg kwf rfl)
      have gi_v_60618 := congrArg Int32.toInt g_v_60618
      refine lv_iload_n hx hb dX4_kindOf_13 rfl (lv_at hl 2 rfl) ?_
      refine lv_icmp_ne (tgt := 19) hx hb dX4_kindOf_14 (by decide) (fun c_60619 => ?_) (fun c_60619 => ?_)
      · skip
        have c_60619_i : ¬ (v_60618 : Int32).toInt = (p0 : Int32).toInt := (fun q => c_60619 (Int32.toInt_inj.mp q))
        refine lv_iinc (v := 3) (lv' := [(2, .int 3), (0, .ref rd), (1, .int p0)]) hx hb dX4_kindOf_19 hl (k := 0) rfl (by decide) (by decide) rfl (fun ls hl => ?_)
        refine lv_goto (tgt := 2) hx hb dX4_kindOf_22 (by decide) ?_
        refine lv_iload_n hx hb dX4_kindOf_2 rfl (lv_at hl 0 rfl) ?_
        refine lv_iconst (v := 3) hx hb dX4_kindOf_3 (by decide) ?_
        refine lv_icmp_gt (tgt := 25) hx hb dX4_kindOf_4 (by decide) (fun h9 => absurd h9 (by decide)) (fun _ => ?_)
        refine lv_aload_n hx hb dX4_kindOf_7 rfl (lv_at hl 1 rfl) ?_
        refine va_get (D := D) (ci := 4) (v := .ref rd_kindWords) (C := RX4) (T := TX4) (N := 10) hx hb hts inlX4 hown hK hP 0 rfl rfl 2 (by decide) (hts (Cond.fieldLink RX4 31 "ChanceRings$Reader" "kindWords" "[I") qw_382) (fun _ h9 => h9) rfl dX4_kindOf_8 ?_
        refine lv_iload_n hx hb dX4_kindOf_11 rfl (lv_at hl 0 rfl) ?_
        refine va_iald hx hb hK hP 1 0 rfl rfl (tz_in (by decide +kernel)) dX4_kindOf_12 ?_
        refine lv_topi (fun v_60620 v_60620_e => ?_)
        have g_v_60620 : v_60620 = kwf (3) := v_60620_e.trans (congrArg kwf rfl)
        have gi_v_60620 := congrArg Int32.toInt g_v_60620
        refine lv_iload_n hx hb dX4_kindOf_13 rfl (lv_at hl 2 rfl) ?_
        refine lv_icmp_ne (tgt := 19) hx hb dX4_kindOf_14 (by decide) (fun c_60621 => ?_) (fun c_60621 => ?_)
        · skip
          have c_60621_i : ¬ (v_60620 : Int32).toInt = (p0 : Int32).toInt := (fun q => c_60621 (Int32.toInt_inj.mp q))
          refine lv_iinc (v := 4) (lv' := [(2, .int 4), (0, .ref rd), (1, .int p0)]) hx hb dX4_kindOf_19 hl (k := 0) rfl (by decide) (by decide) rfl (fun ls hl => ?_)
          refine lv_goto (tgt := 2) hx hb dX4_kindOf_22 (by decide) ?_
          refine lv_iload_n hx hb dX4_kindOf_2 rfl (lv_at hl 0 rfl) ?_
          refine lv_iconst (v := 3) hx hb dX4_kindOf_3 (by decide) ?_
          refine lv_icmp_gt (tgt := 25) hx hb dX4_kindOf_4 (by decide) (fun _ => ?_) (fun h9 => (h9 (by decide)).elim)
          refine lv_iconst (v := (-1)) hx hb dX4_kindOf_25 (by decide) ?_
          exact W.iret (v := (-1)) hx hb hr (fun t ht hW => ⟨(-1), rfl, ⟨(⟨by decide, by decide⟩ : (-1) ≤ ((-1) : Int32).toInt ∧ ((-1) : Int32).toInt ≤ 3), (by have h9 := hkw; unfold KWs at h9; have z_0 := tk_0; have z_1 := tk_1; have z_2 := tk_2; have z_3 := tk_3; have z_m := tk_m1; unfold kd3; (repeat' split) <;> (first | (clear h_fk h_fp h_nx h_tk h_tpl g_v_60614 gi_v_60614 c_60615_i g_v_60616 gi_v_60616 c_60617_i g_v_60618 gi_v_60618 c_60619_i g_v_60620 gi_v_60620 c_60621_i; omega) | omega))⟩, ht⟩) (fun _ h => nomatch h) dX4_kindOf_26
        · skip
          have c_60621_i : (v_60620 : Int32).toInt = (p0 : Int32).toInt := congrArg Int32.toInt c_60621
          refine lv_iload_n hx hb dX4_kindOf_17 rfl (lv_at hl 0 rfl) ?_
          exact W.iret (v := 3) hx hb hr (fun t ht hW => ⟨3, rfl, ⟨(⟨by decide, by decide⟩ : (-1) ≤ (3 : Int32).toInt ∧ (3 : Int32).toInt ≤ 3), (by have h9 := hkw; unfold KWs at h9; have z_0 := tk_0; have z_1 := tk_1; have z_2 := tk_2; have z_3 := tk_3; have z_m := tk_m1; unfold kd3; (repeat' split) <;> (first | (clear h_fk h_fp h_nx h_tk h_tpl g_v_60614 gi_v_60614 c_60615_i g_v_60616 gi_v_60616 c_60617_i g_v_60618 gi_v_60618 c_60619_i g_v_60620 gi_v_60620 c_60621_i; omega) | omega))⟩, ht⟩) (fun _ h => nomatch h) dX4_kindOf_18
      · skip
        have c_60619_i : (v_60618 : Int32).toInt = (p0 : Int32).toInt := congrArg Int32.toInt c_60619
        refine lv_iload_n hx hb dX4_kindOf_17 rfl (lv_at hl 0 rfl) ?_
        exact W.iret (v := 2) hx hb hr (fun t ht hW => ⟨2, rfl, ⟨(⟨by decide, by decide⟩ : (-1) ≤ (2 : Int32).toInt ∧ (2 : Int32).toInt ≤ 3), (by have h9 := hkw; unfold KWs at h9; have z_0 := tk_0; have z_1 := tk_1; have z_2 := tk_2; have z_3 := tk_3; have z_m := tk_m1; unfold kd3; (repeat' split) <;> (first | (clear h_fk h_fp h_nx h_tk h_tpl g_v_60614 gi_v_60614 c_60615_i g_v_60616 gi_v_60616 c_60617_i g_v_60618 gi_v_60618 c_60619_i; omega) | omega))⟩, ht⟩) (fun _ h => nomatch h) dX4_kindOf_18
    · skip
      have c_60617_i : (v_60616 : Int32).toInt = (p0 : Int32).toInt := congrArg Int32.toInt c_60617
      refine lv_iload_n hx hb dX4_kindOf_17 rfl (lv_at hl 0 rfl) ?_
      exact W.iret (v := 1) hx hb hr (fun t ht hW => ⟨1, rfl, ⟨(⟨by decide, by decide⟩ : (-1) ≤ (1 : Int32).toInt ∧ (1 : Int32).toInt ≤ 3), (by have h9 := hkw; unfold KWs at h9; have z_0 := tk_0; have z_1 := tk_1; have z_2 := tk_2; have z_3 := tk_3; have z_m := tk_m1; unfold kd3; (repeat' split) <;> (first | (clear h_fk h_fp h_nx h_tk h_tpl g_v_60614 gi_v_60614 c_60615_i g_v_60616 gi_v_60616 c_60617_i; omega) | omega))⟩, ht⟩) (fun _ h => nomatch h) dX4_kindOf_18
  · skip
    have c_60615_i : (v_60614 : Int32).toInt = (p0 : Int32).toInt := congrArg Int32.toInt c_60615
    refine lv_iload_n hx hb dX4_kindOf_17 rfl (lv_at hl 0 rfl) ?_
    exact W.iret (v := 0) hx hb hr (fun t ht hW => ⟨0, rfl, ⟨(⟨by decide, by decide⟩ : (-1) ≤ (0 : Int32).toInt ∧ (0 : Int32).toInt ≤ 3), (by have h9 := hkw; unfold KWs at h9; have z_0 := tk_0; have z_1 := tk_1; have z_2 := tk_2; have z_3 := tk_3; have z_m := tk_m1; unfold kd3; (repeat' split) <;> (first | (clear h_fk h_fp h_nx h_tk h_tpl g_v_60614 gi_v_60614 c_60615_i; omega) | omega))⟩, ht⟩) (fun _ h => nomatch h) dX4_kindOf_18
set_option maxHeartbeats 4000000 in
set_option maxRecDepth 100000 in
theorem c_X4_isName (l : Launch) (D : va_G) (g : Nat → ClassId) (rd : Nat) (tp : Nat) (n : Nat) (rd_kindWords : Nat) (ww : Int32) (fk : Int32) (fp : Int32) (nx : Int32) (tk : Int32) (tpl : Int32) (tv : Int32) (kwf : Nat → Int32) (h_fk : 0 ≤ (fk : Int32).toInt ∧ (fk : Int32).toInt ≤ 5) (h_fp : 0 ≤ (fp : Int32).toInt ∧ (fp : Int32).toInt ≤ 440) (h_nx : 0 ≤ (nx : Int32).toInt ∧ (nx : Int32).toInt ≤ 440) (h_tk : 0 ≤ (tk : Int32).toInt ∧ (tk : Int32).toInt ≤ 4) (h_tpl : 0 ≤ (tpl : Int32).toInt ∧ (tpl : Int32).toInt ≤ 440) (hkw : KWs kwf) (hww : (ww : Int32).toInt = 16819) : Met l yX4_isName (.code yX4_isName cX4_isName 1 (some .boolean) :: wsL_law) ({ frames := 1, cells := 0, slots := 0, locals := 22 }) (va_Pc [.ref rd] (fun U => va_P D vwCl [(wO4 rd tp n rd_kindWords ww fk fp nx tk tpl tv), (wI g rd_kindWords 0 4 kwf)] U.heap ∧ va_K D vwCl (TY g) U)) (vp_Si (fun r => (0 ≤ (r : Int32).toInt ∧ (r : Int32).toInt ≤ 1) ∧ (Hide (¬ (r : Int32).toInt = 0 → NMC (tk : Int32).toInt (tv : Int32).toInt)) ∧ (Hide ((r : Int32).toInt = 0 → ¬ NMC (tk : Int32).toInt (tv : Int32).toInt)))) 0 0 (fun _ => False) := by
  refine Met.ofW (cc := cX4_isName) (maxL := 1) (ret := (some .boolean)) (by decide) rfl ?_
  intro p e s m args below meth c s₁ B hml hv
  obtain ⟨ha, hP, hK⟩ := hv
  have hx := B.exec
  have hb := B.bytes
  have hr := B.returns
  have hts0 := atoms_spec (ws := (.code yX4_isName cX4_isName 1 (some .boolean) :: wsL_law)) B.pre
  have hts : ∀ w ∈ wsL_law, w.before args s = true := fun w h => hts0 w (List.mem_cons_of_mem _ h)
  have hown : s.vm.findClass RX4 = some m.cls := findClass_of_methodNamed B.named
  have hlocks := B.notSynchronized
  have hP : va_P D vwCl [(wO4 rd tp n rd_kindWords ww fk fp nx tk tpl tv), (wI g rd_kindWords 0 4 kwf)] s.heap := hP
  refine W.eq (g2 := entryFrame m ([.ref rd] : List Value).toArray 1) (by rw [ha]) ?_
  have hl := lv_entry ([.ref rd]) (n := 1) (Nat.le_of_ble_eq_true rfl)
  rw [lg_entry_eq]
  generalize (lg_sl ([.ref rd]) ++ List.replicate (1 - (lg_sl ([.ref rd])).length) Slot.unset).toArray = ls at hl ⊢
  have hl : lv_has ls 1 [(0, .ref rd)] := hl
  refine lv_aload_n hx hb dX4_isName_0 rfl (lv_at hl 0 rfl) ?_
  refine va_get (D := D) (ci := 4) (v := .int tk) (C := RX4) (T := TX4) (N := 10) hx hb hts inlX4 hown hK hP 0 rfl rfl 7 (by decide) (hts (Cond.fieldLink RX4 67 "ChanceRings$Reader" "token" "I") qw_369) (fun _ h9 => h9) rfl dX4_isName_1 ?_
  refine lv_iconst (v := 1) hx hb dX4_isName_4 (by decide) ?_
  refine lv_icmp_ne (tgt := 35) hx hb dX4_isName_5 (by decide) (fun c_60622 => ?_) (fun c_60622 => ?_)
  · skip
    have kk_1 := tk_1
    have c_60622_i : ¬ (tk : Int32).toInt = (1 : Int32).toInt := (fun q => c_60622 (Int32.toInt_inj.mp q))
    refine lv_iconst (v := 0) hx hb dX4_isName_35 (by decide) ?_
    exact W.zret (v := 0) hx hb hr (by decide) (fun t ht hW => ⟨0, rfl, ⟨(⟨by decide, by decide⟩ : 0 ≤ (0 : Int32).toInt ∧ (0 : Int32).toInt ≤ 1), (fun h9 => absurd (by decide) h9), (fun _ q9 => absurd q9.1 (by have z_0 := tk_0; have z_1 := tk_1; have z_m := tk_m1; (first | (clear h_fk h_fp h_nx h_tk h_tpl hww c_60622_i; omega) | omega)))⟩, ht⟩) (fun _ h => nomatch h) dX4_isName_36
  · skip
    have kk_1 := tk_1
    have c_60622_i : (tk : Int32).toInt = (1 : Int32).toInt := congrArg Int32.toInt c_60622
    have h_60623 : 1 ≤ (tk : Int32).toInt ∧ (tk : Int32).toInt ≤ 1 := nr_eq_l h_tk (⟨by decide, by decide⟩ : 1 ≤ (1 : Int32).toInt ∧ (1 : Int32).toInt ≤ 1) c_60622_i (by decide) (by decide)
    refine lv_aload_n hx hb dX4_isName_8 rfl (lv_at hl 0 rfl) ?_
    refine va_get (D := D) (ci := 4) (v := .int tv) (C := RX4) (T := TX4) (N := 10) hx hb hts inlX4 hown hK hP 0 rfl rfl 9 (by decide) (hts (Cond.fieldLink RX4 86 "ChanceRings$Reader" "tokenValue" "I") qw_374) (fun _ h9 => h9) rfl dX4_isName_9 ?_
    refine lv_aload_n hx hb dX4_isName_12 rfl (lv_at hl 0 rfl) ?_
    refine va_get (D := D) (ci := 4) (v := .int ww) (C := RX4) (T := TX4) (N := 10) hx hb hts inlX4 hown hK hP 0 rfl rfl 3 (by decide) (hts (Cond.fieldLink RX4 37 "ChanceRings$Reader" "wayWord" "I") qw_383) (fun _ h9 => h9) rfl dX4_isName_13 ?_
    refine lv_icmp_eq (tgt := 35) hx hb dX4_isName_16 (by decide) (fun c_60624 => ?_) (fun c_60624 => ?_)
    · skip
      have c_60624_i : (tv : Int32).toInt = (ww : Int32).toInt := congrArg Int32.toInt c_60624
      refine lv_iconst (v := 0) hx hb dX4_isName_35 (by decide) ?_
      exact W.zret (v := 0) hx hb hr (by decide) (fun t ht hW => ⟨0, rfl, ⟨(⟨by decide, by decide⟩ : 0 ≤ (0 : Int32).toInt ∧ (0 : Int32).toInt ≤ 1), (fun h9 => absurd (by decide) h9), (fun _ => nmc_noW (by have z_0 := tk_0; have z_1 := tk_1; have z_m := tk_m1; (first | (clear h_fk h_fp h_nx h_tk h_tpl hww c_60622_i h_60623 c_60624_i; omega) | omega)))⟩, ht⟩) (fun _ h => nomatch h) dX4_isName_36
    · skip
      have c_60624_i : ¬ (tv : Int32).toInt = (ww : Int32).toInt := (fun q => c_60624 (Int32.toInt_inj.mp q))
      refine lv_aload_n hx hb dX4_isName_19 rfl (lv_at hl 0 rfl) ?_
      refine lv_aload_n hx hb dX4_isName_20 rfl (lv_at hl 0 rfl) ?_
      refine va_get (D := D) (ci := 4) (v := .int tv) (C := RX4) (T := TX4) (N := 10) hx hb hts inlX4 hown hK hP 0 rfl rfl 9 (by decide) (hts (Cond.fieldLink RX4 86 "ChanceRings$Reader" "tokenValue" "I") qw_374) (fun _ h9 => h9) rfl dX4_isName_21 ?_
      have hPc := hP.sub (ws' := [(wO4 rd tp n rd_kindWords ww fk fp nx tk tpl tv), (wI g rd_kindWords 0 4 kwf)]) [0, 1] rfl
      refine vp_callSi (va_Run.run (va_runV (As := [.int tv]) (rest := []) ⟨hx, hb, hml, hown, hts⟩ (c_X4_kindOf l D g rd tv tp n rd_kindWords ww fk fp nx tk tpl tv kwf (tr_w h_fk (by decide) (by decide)) (tr_w h_fp (by decide) (by decide)) (tr_w h_nx (by decide) (by decide)) (tr_w h_60623 (by decide) (by decide)) (tr_w h_tpl (by decide) (by decide)) hkw) (cwV 1 hts (tz_gV qw_384 qw_385 qw_386 qw_364 qw_387) rfl rfl rfl (by decide +kernel) ⟨Nat.le_of_ble_eq_true rfl, Nat.le_of_ble_eq_true rfl⟩) ⟨tz_blS, va_recv hK hPc (ci := 4) (q0 := 0) rfl rfl, tz_preS hPc hK⟩ rfl rfl hl.1 rfl (lv_room (Nat.le_of_ble_eq_true rfl)) dX4_isName_24 ⟨Nat.le_of_ble_eq_true rfl, Nat.le_of_ble_eq_true rfl⟩)) (fun r_60625 hw => ?_)
      have hw_60626 : (-1) ≤ (r_60625 : Int32).toInt ∧ (r_60625 : Int32).toInt ≤ 3 := hw.1
      have hw_60626_p0 : (r_60625 : Int32).toInt = kd3 (tv : Int32).toInt := hw.2
      refine lv_iconst (v := (-1)) hx hb dX4_isName_27 (by decide) ?_
      refine lv_icmp_ne (tgt := 35) hx hb dX4_isName_28 (by decide) (fun c_60627 => ?_) (fun c_60627 => ?_)
      · skip
        have kk_m1 := tk_m1
        have c_60627_i : ¬ (r_60625 : Int32).toInt = ((-1) : Int32).toInt := (fun q => c_60627 (Int32.toInt_inj.mp q))
        have h_60628 : 0 ≤ (r_60625 : Int32).toInt ∧ (r_60625 : Int32).toInt ≤ 3 := nr_ne_l hw_60626 (⟨by decide, by decide⟩ : (-1) ≤ ((-1) : Int32).toInt ∧ ((-1) : Int32).toInt ≤ (-1)) c_60627_i (by decide) (by decide)
        refine lv_iconst (v := 0) hx hb dX4_isName_35 (by decide) ?_
        exact W.zret (v := 0) hx hb hr (by decide) (fun t ht hW => ⟨0, rfl, ⟨(⟨by decide, by decide⟩ : 0 ≤ (0 : Int32).toInt ∧ (0 : Int32).toInt ≤ 1), (fun h9 => absurd (by decide) h9), (fun _ => nmc_no3 (by have k9 := hw_60626_p0; have z_0 := tk_0; have z_1 := tk_1; have z_m := tk_m1; (first | (clear h_fk h_fp h_nx h_tk h_tpl c_60622_i h_60623; omega) | omega)))⟩, ht⟩) (fun _ h => nomatch h) dX4_isName_36
      · skip
        have kk_m1 := tk_m1
        have c_60627_i : (r_60625 : Int32).toInt = ((-1) : Int32).toInt := congrArg Int32.toInt c_60627
        have h_60629 : (-1) ≤ (r_60625 : Int32).toInt ∧ (r_60625 : Int32).toInt ≤ (-1) := nr_eq_l hw_60626 (⟨by decide, by decide⟩ : (-1) ≤ ((-1) : Int32).toInt ∧ ((-1) : Int32).toInt ≤ (-1)) c_60627_i (by decide) (by decide)
        refine lv_iconst (v := 1) hx hb dX4_isName_31 (by decide) ?_
        refine lv_goto (tgt := 36) hx hb dX4_isName_32 (by decide) ?_
        exact W.zret (v := 1) hx hb hr (by decide) (fun t ht hW => ⟨1, rfl, ⟨(⟨by decide, by decide⟩ : 0 ≤ (1 : Int32).toInt ∧ (1 : Int32).toInt ≤ 1), (fun _ => ⟨by have z_0 := tk_0; have z_1 := tk_1; have z_m := tk_m1; (first | (clear h_fk h_fp h_nx h_tk h_tpl c_60622_i h_60623; omega) | omega), kd_none (by have k9 := hw_60626_p0; have z_0 := tk_0; have z_1 := tk_1; have z_m := tk_m1; (first | (clear h_fk h_fp h_nx h_tk h_tpl c_60622_i h_60623; omega) | omega)) (by have z_0 := tk_0; have z_1 := tk_1; have z_m := tk_m1; (first | (clear h_fk h_fp h_nx h_tk h_tpl c_60622_i h_60623; omega) | omega))⟩), (fun h9 => absurd h9 (by decide))⟩, ht⟩) (fun _ h => nomatch h) dX4_isName_36
set_option maxHeartbeats 4000000 in
set_option maxRecDepth 100000 in
theorem c_X4_isFull (l : Launch) (D : va_G) (g : Nat → ClassId) (rd : Nat) (p0 : Int32) (tp : Nat) (n : Nat) (rd_kindWords : Nat) (ww : Int32) (fk : Int32) (fp : Int32) (nx : Int32) (tk : Int32) (tpl : Int32) (tv : Int32) (n_nodes : Int32) (n_kind : Nat) (n_pay : Nat) (n_name : Nat) (n_ways : Nat) (n_held : Nat) (n_targets : Nat) (n_weights : Nat) (n_fkind : Nat → Int32) (h_p0 : 0 ≤ (p0 : Int32).toInt ∧ (p0 : Int32).toInt ≤ 3) (h_fk : 0 ≤ (fk : Int32).toInt ∧ (fk : Int32).toInt ≤ 5) (h_fp : 0 ≤ (fp : Int32).toInt ∧ (fp : Int32).toInt ≤ 440) (h_nx : 0 ≤ (nx : Int32).toInt ∧ (nx : Int32).toInt ≤ 440) (h_tk : 0 ≤ (tk : Int32).toInt ∧ (tk : Int32).toInt ≤ 4) (h_tpl : 0 ≤ (tpl : Int32).toInt ∧ (tpl : Int32).toInt ≤ 440) (h_n_nodes : 0 ≤ (n_nodes : Int32).toInt ∧ (n_nodes : Int32).toInt ≤ 12) (h_n_fkind : ∀ j : Nat, 0 ≤ (n_fkind j).toInt ∧ (n_fkind j).toInt ≤ 3) : Met l yX4_isFull (.code yX4_isFull cX4_isFull 3 (some .boolean) :: wsL_law) ({ frames := 1, cells := 0, slots := 0, locals := 23 }) (va_Pc [.ref rd, .int p0] (fun U => va_P D vwCl [(wO4 rd tp n rd_kindWords ww fk fp nx tk tpl tv), (wO2 n n_nodes n_kind n_pay n_name n_ways n_held n_targets n_weights), (wI g n_kind 0 12 n_fkind)] U.heap ∧ va_K D vwCl (TY g) U)) (vp_Si (fun r => (0 ≤ (r : Int32).toInt ∧ (r : Int32).toInt ≤ 1) ∧ (Hide (¬ (r : Int32).toInt = 0 → FLk (n_nodes : Int32).toInt n_fkind (p0 : Int32).toInt)) ∧ (Hide ((r : Int32).toInt = 0 → ¬ FLk (n_nodes : Int32).toInt n_fkind (p0 : Int32).toInt)))) 0 0 (fun _ => False) := by
  refine Met.ofW (cc := cX4_isFull) (maxL := 3) (ret := (some .boolean)) (by decide) rfl ?_
  intro p e s m args below meth c s₁ B hml hv
  obtain ⟨ha, hP, hK⟩ := hv
  have hx := B.exec
  have hb := B.bytes
  have hr := B.returns
  have hts0 := atoms_spec (ws := (.code yX4_isFull cX4_isFull 3 (some .boolean) :: wsL_law)) B.pre
  have hts : ∀ w ∈ wsL_law, w.before args s = true := fun w h => hts0 w (List.mem_cons_of_mem _ h)
  have hown : s.vm.findClass RX4 = some m.cls := findClass_of_methodNamed B.named
  have hlocks := B.notSynchronized
  have hP : va_P D vwCl [(wO4 rd tp n rd_kindWords ww fk fp nx tk tpl tv), (wO2 n n_nodes n_kind n_pay n_name n_ways n_held n_targets n_weights), (wI g n_kind 0 12 n_fkind)] s.heap := hP
  refine W.eq (g2 := entryFrame m ([.ref rd, .int p0] : List Value).toArray 3) (by rw [ha]) ?_
  have hl := lv_entry ([.ref rd, .int p0]) (n := 3) (Nat.le_of_ble_eq_true rfl)
  rw [lg_entry_eq]
  generalize (lg_sl ([.ref rd, .int p0]) ++ List.replicate (3 - (lg_sl ([.ref rd, .int p0])).length) Slot.unset).toArray = ls at hl ⊢
  have hl : lv_has ls 3 [(0, .ref rd), (1, .int p0)] := hl
  refine lv_aload_n hx hb dX4_isFull_0 rfl (lv_at hl 0 rfl) ?_
  refine va_get (D := D) (ci := 4) (v := .ref n) (C := RX4) (T := TX4) (N := 10) hx hb hts inlX4 hown hK hP 0 rfl rfl 1 (by decide) (hts (Cond.fieldLink RX4 15 "ChanceRings$Reader" "net" "LChanceRings$Net;") qw_388) (fun _ h9 => h9) rfl dX4_isFull_1 ?_
  refine lv_iconst (v := 0) hx hb dX4_isFull_4 (by decide) ?_
  have hPc := hP.sub (ws' := [(wO2 n n_nodes n_kind n_pay n_name n_ways n_held n_targets n_weights), (wI g n_kind 0 12 n_fkind)]) [1, 2] rfl
  refine vp_callSi (va_Run.run (va_runV (As := [.int 0]) (rest := []) ⟨hx, hb, hml, hown, hts⟩ (c_X2_countOf l D g n 0 n_nodes n_kind n_pay n_name n_ways n_held n_targets n_weights n_fkind (tr_w h_n_nodes (by decide) (by decide)) (tr_wa h_n_fkind (by decide) (by decide))) (cwV 1 hts (tz_gV qw_389 qw_390 qw_391 qw_322 qw_392) rfl rfl rfl (by decide +kernel) ⟨Nat.le_of_ble_eq_true rfl, Nat.le_of_ble_eq_true rfl⟩) ⟨tz_blS, va_recv hK hPc (ci := 2) (q0 := 0) rfl rfl, tz_preS hPc hK⟩ rfl rfl hl.1 rfl (lv_room (Nat.le_of_ble_eq_true rfl)) dX4_isFull_5 ⟨Nat.le_of_ble_eq_true rfl, Nat.le_of_ble_eq_true rfl⟩)) (fun r_60630 hw => ?_)
  have kk_0 := tk_0
  have hw_60631 : 0 ≤ (r_60630 : Int32).toInt ∧ (r_60630 : Int32).toInt ≤ 12 := hw.1
  have hw_60631_p0 : (r_60630 : Int32).toInt = cnf (fun p => (n_fkind p).toInt) (0 : Int32).toInt (n_nodes : Int32).toInt.toNat := hw.2
  refine lv_istore_n (lv' := [(2, .int r_60630), (0, .ref rd), (1, .int p0)]) hx hb dX4_isFull_8 rfl hl (by decide) rfl (fun ls hl => ?_)
  refine lv_iload_n hx hb dX4_isFull_9 rfl (lv_at hl 2 rfl) ?_
  refine lv_if_ne (tgt := 24) hx hb dX4_isFull_10 (by decide) (fun c_60632 => ?_) (fun c_60632 => ?_)
  · skip
    have c_60632_i : ¬ (p0 : Int32).toInt = (0 : Int32).toInt := (fun q => c_60632 (Int32.toInt_inj.mp q))
    have h_60633 : 1 ≤ (p0 : Int32).toInt ∧ (p0 : Int32).toInt ≤ 3 := nr_ne_l h_p0 (⟨by decide, by decide⟩ : 0 ≤ (0 : Int32).toInt ∧ (0 : Int32).toInt ≤ 0) c_60632_i (by decide) (by decide)
    refine lv_aload_n hx hb dX4_isFull_24 rfl (lv_at hl 1 rfl) ?_
    refine va_get (D := D) (ci := 4) (v := .ref n) (C := RX4) (T := TX4) (N := 10) hx hb hts inlX4 hown hK hP 0 rfl rfl 1 (by decide) (hts (Cond.fieldLink RX4 15 "ChanceRings$Reader" "net" "LChanceRings$Net;") qw_388) (fun _ h9 => h9) rfl dX4_isFull_25 ?_
    refine va_get (D := D) (ci := 2) (v := .int n_nodes) (C := RX2) (T := TX2) (N := 8) hx hb hts inlX2 hown hK hP 1 rfl rfl 0 (by decide) (hts (Cond.fieldLink RX4 47 "ChanceRings$Net" "nodes" "I") qw_393) (fun _ h9 => h9) rfl dX4_isFull_28 ?_
    refine lv_iload_n hx hb dX4_isFull_31 rfl (lv_at hl 0 rfl) ?_
    refine lv_isub hx hb dX4_isFull_32 ?_
    refine lv_topi (fun v_60635 v_60635_e => ?_)
    have h_v_60635 : (-12) ≤ (v_60635 : Int32).toInt ∧ (v_60635 : Int32).toInt ≤ 12 := by rw [v_60635_e]; exact tr_sub h_n_nodes hw_60631 (by decide) (by decide) (by decide) (by decide)
    have q_v_60635 : v_60635.toInt = n_nodes.toInt - r_60630.toInt := by rw [v_60635_e]; exact tr_subX h_n_nodes hw_60631 (by decide) (by decide)
    refine lv_bipush (v := 8) hx hb dX4_isFull_33 (by decide) ?_
    refine lv_icmp_ge (tgt := 55) hx hb dX4_isFull_35 (by decide) (fun c_60636 => ?_) (fun c_60636 => ?_)
    · skip
      have kk_8 := tk_8
      have c_60636_i := Int32.le_iff_toInt_le.mp c_60636
      have h_60637 : 8 ≤ (v_60635 : Int32).toInt ∧ (v_60635 : Int32).toInt ≤ 12 := nr_le_r (⟨by decide, by decide⟩ : 8 ≤ (8 : Int32).toInt ∧ (8 : Int32).toInt ≤ 8) h_v_60635 c_60636_i (by decide) (by decide)
      refine lv_iconst (v := 1) hx hb dX4_isFull_55 (by decide) ?_
      refine lv_goto (tgt := 60) hx hb dX4_isFull_56 (by decide) ?_
      exact W.zret (v := 1) hx hb hr (by decide) (fun t ht hW => ⟨1, rfl, ⟨(⟨by decide, by decide⟩ : 0 ≤ (1 : Int32).toInt ∧ (1 : Int32).toInt ≤ 1), (fun _ => by have f0 := hw_60631_p0; rw [tk_0] at f0; unfold FLk; have z3 := tk_3; have z4 := tk_4; have z5 := tk_5; have z8 := tk_8; have z_0 := tk_0; (first | (clear h_p0 h_fk h_fp h_nx h_tk h_tpl c_60632_i h_60633; omega) | omega)), (fun h9 => absurd h9 (by decide))⟩, ht⟩) (fun _ h => nomatch h) dX4_isFull_60
    · skip
      have kk_8 := tk_8
      have c_60636_i := Int32.lt_iff_toInt_lt.mp (Int32.not_le.mp c_60636)
      have h_60638 : (-12) ≤ (v_60635 : Int32).toInt ∧ (v_60635 : Int32).toInt ≤ 7 := nr_lt_l h_v_60635 (⟨by decide, by decide⟩ : 8 ≤ (8 : Int32).toInt ∧ (8 : Int32).toInt ≤ 8) c_60636_i (by decide) (by decide)
      refine lv_iload_n hx hb dX4_isFull_38 rfl (lv_at hl 2 rfl) ?_
      refine lv_iconst (v := 3) hx hb dX4_isFull_39 (by decide) ?_
      refine lv_icmp_ne (tgt := 59) hx hb dX4_isFull_40 (by decide) (fun c_60639 => ?_) (fun c_60639 => ?_)
      · skip
        have kk_3 := tk_3
        have c_60639_i : ¬ (p0 : Int32).toInt = (3 : Int32).toInt := (fun q => c_60639 (Int32.toInt_inj.mp q))
        have h_60640 : 1 ≤ (p0 : Int32).toInt ∧ (p0 : Int32).toInt ≤ 2 := nr_ne_l h_60633 (⟨by decide, by decide⟩ : 3 ≤ (3 : Int32).toInt ∧ (3 : Int32).toInt ≤ 3) c_60639_i (by decide) (by decide)
        refine lv_iconst (v := 0) hx hb dX4_isFull_59 (by decide) ?_
        exact W.zret (v := 0) hx hb hr (by decide) (fun t ht hW => ⟨0, rfl, ⟨(⟨by decide, by decide⟩ : 0 ≤ (0 : Int32).toInt ∧ (0 : Int32).toInt ≤ 1), (fun h9 => absurd (by decide) h9), (fun _ => by have f0 := hw_60631_p0; rw [tk_0] at f0; unfold FLk; have z3 := tk_3; have z4 := tk_4; have z5 := tk_5; have z8 := tk_8; have z_0 := tk_0; (first | (clear h_p0 h_fk h_fp h_nx h_tk h_tpl c_60632_i h_60633 c_60639_i h_60640; omega) | omega))⟩, ht⟩) (fun _ h => nomatch h) dX4_isFull_60
      · skip
        have kk_3 := tk_3
        have c_60639_i : (p0 : Int32).toInt = (3 : Int32).toInt := congrArg Int32.toInt c_60639
        have h_60641 : 3 ≤ (p0 : Int32).toInt ∧ (p0 : Int32).toInt ≤ 3 := nr_eq_l h_60633 (⟨by decide, by decide⟩ : 3 ≤ (3 : Int32).toInt ∧ (3 : Int32).toInt ≤ 3) c_60639_i (by decide) (by decide)
        refine lv_aload_n hx hb dX4_isFull_43 rfl (lv_at hl 1 rfl) ?_
        refine va_get (D := D) (ci := 4) (v := .ref n) (C := RX4) (T := TX4) (N := 10) hx hb hts inlX4 hown hK hP 0 rfl rfl 1 (by decide) (hts (Cond.fieldLink RX4 15 "ChanceRings$Reader" "net" "LChanceRings$Net;") qw_388) (fun _ h9 => h9) rfl dX4_isFull_44 ?_
        refine lv_iconst (v := 3) hx hb dX4_isFull_47 (by decide) ?_
        have hPc := hP.sub (ws' := [(wO2 n n_nodes n_kind n_pay n_name n_ways n_held n_targets n_weights), (wI g n_kind 0 12 n_fkind)]) [1, 2] rfl
        refine vp_callSi (va_Run.run (va_runV (As := [.int 3]) (rest := []) ⟨hx, hb, hml, hown, hts⟩ (c_X2_countOf l D g n 3 n_nodes n_kind n_pay n_name n_ways n_held n_targets n_weights n_fkind (tr_w h_n_nodes (by decide) (by decide)) (tr_wa h_n_fkind (by decide) (by decide))) (cwV 1 hts (tz_gV qw_389 qw_390 qw_391 qw_322 qw_392) rfl rfl rfl (by decide +kernel) ⟨Nat.le_of_ble_eq_true rfl, Nat.le_of_ble_eq_true rfl⟩) ⟨tz_blS, va_recv hK hPc (ci := 2) (q0 := 0) rfl rfl, tz_preS hPc hK⟩ rfl rfl hl.1 rfl (lv_room (Nat.le_of_ble_eq_true rfl)) dX4_isFull_48 ⟨Nat.le_of_ble_eq_true rfl, Nat.le_of_ble_eq_true rfl⟩)) (fun r_60642 hw => ?_)
        have hw_60643 : 0 ≤ (r_60642 : Int32).toInt ∧ (r_60642 : Int32).toInt ≤ 12 := hw.1
        have hw_60643_p0 : (r_60642 : Int32).toInt = cnf (fun p => (n_fkind p).toInt) (3 : Int32).toInt (n_nodes : Int32).toInt.toNat := hw.2
        refine lv_iconst (v := 5) hx hb dX4_isFull_51 (by decide) ?_
        refine lv_icmp_lt (tgt := 59) hx hb dX4_isFull_52 (by decide) (fun c_60644 => ?_) (fun c_60644 => ?_)
        · skip
          have kk_5 := tk_5
          have c_60644_i := Int32.lt_iff_toInt_lt.mp c_60644
          have h_60645 : 0 ≤ (r_60642 : Int32).toInt ∧ (r_60642 : Int32).toInt ≤ 4 := nr_lt_l hw_60643 (⟨by decide, by decide⟩ : 5 ≤ (5 : Int32).toInt ∧ (5 : Int32).toInt ≤ 5) c_60644_i (by decide) (by decide)
          refine lv_iconst (v := 0) hx hb dX4_isFull_59 (by decide) ?_
          exact W.zret (v := 0) hx hb hr (by decide) (fun t ht hW => ⟨0, rfl, ⟨(⟨by decide, by decide⟩ : 0 ≤ (0 : Int32).toInt ∧ (0 : Int32).toInt ≤ 1), (fun h9 => absurd (by decide) h9), (fun _ => by have f0 := hw_60631_p0; have f1 := hw_60643_p0; rw [tk_0] at f0; rw [tk_3] at f1; unfold FLk; have z3 := tk_3; have z4 := tk_4; have z5 := tk_5; have z8 := tk_8; have z_0 := tk_0; (first | (clear h_p0 h_fk h_fp h_nx h_tk h_tpl c_60632_i h_60633 c_60639_i h_60641; omega) | omega))⟩, ht⟩) (fun _ h => nomatch h) dX4_isFull_60
        · skip
          have kk_5 := tk_5
          have c_60644_i := Int32.le_iff_toInt_le.mp (Int32.not_lt.mp c_60644)
          have h_60646 : 5 ≤ (r_60642 : Int32).toInt ∧ (r_60642 : Int32).toInt ≤ 12 := nr_le_r (⟨by decide, by decide⟩ : 5 ≤ (5 : Int32).toInt ∧ (5 : Int32).toInt ≤ 5) hw_60643 c_60644_i (by decide) (by decide)
          refine lv_iconst (v := 1) hx hb dX4_isFull_55 (by decide) ?_
          refine lv_goto (tgt := 60) hx hb dX4_isFull_56 (by decide) ?_
          exact W.zret (v := 1) hx hb hr (by decide) (fun t ht hW => ⟨1, rfl, ⟨(⟨by decide, by decide⟩ : 0 ≤ (1 : Int32).toInt ∧ (1 : Int32).toInt ≤ 1), (fun _ => by have f0 := hw_60631_p0; have f1 := hw_60643_p0; rw [tk_0] at f0; rw [tk_3] at f1; unfold FLk; have z3 := tk_3; have z4 := tk_4; have z5 := tk_5; have z8 := tk_8; have z_0 := tk_0; (first | (clear h_p0 h_fk h_fp h_nx h_tk h_tpl c_60632_i h_60633 c_60639_i h_60641; omega) | omega)), (fun h9 => absurd h9 (by decide))⟩, ht⟩) (fun _ h => nomatch h) dX4_isFull_60
  · skip
    have c_60632_i : (p0 : Int32).toInt = (0 : Int32).toInt := congrArg Int32.toInt c_60632
    have h_60634 : 0 ≤ (p0 : Int32).toInt ∧ (p0 : Int32).toInt ≤ 0 := nr_eq_l h_p0 (⟨by decide, by decide⟩ : 0 ≤ (0 : Int32).toInt ∧ (0 : Int32).toInt ≤ 0) c_60632_i (by decide) (by decide)
    refine lv_iload_n hx hb dX4_isFull_13 rfl (lv_at hl 0 rfl) ?_
    refine lv_iconst (v := 4) hx hb dX4_isFull_14 (by decide) ?_
    refine lv_icmp_lt (tgt := 22) hx hb dX4_isFull_15 (by decide) (fun c_60647 => ?_) (fun c_60647 => ?_)
    · skip
      have kk_4 := tk_4
      have c_60647_i := Int32.lt_iff_toInt_lt.mp c_60647
      have h_60648 : 0 ≤ (r_60630 : Int32).toInt ∧ (r_60630 : Int32).toInt ≤ 3 := nr_lt_l hw_60631 (⟨by decide, by decide⟩ : 4 ≤ (4 : Int32).toInt ∧ (4 : Int32).toInt ≤ 4) c_60647_i (by decide) (by decide)
      refine lv_iconst (v := 0) hx hb dX4_isFull_22 (by decide) ?_
      exact W.zret (v := 0) hx hb hr (by decide) (fun t ht hW => ⟨0, rfl, ⟨(⟨by decide, by decide⟩ : 0 ≤ (0 : Int32).toInt ∧ (0 : Int32).toInt ≤ 1), (fun h9 => absurd (by decide) h9), (fun _ => by have f0 := hw_60631_p0; rw [tk_0] at f0; unfold FLk; have z3 := tk_3; have z4 := tk_4; have z5 := tk_5; have z8 := tk_8; have z_0 := tk_0; (first | (clear h_p0 h_fk h_fp h_nx h_tk h_tpl c_60632_i h_60634; omega) | omega))⟩, ht⟩) (fun _ h => nomatch h) dX4_isFull_23
    · skip
      have kk_4 := tk_4
      have c_60647_i := Int32.le_iff_toInt_le.mp (Int32.not_lt.mp c_60647)
      have h_60649 : 4 ≤ (r_60630 : Int32).toInt ∧ (r_60630 : Int32).toInt ≤ 12 := nr_le_r (⟨by decide, by decide⟩ : 4 ≤ (4 : Int32).toInt ∧ (4 : Int32).toInt ≤ 4) hw_60631 c_60647_i (by decide) (by decide)
      refine lv_iconst (v := 1) hx hb dX4_isFull_18 (by decide) ?_
      refine lv_goto (tgt := 23) hx hb dX4_isFull_19 (by decide) ?_
      exact W.zret (v := 1) hx hb hr (by decide) (fun t ht hW => ⟨1, rfl, ⟨(⟨by decide, by decide⟩ : 0 ≤ (1 : Int32).toInt ∧ (1 : Int32).toInt ≤ 1), (fun _ => by have f0 := hw_60631_p0; rw [tk_0] at f0; unfold FLk; have z3 := tk_3; have z4 := tk_4; have z5 := tk_5; have z8 := tk_8; have z_0 := tk_0; (first | (clear h_p0 h_fk h_fp h_nx h_tk h_tpl c_60632_i h_60634; omega) | omega)), (fun h9 => absurd h9 (by decide))⟩, ht⟩) (fun _ h => nomatch h) dX4_isFull_23
set_option maxHeartbeats 4000000 in
set_option maxRecDepth 100000 in
theorem c_X4_isPay (l : Launch) (D : va_G) (g : Nat → ClassId) (sz : Nat) (rd : Nat) (tp : Nat) (n : Nat) (rd_kindWords : Nat) (ww : Int32) (fk : Int32) (fp : Int32) (nx : Int32) (tk : Int32) (tpl : Int32) (tv : Int32) (h_fk : 0 ≤ (fk : Int32).toInt ∧ (fk : Int32).toInt ≤ 5) (h_fp : 0 ≤ (fp : Int32).toInt ∧ (fp : Int32).toInt ≤ 440) (h_nx : 0 ≤ (nx : Int32).toInt ∧ (nx : Int32).toInt ≤ 440) (h_tk : 0 ≤ (tk : Int32).toInt ∧ (tk : Int32).toInt ≤ 4) (h_tpl : 0 ≤ (tpl : Int32).toInt ∧ (tpl : Int32).toInt ≤ 440) (hfk : (fk : Int32).toInt = 0) : Met l yX4_isPay (.code yX4_isPay cX4_isPay 1 (some .boolean) :: wsL_law) ({ frames := 2, cells := 0, slots := 0, locals := 43 }) (va_Pc [.ref rd] (fun U => U.heap.size = sz ∧ va_P D vwCl [(wO4 rd tp n rd_kindWords ww fk fp nx tk tpl tv)] U.heap ∧ va_K D vwCl (TY g) U ∧ va_D (fun _ => True) [(wO4 rd tp n rd_kindWords ww fk fp nx tk tpl tv)])) (va_Qi (fun (r u : Int32) => u = r ∧ (0 ≤ (r : Int32).toInt ∧ (r : Int32).toInt ≤ 1)) (fun r t => ∃ ofk : Int32, ∃ ofp : Int32, (0 ≤ (ofk : Int32).toInt ∧ (ofk : Int32).toInt ≤ 5) ∧ (0 ≤ (ofp : Int32).toInt ∧ (ofp : Int32).toInt ≤ 440) ∧ (Hide (¬ (r : Int32).toInt = 0 → (tk : Int32).toInt = 2 ∧ (tv : Int32).toInt ≤ 9 ∧ (ofk : Int32).toInt = 0)) ∧ (Hide ((r : Int32).toInt = 0 → ((tk : Int32).toInt ≠ 2 ∨ 9 < (tv : Int32).toInt) ∧ (¬ (ofk : Int32).toInt = 0) ∧ (ofp : Int32).toInt = (tpl : Int32).toInt)) ∧ va_P D vwCl [(wO4 rd tp n rd_kindWords ww ofk ofp nx tk tpl tv)] t.heap ∧ va_D (va_A [(wO4 rd tp n rd_kindWords ww fk fp nx tk tpl tv)] sz) [(wO4 rd tp n rd_kindWords ww ofk ofp nx tk tpl tv)]) (va_A [(wO4 rd tp n rd_kindWords ww fk fp nx tk tpl tv)] sz)) 0 0 (va_A [(wO4 rd tp n rd_kindWords ww fk fp nx tk tpl tv)] sz) := by
  refine Met.ofW (cc := cX4_isPay) (maxL := 1) (ret := (some .boolean)) (by decide) rfl ?_
  intro p e s m args below meth c s₁ B hml hv
  obtain ⟨ha, hsz, hP, hK, hD0⟩ := hv
  have hx := B.exec
  have hb := B.bytes
  have hr := B.returns
  have hts0 := atoms_spec (ws := (.code yX4_isPay cX4_isPay 1 (some .boolean) :: wsL_law)) B.pre
  have hts : ∀ w ∈ wsL_law, w.before args s = true := fun w h => hts0 w (List.mem_cons_of_mem _ h)
  have hown : s.vm.findClass RX4 = some m.cls := findClass_of_methodNamed B.named
  have hlocks := B.notSynchronized
  subst hsz
  have hD := hD0.self (sz := s.heap.size)
  generalize hAe : va_A [(wO4 rd tp n rd_kindWords ww fk fp nx tk tpl tv)] s.heap.size = A at hD ⊢
  have hA : ∀ q : Nat, s.heap.size ≤ q → A q := fun q h => by rw [← hAe]; exact Or.inr h
  have hS : va_S A s.heap s.heap [] := va_S.rf
  have hP : va_P D vwCl [(wO4 rd tp n rd_kindWords ww fk fp nx tk tpl tv)] s.heap := hP
  refine W.eq (g2 := entryFrame m ([.ref rd] : List Value).toArray 1) (by rw [ha]) ?_
  have hl := lv_entry ([.ref rd]) (n := 1) (Nat.le_of_ble_eq_true rfl)
  rw [lg_entry_eq]
  generalize (lg_sl ([.ref rd]) ++ List.replicate (1 - (lg_sl ([.ref rd])).length) Slot.unset).toArray = ls at hl ⊢
  have hl : lv_has ls 1 [(0, .ref rd)] := hl
  have h_60650 : 0 ≤ (fk : Int32).toInt ∧ (fk : Int32).toInt ≤ 0 := by (first | (clear h_fp h_nx h_tk h_tpl; omega) | omega)
  refine lv_aload_n hx hb dX4_isPay_0 rfl (lv_at hl 0 rfl) ?_
  refine va_get (D := D) (ci := 4) (v := .int tk) (C := RX4) (T := TX4) (N := 10) hx hb hts inlX4 hown hK hP 0 rfl rfl 7 (by decide) (hts (Cond.fieldLink RX4 67 "ChanceRings$Reader" "token" "I") qw_369) (fun _ h9 => h9) rfl dX4_isPay_1 ?_
  refine lv_iconst (v := 2) hx hb dX4_isPay_4 (by decide) ?_
  refine lv_icmp_eq (tgt := 16) hx hb dX4_isPay_5 (by decide) (fun c_60651 => ?_) (fun c_60651 => ?_)
  · skip
    have kk_2 := tk_2
    have c_60651_i : (tk : Int32).toInt = (2 : Int32).toInt := congrArg Int32.toInt c_60651
    have h_60652 : 2 ≤ (tk : Int32).toInt ∧ (tk : Int32).toInt ≤ 2 := nr_eq_l h_tk (⟨by decide, by decide⟩ : 2 ≤ (2 : Int32).toInt ∧ (2 : Int32).toInt ≤ 2) c_60651_i (by decide) (by decide)
    refine lv_aload_n hx hb dX4_isPay_16 rfl (lv_at hl 0 rfl) ?_
    refine va_get (D := D) (ci := 4) (v := .int tv) (C := RX4) (T := TX4) (N := 10) hx hb hts inlX4 hown hK hP 0 rfl rfl 9 (by decide) (hts (Cond.fieldLink RX4 86 "ChanceRings$Reader" "tokenValue" "I") qw_374) (fun _ h9 => h9) rfl dX4_isPay_17 ?_
    refine lv_bipush (v := 9) hx hb dX4_isPay_20 (by decide) ?_
    refine lv_icmp_le (tgt := 30) hx hb dX4_isPay_22 (by decide) (fun c_60653 => ?_) (fun c_60653 => ?_)
    · skip
      have kk_9 := tk_9
      have c_60653_i := Int32.le_iff_toInt_le.mp c_60653
      have h_60654 : (-2147483648) ≤ (tv : Int32).toInt ∧ (tv : Int32).toInt ≤ 9 := nr_le_l (tr_any tv) (⟨by decide, by decide⟩ : 9 ≤ (9 : Int32).toInt ∧ (9 : Int32).toInt ≤ 9) c_60653_i (by decide) (by decide)
      refine lv_aload_n hx hb dX4_isPay_30 rfl (lv_at hl 0 rfl) ?_
      refine va_get (D := D) (ci := 4) (v := .int fk) (C := RX4) (T := TX4) (N := 10) hx hb hts inlX4 hown hK hP 0 rfl rfl 4 (by decide) (hts (Cond.fieldLink RX4 41 "ChanceRings$Reader" "faultKind" "I") qw_358) (fun _ h9 => h9) rfl dX4_isPay_31 ?_
      refine lv_if_ne (tgt := 41) hx hb dX4_isPay_34 (by decide) (fun h9 => (nr_x_ne h_60650 (⟨by decide, by decide⟩ : 0 ≤ (0 : Int32).toInt ∧ (0 : Int32).toInt ≤ 0) (fun q => h9 (Int32.toInt_inj.mp q)) (by decide)).elim) (fun c_60656 => ?_)
      have kk_0 := tk_0
      have c_60656_i : (fk : Int32).toInt = (0 : Int32).toInt := congrArg Int32.toInt c_60656
      refine lv_iconst (v := 1) hx hb dX4_isPay_37 (by decide) ?_
      refine lv_goto (tgt := 42) hx hb dX4_isPay_38 (by decide) ?_
      have hP9 := hP.sub (ws' := [(wO4 rd tp n rd_kindWords ww fk fp nx tk tpl tv)]) [0] rfl
      have hD9 := hD.sub (ws' := [(wO4 rd tp n rd_kindWords ww fk fp nx tk tpl tv)]) [0] (by decide) rfl
      exact W.zret (v := 1) hx hb hr (by decide) (fun t ht hW => ⟨⟨1, 1, rfl, ⟨rfl, (⟨by decide, by decide⟩ : 0 ≤ (1 : Int32).toInt ∧ (1 : Int32).toInt ≤ 1)⟩, fk, fp, (tr_w h_60650 (by decide) (by decide)), (tr_w h_fp (by decide) (by decide)), (fun _ => ⟨(by have z_0 := tk_0; have z_1 := tk_1; have z_2 := tk_2; have z_3 := tk_3; have z_m := tk_m1; have z_9 := tk_9; have z_4 := tk_4; (first | (clear h_nx h_tk h_tpl c_60651_i h_60652 c_60653_i h_60654; omega) | omega)), (by have z_0 := tk_0; have z_1 := tk_1; have z_2 := tk_2; have z_3 := tk_3; have z_m := tk_m1; have z_9 := tk_9; have z_4 := tk_4; (first | (clear h_nx h_tk h_tpl c_60651_i h_60652 c_60653_i h_60654; omega) | omega)), hfk⟩), (fun h9 => absurd h9 (by decide)), by rw [ht]; exact hP9, hD9⟩, hS.F ht⟩) hS.2.2 dX4_isPay_42
    · skip
      have kk_9 := tk_9
      have c_60653_i := Int32.lt_iff_toInt_lt.mp (Int32.not_le.mp c_60653)
      have h_60655 : 10 ≤ (tv : Int32).toInt ∧ (tv : Int32).toInt ≤ 2147483647 := nr_lt_r (⟨by decide, by decide⟩ : 9 ≤ (9 : Int32).toInt ∧ (9 : Int32).toInt ≤ 9) (tr_any tv) c_60653_i (by decide) (by decide)
      refine lv_aload_n hx hb dX4_isPay_25 rfl (lv_at hl 0 rfl) ?_
      refine lv_iconst (v := 2) hx hb dX4_isPay_26 (by decide) ?_
      have hPc := hP.sub (ws' := [(wO4 rd tp n rd_kindWords ww fk fp nx tk tpl tv)]) [0] rfl
      have hDc := hD.sub (ws' := [(wO4 rd tp n rd_kindWords ww fk fp nx tk tpl tv)]) [0] (by decide) rfl
      have hFc := va_free (wc := [(wO4 rd tp n rd_kindWords ww fk fp nx tk tpl tv)]) hD hS hA [0] rfl
      refine va_callv (va_runV (As := [.int 2]) (rest := []) ⟨hx, hb, hml, hown, hts⟩ (c_X4_fail l D g s.heap.size rd 2 tp n rd_kindWords ww fk fp nx tk tpl tv (⟨by decide, by decide⟩ : 0 ≤ (2 : Int32).toInt ∧ (2 : Int32).toInt ≤ 5) (tr_w h_60650 (by decide) (by decide)) (tr_w h_fp (by decide) (by decide)) (tr_w h_nx (by decide) (by decide)) (tr_w h_60652 (by decide) (by decide)) (tr_w h_tpl (by decide) (by decide))) (cwV 1 hts (tz_gV qw_394 qw_395 qw_396 qw_364 qw_397) rfl rfl rfl (by decide +kernel) ⟨Nat.le_of_ble_eq_true rfl, Nat.le_of_ble_eq_true rfl⟩) ⟨tz_blQ, va_recv hK hPc (ci := 4) (q0 := 0) rfl rfl, tz_preQ hPc hK hDc⟩ rfl rfl hl.1 rfl (lv_room (Nat.le_of_ble_eq_true rfl)) dX4_isPay_27 ⟨Nat.le_of_ble_eq_true rfl, Nat.le_of_ble_eq_true rfl⟩) hS (fun q _ h => hFc q h) hFc (fun u t H1 locs ht hvm hw hB hz1 hk1 hS => ?_)
      obtain ⟨hP1, hD1⟩ := hB
      rw [ht] at hP1
      obtain ⟨hP, hD⟩ := va_join (wr := []) (w1 := [(wO4 rd tp n rd_kindWords ww 2 tpl nx tk tpl tv)]) hP hD [0] [] rfl rfl (by decide) (by decide) hk1 hFc hP1 hD1
      generalize H1 = H at hP hS ⊢
      have hP : va_P D vwCl [(wO4 rd tp n rd_kindWords ww 2 tpl nx tk tpl tv)] H := hP
      have hD : va_D A [(wO4 rd tp n rd_kindWords ww 2 tpl nx tk tpl tv)] := hD
      refine lv_aload_n hx hb dX4_isPay_30 rfl (lv_at hl 0 rfl) ?_
      refine va_get (D := D) (ci := 4) (v := .int 2) (C := RX4) (T := TX4) (N := 10) hx hb hts inlX4 hown hK hP 0 rfl rfl 4 (by decide) (hts (Cond.fieldLink RX4 41 "ChanceRings$Reader" "faultKind" "I") qw_358) (fun _ h9 => h9) rfl dX4_isPay_31 ?_
      refine lv_if_ne (tgt := 41) hx hb dX4_isPay_34 (by decide) (fun _ => ?_) (fun h9 => absurd h9 (by decide))
      refine lv_iconst (v := 0) hx hb dX4_isPay_41 (by decide) ?_
      have hP9 := hP.sub (ws' := [(wO4 rd tp n rd_kindWords ww 2 tpl nx tk tpl tv)]) [0] rfl
      have hD9 := hD.sub (ws' := [(wO4 rd tp n rd_kindWords ww 2 tpl nx tk tpl tv)]) [0] (by decide) rfl
      exact W.zret (v := 0) hx hb hr (by decide) (fun t ht hW => ⟨⟨0, 0, rfl, ⟨rfl, (⟨by decide, by decide⟩ : 0 ≤ (0 : Int32).toInt ∧ (0 : Int32).toInt ≤ 1)⟩, 2, tpl, (⟨by decide, by decide⟩ : 0 ≤ (2 : Int32).toInt ∧ (2 : Int32).toInt ≤ 5), (tr_w h_tpl (by decide) (by decide)), (fun h9 => absurd (by decide) h9), (fun _ => ⟨(by have z_0 := tk_0; have z_1 := tk_1; have z_2 := tk_2; have z_3 := tk_3; have z_m := tk_m1; have z_9 := tk_9; have z_4 := tk_4; (first | (clear h_fk h_fp h_nx h_tk hfk h_60650 c_60651_i h_60652 c_60653_i h_60655; omega) | omega)), by decide, rfl⟩), by rw [ht]; exact hP9, hD9⟩, hS.F ht⟩) hS.2.2 dX4_isPay_42
  · skip
    have kk_2 := tk_2
    have c_60651_i : ¬ (tk : Int32).toInt = (2 : Int32).toInt := (fun q => c_60651 (Int32.toInt_inj.mp q))
    refine lv_aload_n hx hb dX4_isPay_8 rfl (lv_at hl 0 rfl) ?_
    refine lv_iconst (v := 1) hx hb dX4_isPay_9 (by decide) ?_
    have hPc := hP.sub (ws' := [(wO4 rd tp n rd_kindWords ww fk fp nx tk tpl tv)]) [0] rfl
    have hDc := hD.sub (ws' := [(wO4 rd tp n rd_kindWords ww fk fp nx tk tpl tv)]) [0] (by decide) rfl
    have hFc := va_free (wc := [(wO4 rd tp n rd_kindWords ww fk fp nx tk tpl tv)]) hD hS hA [0] rfl
    refine va_callv (va_runV (As := [.int 1]) (rest := []) ⟨hx, hb, hml, hown, hts⟩ (c_X4_fail l D g s.heap.size rd 1 tp n rd_kindWords ww fk fp nx tk tpl tv (⟨by decide, by decide⟩ : 0 ≤ (1 : Int32).toInt ∧ (1 : Int32).toInt ≤ 5) (tr_w h_60650 (by decide) (by decide)) (tr_w h_fp (by decide) (by decide)) (tr_w h_nx (by decide) (by decide)) (tr_w h_tk (by decide) (by decide)) (tr_w h_tpl (by decide) (by decide))) (cwV 1 hts (tz_gV qw_394 qw_395 qw_396 qw_364 qw_397) rfl rfl rfl (by decide +kernel) ⟨Nat.le_of_ble_eq_true rfl, Nat.le_of_ble_eq_true rfl⟩) ⟨tz_blQ, va_recv hK hPc (ci := 4) (q0 := 0) rfl rfl, tz_preQ hPc hK hDc⟩ rfl rfl hl.1 rfl (lv_room (Nat.le_of_ble_eq_true rfl)) dX4_isPay_10 ⟨Nat.le_of_ble_eq_true rfl, Nat.le_of_ble_eq_true rfl⟩) hS (fun q _ h => hFc q h) hFc (fun u t H1 locs ht hvm hw hB hz1 hk1 hS => ?_)
    obtain ⟨hP1, hD1⟩ := hB
    rw [ht] at hP1
    obtain ⟨hP, hD⟩ := va_join (wr := []) (w1 := [(wO4 rd tp n rd_kindWords ww 1 tpl nx tk tpl tv)]) hP hD [0] [] rfl rfl (by decide) (by decide) hk1 hFc hP1 hD1
    generalize H1 = H at hP hS ⊢
    have hP : va_P D vwCl [(wO4 rd tp n rd_kindWords ww 1 tpl nx tk tpl tv)] H := hP
    have hD : va_D A [(wO4 rd tp n rd_kindWords ww 1 tpl nx tk tpl tv)] := hD
    refine lv_goto (tgt := 30) hx hb dX4_isPay_13 (by decide) ?_
    refine lv_aload_n hx hb dX4_isPay_30 rfl (lv_at hl 0 rfl) ?_
    refine va_get (D := D) (ci := 4) (v := .int 1) (C := RX4) (T := TX4) (N := 10) hx hb hts inlX4 hown hK hP 0 rfl rfl 4 (by decide) (hts (Cond.fieldLink RX4 41 "ChanceRings$Reader" "faultKind" "I") qw_358) (fun _ h9 => h9) rfl dX4_isPay_31 ?_
    refine lv_if_ne (tgt := 41) hx hb dX4_isPay_34 (by decide) (fun _ => ?_) (fun h9 => absurd h9 (by decide))
    refine lv_iconst (v := 0) hx hb dX4_isPay_41 (by decide) ?_
    have hP9 := hP.sub (ws' := [(wO4 rd tp n rd_kindWords ww 1 tpl nx tk tpl tv)]) [0] rfl
    have hD9 := hD.sub (ws' := [(wO4 rd tp n rd_kindWords ww 1 tpl nx tk tpl tv)]) [0] (by decide) rfl
    exact W.zret (v := 0) hx hb hr (by decide) (fun t ht hW => ⟨⟨0, 0, rfl, ⟨rfl, (⟨by decide, by decide⟩ : 0 ≤ (0 : Int32).toInt ∧ (0 : Int32).toInt ≤ 1)⟩, 1, tpl, (⟨by decide, by decide⟩ : 0 ≤ (1 : Int32).toInt ∧ (1 : Int32).toInt ≤ 5), (tr_w h_tpl (by decide) (by decide)), (fun h9 => absurd (by decide) h9), (fun _ => ⟨(by have z_0 := tk_0; have z_1 := tk_1; have z_2 := tk_2; have z_3 := tk_3; have z_m := tk_m1; have z_9 := tk_9; have z_4 := tk_4; (first | (clear h_fk h_fp h_nx h_tk hfk h_60650 c_60651_i; omega) | omega)), by decide, rfl⟩), by rw [ht]; exact hP9, hD9⟩, hS.F ht⟩) hS.2.2 dX4_isPay_42
set_option maxHeartbeats 4000000 in
set_option maxRecDepth 100000 in
theorem c_X4_readNode (l : Launch) (D : va_G) (g : Nat → ClassId) (sz : Nat) (rd : Nat) (p0 : Int32) (tp : Nat) (n : Nat) (rd_kindWords : Nat) (ww : Int32) (fk : Int32) (fp : Int32) (nx : Int32) (tk : Int32) (tpl : Int32) (tv : Int32) (tp_bytes : Nat) (tl : Int32) (tf : Nat → Int32) (kwf : Nat → Int32) (n_nodes : Int32) (n_kind : Nat) (n_pay : Nat) (n_name : Nat) (n_ways : Nat) (n_held : Nat) (n_targets : Nat) (n_weights : Nat) (n_fkind : Nat → Int32) (n_fpay : Nat → Int32) (n_fname : Nat → Int32) (n_fways : Nat → Int32) (n_fheld : Nat → Int32) (n_ftargets : Nat → Int32) (n_fweights : Nat → Int32) (h_p0 : 0 ≤ (p0 : Int32).toInt ∧ (p0 : Int32).toInt ≤ 3) (h_fk : 0 ≤ (fk : Int32).toInt ∧ (fk : Int32).toInt ≤ 5) (h_fp : 0 ≤ (fp : Int32).toInt ∧ (fp : Int32).toInt ≤ 440) (h_nx : 0 ≤ (nx : Int32).toInt ∧ (nx : Int32).toInt ≤ 440) (h_tk : 0 ≤ (tk : Int32).toInt ∧ (tk : Int32).toInt ≤ 4) (h_tpl : 0 ≤ (tpl : Int32).toInt ∧ (tpl : Int32).toInt ≤ 440) (h_tl : 0 ≤ (tl : Int32).toInt ∧ (tl : Int32).toInt ≤ 440) (h_tf : ∀ j : Nat, 0 ≤ (tf j).toInt ∧ (tf j).toInt ≤ 255) (h_n_nodes : 0 ≤ (n_nodes : Int32).toInt ∧ (n_nodes : Int32).toInt ≤ 12) (h_n_fkind : ∀ j : Nat, 0 ≤ (n_fkind j).toInt ∧ (n_fkind j).toInt ≤ 3) (h_n_fways : ∀ j : Nat, 0 ≤ (n_fways j).toInt ∧ (n_fways j).toInt ≤ 3) (h_n_fheld : ∀ j : Nat, (-1) ≤ (n_fheld j).toInt ∧ (n_fheld j).toInt ≤ 2) (h_n_ftargets : ∀ j : Nat, 0 ≤ (n_ftargets j).toInt ∧ (n_ftargets j).toInt ≤ 11) (hkw : KWs kwf) (hww : (ww : Int32).toInt = 16819) (hfk : (fk : Int32).toInt = 0) (hbd : BDn (absC n_nodes n_fkind n_fpay n_fname n_fways n_fheld n_ftargets n_fweights)) : Met l yX4_readNode (.code yX4_readNode cX4_readNode 3 none :: wsL_law) ({ frames := 3, cells := 0, slots := 0, locals := 63 }) (va_Pc [.ref rd, .int p0] (fun U => U.heap.size = sz ∧ va_P D vwCl [(wO4 rd tp n rd_kindWords ww fk fp nx tk tpl tv), (wO8 tp tp_bytes tl), (wI g tp_bytes 0 440 tf), (wI g rd_kindWords 0 4 kwf), (wO2 n n_nodes n_kind n_pay n_name n_ways n_held n_targets n_weights), (wI g n_kind 0 12 n_fkind), (wI g n_pay 0 12 n_fpay), (wI g n_name 0 12 n_fname), (wI g n_ways 0 12 n_fways), (wI g n_held 0 12 n_fheld), (wI g n_targets 0 36 n_ftargets), (wI g n_weights 0 36 n_fweights)] U.heap ∧ va_K D vwCl (TY g) U ∧ va_D (fun _ => True) [(wO4 rd tp n rd_kindWords ww fk fp nx tk tpl tv), (wO8 tp tp_bytes tl), (wI g tp_bytes 0 440 tf), (wI g rd_kindWords 0 4 kwf), (wO2 n n_nodes n_kind n_pay n_name n_ways n_held n_targets n_weights), (wI g n_kind 0 12 n_fkind), (wI g n_pay 0 12 n_fpay), (wI g n_name 0 12 n_fname), (wI g n_ways 0 12 n_fways), (wI g n_held 0 12 n_fheld), (wI g n_targets 0 36 n_ftargets), (wI g n_weights 0 36 n_fweights)])) (va_Qv (fun (_ : Unit) => True) (fun _ t => ∃ ofk : Int32, ∃ ofp : Int32, ∃ onx : Int32, ∃ otk : Int32, ∃ otpl : Int32, ∃ otv : Int32, ∃ on : Int32, ∃ n_gkind : Nat → Int32, ∃ n_gpay : Nat → Int32, ∃ n_gname : Nat → Int32, ∃ n_gways : Nat → Int32, ∃ n_gheld : Nat → Int32, ∃ n_gtargets : Nat → Int32, ∃ n_gweights : Nat → Int32, (0 ≤ (ofk : Int32).toInt ∧ (ofk : Int32).toInt ≤ 5) ∧ (0 ≤ (ofp : Int32).toInt ∧ (ofp : Int32).toInt ≤ 440) ∧ (0 ≤ (onx : Int32).toInt ∧ (onx : Int32).toInt ≤ 440) ∧ (0 ≤ (otk : Int32).toInt ∧ (otk : Int32).toInt ≤ 4) ∧ (0 ≤ (otpl : Int32).toInt ∧ (otpl : Int32).toInt ≤ 440) ∧ (0 ≤ (on : Int32).toInt ∧ (on : Int32).toInt ≤ 12) ∧ (∀ j : Nat, 0 ≤ (n_gkind j).toInt ∧ (n_gkind j).toInt ≤ 3) ∧ (∀ j : Nat, 0 ≤ (n_gways j).toInt ∧ (n_gways j).toInt ≤ 3) ∧ (∀ j : Nat, (-1) ≤ (n_gheld j).toInt ∧ (n_gheld j).toInt ≤ 2) ∧ (∀ j : Nat, 0 ≤ (n_gtargets j).toInt ∧ (n_gtargets j).toInt ≤ 11) ∧ (Hide ((ofk : Int32).toInt = 0 → NOk (bg tf (tl : Int32).toInt) (nx : Int32).toInt.toNat (absC n_nodes n_fkind n_fpay n_fname n_fways n_fheld n_ftargets n_fweights) (p0 : Int32).toInt (absC on n_gkind n_gpay n_gname n_gways n_gheld n_gtargets n_gweights) (otk : Int32).toInt (otpl : Int32).toInt.toNat (onx : Int32).toInt.toNat (otv : Int32).toInt)) ∧ (Hide (¬ (ofk : Int32).toInt = 0 → NFl (bg tf (tl : Int32).toInt) (tpl : Int32).toInt.toNat (nx : Int32).toInt.toNat (absC n_nodes n_fkind n_fpay n_fname n_fways n_fheld n_ftargets n_fweights) (p0 : Int32).toInt (ofp : Int32).toInt)) ∧ va_P D vwCl [(wO4 rd tp n rd_kindWords ww ofk ofp onx otk otpl otv), (wO8 tp tp_bytes tl), (wI g tp_bytes 0 440 tf), (wI g rd_kindWords 0 4 kwf), (wO2 n on n_kind n_pay n_name n_ways n_held n_targets n_weights), (wI g n_kind 0 12 n_gkind), (wI g n_pay 0 12 n_gpay), (wI g n_name 0 12 n_gname), (wI g n_ways 0 12 n_gways), (wI g n_held 0 12 n_gheld), (wI g n_targets 0 36 n_gtargets), (wI g n_weights 0 36 n_gweights)] t.heap ∧ va_D (va_A [(wO4 rd tp n rd_kindWords ww fk fp nx tk tpl tv), (wO8 tp tp_bytes tl), (wI g tp_bytes 0 440 tf), (wI g rd_kindWords 0 4 kwf), (wO2 n n_nodes n_kind n_pay n_name n_ways n_held n_targets n_weights), (wI g n_kind 0 12 n_fkind), (wI g n_pay 0 12 n_fpay), (wI g n_name 0 12 n_fname), (wI g n_ways 0 12 n_fways), (wI g n_held 0 12 n_fheld), (wI g n_targets 0 36 n_ftargets), (wI g n_weights 0 36 n_fweights)] sz) [(wO4 rd tp n rd_kindWords ww ofk ofp onx otk otpl otv), (wO8 tp tp_bytes tl), (wI g tp_bytes 0 440 tf), (wI g rd_kindWords 0 4 kwf), (wO2 n on n_kind n_pay n_name n_ways n_held n_targets n_weights), (wI g n_kind 0 12 n_gkind), (wI g n_pay 0 12 n_gpay), (wI g n_name 0 12 n_gname), (wI g n_ways 0 12 n_gways), (wI g n_held 0 12 n_gheld), (wI g n_targets 0 36 n_gtargets), (wI g n_weights 0 36 n_gweights)]) (va_A [(wO4 rd tp n rd_kindWords ww fk fp nx tk tpl tv), (wO8 tp tp_bytes tl), (wI g tp_bytes 0 440 tf), (wI g rd_kindWords 0 4 kwf), (wO2 n n_nodes n_kind n_pay n_name n_ways n_held n_targets n_weights), (wI g n_kind 0 12 n_fkind), (wI g n_pay 0 12 n_fpay), (wI g n_name 0 12 n_fname), (wI g n_ways 0 12 n_fways), (wI g n_held 0 12 n_fheld), (wI g n_targets 0 36 n_ftargets), (wI g n_weights 0 36 n_fweights)] sz)) 0 0 (va_A [(wO4 rd tp n rd_kindWords ww fk fp nx tk tpl tv), (wO8 tp tp_bytes tl), (wI g tp_bytes 0 440 tf), (wI g rd_kindWords 0 4 kwf), (wO2 n n_nodes n_kind n_pay n_name n_ways n_held n_targets n_weights), (wI g n_kind 0 12 n_fkind), (wI g n_pay 0 12 n_fpay), (wI g n_name 0 12 n_fname), (wI g n_ways 0 12 n_fways), (wI g n_held 0 12 n_fheld), (wI g n_targets 0 36 n_ftargets), (wI g n_weights 0 36 n_fweights)] sz) := by
  refine Met.ofW (cc := cX4_readNode) (maxL := 3) (ret := none) (by decide) rfl ?_
  intro p e s m args below meth c s₁ B hml hv
  obtain ⟨ha, hsz, hP, hK, hD0⟩ := hv
  have hx := B.exec
  have hb := B.bytes
  have hr := B.returns
  have hts0 := atoms_spec (ws := (.code yX4_readNode cX4_readNode 3 none :: wsL_law)) B.pre
  have hts : ∀ w ∈ wsL_law, w.before args s = true := fun w h => hts0 w (List.mem_cons_of_mem _ h)
  have hown : s.vm.findClass RX4 = some m.cls := findClass_of_methodNamed B.named
  have hlocks := B.notSynchronized
  subst hsz
  have hD := hD0.self (sz := s.heap.size)
  generalize hAe : va_A [(wO4 rd tp n rd_kindWords ww fk fp nx tk tpl tv), (wO8 tp tp_bytes tl), (wI g tp_bytes 0 440 tf), (wI g rd_kindWords 0 4 kwf), (wO2 n n_nodes n_kind n_pay n_name n_ways n_held n_targets n_weights), (wI g n_kind 0 12 n_fkind), (wI g n_pay 0 12 n_fpay), (wI g n_name 0 12 n_fname), (wI g n_ways 0 12 n_fways), (wI g n_held 0 12 n_fheld), (wI g n_targets 0 36 n_ftargets), (wI g n_weights 0 36 n_fweights)] s.heap.size = A at hD ⊢
  have hA : ∀ q : Nat, s.heap.size ≤ q → A q := fun q h => by rw [← hAe]; exact Or.inr h
  have hS : va_S A s.heap s.heap [] := va_S.rf
  have hP : va_P D vwCl [(wO4 rd tp n rd_kindWords ww fk fp nx tk tpl tv), (wO8 tp tp_bytes tl), (wI g tp_bytes 0 440 tf), (wI g rd_kindWords 0 4 kwf), (wO2 n n_nodes n_kind n_pay n_name n_ways n_held n_targets n_weights), (wI g n_kind 0 12 n_fkind), (wI g n_pay 0 12 n_fpay), (wI g n_name 0 12 n_fname), (wI g n_ways 0 12 n_fways), (wI g n_held 0 12 n_fheld), (wI g n_targets 0 36 n_ftargets), (wI g n_weights 0 36 n_fweights)] s.heap := hP
  refine W.eq (g2 := entryFrame m ([.ref rd, .int p0] : List Value).toArray 3) (by rw [ha]) ?_
  have hl := lv_entry ([.ref rd, .int p0]) (n := 3) (Nat.le_of_ble_eq_true rfl)
  rw [lg_entry_eq]
  generalize (lg_sl ([.ref rd, .int p0]) ++ List.replicate (3 - (lg_sl ([.ref rd, .int p0])).length) Slot.unset).toArray = ls at hl ⊢
  have hl : lv_has ls 3 [(0, .ref rd), (1, .int p0)] := hl
  refine lv_aload_n hx hb dX4_readNode_0 rfl (lv_at hl 0 rfl) ?_
  refine lv_iload_n hx hb dX4_readNode_1 rfl (lv_at hl 1 rfl) ?_
  have hPc := hP.sub (ws' := [(wO4 rd tp n rd_kindWords ww fk fp nx tk tpl tv), (wO2 n n_nodes n_kind n_pay n_name n_ways n_held n_targets n_weights), (wI g n_kind 0 12 n_fkind)]) [0, 4, 5] rfl
  refine vp_callSi (va_Run.run (va_runV (As := [.int p0]) (rest := []) ⟨hx, hb, hml, hown, hts⟩ (c_X4_isFull l D g rd p0 tp n rd_kindWords ww fk fp nx tk tpl tv n_nodes n_kind n_pay n_name n_ways n_held n_targets n_weights n_fkind (tr_w h_p0 (by decide) (by decide)) (tr_w h_fk (by decide) (by decide)) (tr_w h_fp (by decide) (by decide)) (tr_w h_nx (by decide) (by decide)) (tr_w h_tk (by decide) (by decide)) (tr_w h_tpl (by decide) (by decide)) (tr_w h_n_nodes (by decide) (by decide)) (tr_wa h_n_fkind (by decide) (by decide))) (cwV 1 hts (tz_gV qw_398 qw_399 qw_400 qw_364 qw_401) rfl rfl rfl (by decide +kernel) ⟨Nat.le_of_ble_eq_true rfl, Nat.le_of_ble_eq_true rfl⟩) ⟨tz_blS, va_recv hK hPc (ci := 4) (q0 := 0) rfl rfl, tz_preS hPc hK⟩ rfl rfl hl.1 rfl (lv_room (Nat.le_of_ble_eq_true rfl)) dX4_readNode_2 ⟨Nat.le_of_ble_eq_true rfl, Nat.le_of_ble_eq_true rfl⟩)) (fun r_60659 hw => ?_)
  have hw_60660 : 0 ≤ (r_60659 : Int32).toInt ∧ (r_60659 : Int32).toInt ≤ 1 := hw.1
  have hw_60660_p0 : Hide (¬ (r_60659 : Int32).toInt = 0 → FLk (n_nodes : Int32).toInt n_fkind (p0 : Int32).toInt) := hw.2.1
  have hw_60660_p1 : Hide ((r_60659 : Int32).toInt = 0 → ¬ FLk (n_nodes : Int32).toInt n_fkind (p0 : Int32).toInt) := hw.2.2
  refine lv_if_eq (tgt := 14) hx hb dX4_readNode_5 (by decide) (fun c_60661 => ?_) (fun c_60661 => ?_)
  · skip
    have kk_0 := tk_0
    have c_60661_i : (r_60659 : Int32).toInt = (0 : Int32).toInt := congrArg Int32.toInt c_60661
    have hw_60660_p1_u := (hw_60660_p1).get (c_60661_i.trans tk_0)
    have h_60662 : 0 ≤ (r_60659 : Int32).toInt ∧ (r_60659 : Int32).toInt ≤ 0 := nr_eq_l hw_60660 (⟨by decide, by decide⟩ : 0 ≤ (0 : Int32).toInt ∧ (0 : Int32).toInt ≤ 0) c_60661_i (by decide) (by decide)
    refine lv_aload_n hx hb dX4_readNode_14 rfl (lv_at hl 0 rfl) ?_
    have hPc := hP.sub (ws' := [(wO4 rd tp n rd_kindWords ww fk fp nx tk tpl tv), (wO8 tp tp_bytes tl), (wI g tp_bytes 0 440 tf)]) [0, 1, 2] rfl
    have hDc := hD.sub (ws' := [(wO4 rd tp n rd_kindWords ww fk fp nx tk tpl tv), (wO8 tp tp_bytes tl), (wI g tp_bytes 0 440 tf)]) [0, 1, 2] (by decide) rfl
    have hFc := va_free (wc := [(wO4 rd tp n rd_kindWords ww fk fp nx tk tpl tv), (wO8 tp tp_bytes tl), (wI g tp_bytes 0 440 tf)]) hD hS hA [0, 1, 2] rfl
    refine va_callv (va_runV (As := []) (rest := []) ⟨hx, hb, hml, hown, hts⟩ (c_X4_advance l D g s.heap.size rd tp n rd_kindWords ww fk fp nx tk tpl tv tp_bytes tl tf (tr_w h_fk (by decide) (by decide)) (tr_w h_fp (by decide) (by decide)) (tr_w h_nx (by decide) (by decide)) (tr_w h_tk (by decide) (by decide)) (tr_w h_tpl (by decide) (by decide)) (tr_w h_tl (by decide) (by decide)) (tr_wa h_tf (by decide) (by decide))) (cwV 0 hts (tz_gV qw_402 qw_403 qw_404 qw_364 qw_405) rfl rfl rfl (by decide +kernel) ⟨Nat.le_of_ble_eq_true rfl, Nat.le_of_ble_eq_true rfl⟩) ⟨tz_blQ, va_recv hK hPc (ci := 4) (q0 := 0) rfl rfl, tz_preQ hPc hK hDc⟩ rfl rfl hl.1 rfl (lv_room (Nat.le_of_ble_eq_true rfl)) dX4_readNode_15 ⟨Nat.le_of_ble_eq_true rfl, Nat.le_of_ble_eq_true rfl⟩) hS (fun q _ h => hFc q h) hFc (fun u t H1 locs ht hvm hw hB hz1 hk1 hS => ?_)
    obtain ⟨onx_60665, otk_60666, otpl_60667, otv_60668, hf_60669, hf_60670, hf_60671, hf_60672, hP1, hD1⟩ := hB
    rw [ht] at hP1
    obtain ⟨hP, hD⟩ := va_join (wr := [(wI g rd_kindWords 0 4 kwf), (wO2 n n_nodes n_kind n_pay n_name n_ways n_held n_targets n_weights), (wI g n_kind 0 12 n_fkind), (wI g n_pay 0 12 n_fpay), (wI g n_name 0 12 n_fname), (wI g n_ways 0 12 n_fways), (wI g n_held 0 12 n_fheld), (wI g n_targets 0 36 n_ftargets), (wI g n_weights 0 36 n_fweights)]) (w1 := [(wO4 rd tp n rd_kindWords ww fk fp onx_60665 otk_60666 otpl_60667 otv_60668), (wO8 tp tp_bytes tl), (wI g tp_bytes 0 440 tf)]) hP hD [0, 1, 2] [3, 4, 5, 6, 7, 8, 9, 10, 11] rfl rfl (by decide) (by decide) hk1 hFc hP1 hD1
    generalize H1 = H at hP hS ⊢
    have hP : va_P D vwCl [(wI g rd_kindWords 0 4 kwf), (wO2 n n_nodes n_kind n_pay n_name n_ways n_held n_targets n_weights), (wI g n_kind 0 12 n_fkind), (wI g n_pay 0 12 n_fpay), (wI g n_name 0 12 n_fname), (wI g n_ways 0 12 n_fways), (wI g n_held 0 12 n_fheld), (wI g n_targets 0 36 n_ftargets), (wI g n_weights 0 36 n_fweights), (wO4 rd tp n rd_kindWords ww fk fp onx_60665 otk_60666 otpl_60667 otv_60668), (wO8 tp tp_bytes tl), (wI g tp_bytes 0 440 tf)] H := hP
    have hD : va_D A [(wI g rd_kindWords 0 4 kwf), (wO2 n n_nodes n_kind n_pay n_name n_ways n_held n_targets n_weights), (wI g n_kind 0 12 n_fkind), (wI g n_pay 0 12 n_fpay), (wI g n_name 0 12 n_fname), (wI g n_ways 0 12 n_fways), (wI g n_held 0 12 n_fheld), (wI g n_targets 0 36 n_ftargets), (wI g n_weights 0 36 n_fweights), (wO4 rd tp n rd_kindWords ww fk fp onx_60665 otk_60666 otpl_60667 otv_60668), (wO8 tp tp_bytes tl), (wI g tp_bytes 0 440 tf)] := hD
    refine lv_aload_n hx hb dX4_readNode_18 rfl (lv_at hl 0 rfl) ?_
    refine va_get (D := D) (ci := 4) (v := .int otv_60668) (C := RX4) (T := TX4) (N := 10) hx hb hts inlX4 hown hK hP 9 rfl rfl 9 (by decide) (hts (Cond.fieldLink RX4 86 "ChanceRings$Reader" "tokenValue" "I") qw_374) (fun _ h9 => h9) rfl dX4_readNode_19 ?_
    refine lv_istore_n (lv' := [(2, .int otv_60668), (0, .ref rd), (1, .int p0)]) hx hb dX4_readNode_22 rfl hl (by decide) rfl (fun ls hl => ?_)
    refine lv_aload_n hx hb dX4_readNode_23 rfl (lv_at hl 1 rfl) ?_
    have hPc := hP.sub (ws' := [(wO4 rd tp n rd_kindWords ww fk fp onx_60665 otk_60666 otpl_60667 otv_60668), (wI g rd_kindWords 0 4 kwf)]) [9, 0] rfl
    refine vp_callSi (va_Run.run (va_runV (As := []) (rest := []) ⟨hx, hb, hml, hown, hts⟩ (c_X4_isName l D g rd tp n rd_kindWords ww fk fp onx_60665 otk_60666 otpl_60667 otv_60668 kwf (tr_w h_fk (by decide) (by decide)) (tr_w h_fp (by decide) (by decide)) (tr_w hf_60669 (by decide) (by decide)) (tr_w hf_60670 (by decide) (by decide)) (tr_w hf_60671 (by decide) (by decide)) hkw hww) (cwV 0 hts (tz_gV qw_406 qw_407 qw_408 qw_364 qw_409) rfl rfl rfl (by decide +kernel) ⟨Nat.le_of_ble_eq_true rfl, Nat.le_of_ble_eq_true rfl⟩) ⟨tz_blS, va_recv hK hPc (ci := 4) (q0 := 0) rfl rfl, tz_preS hPc hK⟩ rfl rfl hl.1 rfl (lv_room (Nat.le_of_ble_eq_true rfl)) dX4_readNode_24 ⟨Nat.le_of_ble_eq_true rfl, Nat.le_of_ble_eq_true rfl⟩)) (fun r_60673 hw => ?_)
    have hw_60674 : 0 ≤ (r_60673 : Int32).toInt ∧ (r_60673 : Int32).toInt ≤ 1 := hw.1
    have hw_60674_p0 : Hide (¬ (r_60673 : Int32).toInt = 0 → NMC (otk_60666 : Int32).toInt (otv_60668 : Int32).toInt) := hw.2.1
    have hw_60674_p1 : Hide ((r_60673 : Int32).toInt = 0 → ¬ NMC (otk_60666 : Int32).toInt (otv_60668 : Int32).toInt) := hw.2.2
    refine lv_if_ne (tgt := 38) hx hb dX4_readNode_27 (by decide) (fun c_60675 => ?_) (fun c_60675 => ?_)
    · skip
      have c_60675_i : ¬ (r_60673 : Int32).toInt = (0 : Int32).toInt := (fun q => c_60675 (Int32.toInt_inj.mp q))
      have hw_60674_p0_u := (hw_60674_p0).get (fun q => c_60675_i (q.trans tk_0.symm))
      have h_60676 : 1 ≤ (r_60673 : Int32).toInt ∧ (r_60673 : Int32).toInt ≤ 1 := nr_ne_l hw_60674 (⟨by decide, by decide⟩ : 0 ≤ (0 : Int32).toInt ∧ (0 : Int32).toInt ≤ 0) c_60675_i (by decide) (by decide)
      refine lv_aload_n hx hb dX4_readNode_38 rfl (lv_at hl 1 rfl) ?_
      refine va_get (D := D) (ci := 4) (v := .ref n) (C := RX4) (T := TX4) (N := 10) hx hb hts inlX4 hown hK hP 9 rfl rfl 1 (by decide) (hts (Cond.fieldLink RX4 15 "ChanceRings$Reader" "net" "LChanceRings$Net;") qw_388) (fun _ h9 => h9) rfl dX4_readNode_39 ?_
      refine lv_iload_n hx hb dX4_readNode_42 rfl (lv_at hl 0 rfl) ?_
      have hPc := hP.sub (ws' := [(wO2 n n_nodes n_kind n_pay n_name n_ways n_held n_targets n_weights), (wI g n_name 0 12 n_fname)]) [1, 4] rfl
      refine vp_callSi (va_Run.run (va_runV (As := [.int otv_60668]) (rest := []) ⟨hx, hb, hml, hown, hts⟩ (c_X2_find l D g n otv_60668 n_nodes n_kind n_pay n_name n_ways n_held n_targets n_weights n_fname (tr_w h_n_nodes (by decide) (by decide))) (cwV 1 hts (tz_gV qw_410 qw_411 qw_412 qw_322 qw_413) rfl rfl rfl (by decide +kernel) ⟨Nat.le_of_ble_eq_true rfl, Nat.le_of_ble_eq_true rfl⟩) ⟨tz_blS, va_recv hK hPc (ci := 2) (q0 := 0) rfl rfl, tz_preS hPc hK⟩ rfl rfl hl.1 rfl (lv_room (Nat.le_of_ble_eq_true rfl)) dX4_readNode_43 ⟨Nat.le_of_ble_eq_true rfl, Nat.le_of_ble_eq_true rfl⟩)) (fun r_60678 hw => ?_)
      have hw_60679 : (-1) ≤ (r_60678 : Int32).toInt ∧ (r_60678 : Int32).toInt ≤ 11 := hw.1
      have hw_60679_p0 : FN (n_nodes : Int32).toInt (fun p => (n_fname p).toInt) (otv_60668 : Int32).toInt (r_60678 : Int32).toInt := hw.2
      refine lv_iconst (v := (-1)) hx hb dX4_readNode_46 (by decide) ?_
      refine lv_icmp_eq (tgt := 58) hx hb dX4_readNode_47 (by decide) (fun c_60680 => ?_) (fun c_60680 => ?_)
      · skip
        have kk_m1 := tk_m1
        have c_60680_i : (r_60678 : Int32).toInt = ((-1) : Int32).toInt := congrArg Int32.toInt c_60680
        have h_60681 : (-1) ≤ (r_60678 : Int32).toInt ∧ (r_60678 : Int32).toInt ≤ (-1) := nr_eq_l hw_60679 (⟨by decide, by decide⟩ : (-1) ≤ ((-1) : Int32).toInt ∧ ((-1) : Int32).toInt ≤ (-1)) c_60680_i (by decide) (by decide)
        refine lv_aload_n hx hb dX4_readNode_58 rfl (lv_at hl 1 rfl) ?_
        have hPc := hP.sub (ws' := [(wO4 rd tp n rd_kindWords ww fk fp onx_60665 otk_60666 otpl_60667 otv_60668), (wO8 tp tp_bytes tl), (wI g tp_bytes 0 440 tf)]) [9, 10, 11] rfl
        have hDc := hD.sub (ws' := [(wO4 rd tp n rd_kindWords ww fk fp onx_60665 otk_60666 otpl_60667 otv_60668), (wO8 tp tp_bytes tl), (wI g tp_bytes 0 440 tf)]) [9, 10, 11] (by decide) rfl
        have hFc := va_free (wc := [(wO4 rd tp n rd_kindWords ww fk fp onx_60665 otk_60666 otpl_60667 otv_60668), (wO8 tp tp_bytes tl), (wI g tp_bytes 0 440 tf)]) hD hS hA [9, 10, 11] rfl
        refine va_callv (va_runV (As := []) (rest := []) ⟨hx, hb, hml, hown, hts⟩ (c_X4_advance l D g H.size rd tp n rd_kindWords ww fk fp onx_60665 otk_60666 otpl_60667 otv_60668 tp_bytes tl tf (tr_w h_fk (by decide) (by decide)) (tr_w h_fp (by decide) (by decide)) (tr_w hf_60669 (by decide) (by decide)) (tr_w hf_60670 (by decide) (by decide)) (tr_w hf_60671 (by decide) (by decide)) (tr_w h_tl (by decide) (by decide)) (tr_wa h_tf (by decide) (by decide))) (cwV 0 hts (tz_gV qw_402 qw_403 qw_404 qw_364 qw_405) rfl rfl rfl (by decide +kernel) ⟨Nat.le_of_ble_eq_true rfl, Nat.le_of_ble_eq_true rfl⟩) ⟨tz_blQ, va_recv hK hPc (ci := 4) (q0 := 0) rfl rfl, tz_preQ hPc hK hDc⟩ rfl rfl hl.1 rfl (lv_room (Nat.le_of_ble_eq_true rfl)) dX4_readNode_59 ⟨Nat.le_of_ble_eq_true rfl, Nat.le_of_ble_eq_true rfl⟩) hS (fun q _ h => hFc q h) hFc (fun u t H1 locs ht hvm hw hB hz1 hk1 hS => ?_)
        obtain ⟨onx_60684, otk_60685, otpl_60686, otv_60687, hf_60688, hf_60689, hf_60690, hf_60691, hP1, hD1⟩ := hB
        rw [ht] at hP1
        obtain ⟨hP, hD⟩ := va_join (wr := [(wI g rd_kindWords 0 4 kwf), (wO2 n n_nodes n_kind n_pay n_name n_ways n_held n_targets n_weights), (wI g n_kind 0 12 n_fkind), (wI g n_pay 0 12 n_fpay), (wI g n_name 0 12 n_fname), (wI g n_ways 0 12 n_fways), (wI g n_held 0 12 n_fheld), (wI g n_targets 0 36 n_ftargets), (wI g n_weights 0 36 n_fweights)]) (w1 := [(wO4 rd tp n rd_kindWords ww fk fp onx_60684 otk_60685 otpl_60686 otv_60687), (wO8 tp tp_bytes tl), (wI g tp_bytes 0 440 tf)]) hP hD [9, 10, 11] [0, 1, 2, 3, 4, 5, 6, 7, 8] rfl rfl (by decide) (by decide) hk1 hFc hP1 hD1
        generalize H1 = H at hP hS ⊢
        have hP : va_P D vwCl [(wI g rd_kindWords 0 4 kwf), (wO2 n n_nodes n_kind n_pay n_name n_ways n_held n_targets n_weights), (wI g n_kind 0 12 n_fkind), (wI g n_pay 0 12 n_fpay), (wI g n_name 0 12 n_fname), (wI g n_ways 0 12 n_fways), (wI g n_held 0 12 n_fheld), (wI g n_targets 0 36 n_ftargets), (wI g n_weights 0 36 n_fweights), (wO4 rd tp n rd_kindWords ww fk fp onx_60684 otk_60685 otpl_60686 otv_60687), (wO8 tp tp_bytes tl), (wI g tp_bytes 0 440 tf)] H := hP
        have hD : va_D A [(wI g rd_kindWords 0 4 kwf), (wO2 n n_nodes n_kind n_pay n_name n_ways n_held n_targets n_weights), (wI g n_kind 0 12 n_fkind), (wI g n_pay 0 12 n_fpay), (wI g n_name 0 12 n_fname), (wI g n_ways 0 12 n_fways), (wI g n_held 0 12 n_fheld), (wI g n_targets 0 36 n_ftargets), (wI g n_weights 0 36 n_fweights), (wO4 rd tp n rd_kindWords ww fk fp onx_60684 otk_60685 otpl_60686 otv_60687), (wO8 tp tp_bytes tl), (wI g tp_bytes 0 440 tf)] := hD
        have nf_9 : ¬ FULL (absC n_nodes n_fkind n_fpay n_fname n_fways n_fheld n_ftargets n_fweights) (p0 : Int32).toInt := fun q9 => hw_60660_p1_u ((absC_full (by (first | (clear h_fk h_fp h_nx h_tk h_tpl h_tl hww hfk hw_60660 c_60661_i h_60662 hw_60674 c_60675_i h_60676 hw_60679 c_60680_i h_60681; omega) | omega))).mpr q9)
        have nb_9 : (n_nodes : Int32).toInt ≤ 11 := BDn.lt hbd nf_9
        refine lv_aload_n hx hb dX4_readNode_62 rfl (lv_at hl 1 rfl) ?_
        refine va_get (D := D) (ci := 4) (v := .ref n) (C := RX4) (T := TX4) (N := 10) hx hb hts inlX4 hown hK hP 9 rfl rfl 1 (by decide) (hts (Cond.fieldLink RX4 15 "ChanceRings$Reader" "net" "LChanceRings$Net;") qw_388) (fun _ h9 => h9) rfl dX4_readNode_63 ?_
        refine lv_iload_n hx hb dX4_readNode_66 rfl (lv_at hl 2 rfl) ?_
        refine lv_iload_n hx hb dX4_readNode_67 rfl (lv_at hl 0 rfl) ?_
        refine lv_iload_n hx hb dX4_readNode_68 rfl (lv_at hl 2 rfl) ?_
        refine lv_if_ne (tgt := 79) hx hb dX4_readNode_69 (by decide) (fun c_60692 => ?_) (fun c_60692 => ?_)
        · skip
          have c_60692_i : ¬ (p0 : Int32).toInt = (0 : Int32).toInt := (fun q => c_60692 (Int32.toInt_inj.mp q))
          have h_60693 : 1 ≤ (p0 : Int32).toInt ∧ (p0 : Int32).toInt ≤ 3 := nr_ne_l h_p0 (⟨by decide, by decide⟩ : 0 ≤ (0 : Int32).toInt ∧ (0 : Int32).toInt ≤ 0) c_60692_i (by decide) (by decide)
          refine lv_iconst (v := 0) hx hb dX4_readNode_79 (by decide) ?_
          have h_60695 : 0 ≤ (n_nodes : Int32).toInt ∧ (n_nodes : Int32).toInt ≤ 11 := by (first | (clear h_p0 h_fk h_fp h_nx h_tk h_tpl h_tl hww hfk hw_60660 c_60661_i h_60662 hw_60674 c_60675_i h_60676 hw_60679 c_60680_i h_60681 c_60692_i h_60693; omega) | omega)
          have hPc := hP.sub (ws' := [(wO2 n n_nodes n_kind n_pay n_name n_ways n_held n_targets n_weights), (wI g n_kind 0 12 n_fkind), (wI g n_pay 0 12 n_fpay), (wI g n_name 0 12 n_fname), (wI g n_ways 0 12 n_fways), (wI g n_held 0 12 n_fheld)]) [1, 2, 3, 4, 5, 6] rfl
          have hDc := hD.sub (ws' := [(wO2 n n_nodes n_kind n_pay n_name n_ways n_held n_targets n_weights), (wI g n_kind 0 12 n_fkind), (wI g n_pay 0 12 n_fpay), (wI g n_name 0 12 n_fname), (wI g n_ways 0 12 n_fways), (wI g n_held 0 12 n_fheld)]) [1, 2, 3, 4, 5, 6] (by decide) rfl
          have hFc := va_free (wc := [(wO2 n n_nodes n_kind n_pay n_name n_ways n_held n_targets n_weights), (wI g n_kind 0 12 n_fkind), (wI g n_pay 0 12 n_fpay), (wI g n_name 0 12 n_fname), (wI g n_ways 0 12 n_fways), (wI g n_held 0 12 n_fheld)]) hD hS hA [1, 2, 3, 4, 5, 6] rfl
          refine va_callv (va_runV (As := [.int p0, .int otv_60668, .int 0]) (rest := []) ⟨hx, hb, hml, hown, hts⟩ (c_X2_addNode l D g H.size n p0 otv_60668 0 n_nodes n_kind n_pay n_name n_ways n_held n_targets n_weights n_fkind n_fpay n_fname n_fways n_fheld (tr_w h_60693 (by decide) (by decide)) (tr_w h_60695 (by decide) (by decide)) (tr_wa h_n_fkind (by decide) (by decide)) (tr_wa h_n_fways (by decide) (by decide)) (tr_wa h_n_fheld (by decide) (by decide))) (cwV 3 hts (tz_gV qw_414 qw_415 qw_416 qw_322 qw_417) rfl rfl rfl (by decide +kernel) ⟨Nat.le_of_ble_eq_true rfl, Nat.le_of_ble_eq_true rfl⟩) ⟨tz_blQ, va_recv hK hPc (ci := 2) (q0 := 0) rfl rfl, tz_preQ hPc hK hDc⟩ rfl rfl hl.1 rfl (lv_room (Nat.le_of_ble_eq_true rfl)) dX4_readNode_80 ⟨Nat.le_of_ble_eq_true rfl, Nat.le_of_ble_eq_true rfl⟩) hS (fun q _ h => hFc q h) hFc (fun u t H1 locs ht hvm hw hB hz1 hk1 hS => ?_)
          obtain ⟨on_60697, n_gkind_60698, n_gpay_60699, n_gname_60700, n_gways_60701, n_gheld_60702, hf_60703, hf_60704, hf_60705, hf_60706, hf_60707, hf_60708, hf_60709, hf_60710, hf_60711, hf_60712, hP1, hD1⟩ := hB
          rw [ht] at hP1
          obtain ⟨hP, hD⟩ := va_join (wr := [(wI g rd_kindWords 0 4 kwf), (wI g n_targets 0 36 n_ftargets), (wI g n_weights 0 36 n_fweights), (wO4 rd tp n rd_kindWords ww fk fp onx_60684 otk_60685 otpl_60686 otv_60687), (wO8 tp tp_bytes tl), (wI g tp_bytes 0 440 tf)]) (w1 := [(wO2 n on_60697 n_kind n_pay n_name n_ways n_held n_targets n_weights), (wI g n_kind 0 12 n_gkind_60698), (wI g n_pay 0 12 n_gpay_60699), (wI g n_name 0 12 n_gname_60700), (wI g n_ways 0 12 n_gways_60701), (wI g n_held 0 12 n_gheld_60702)]) hP hD [1, 2, 3, 4, 5, 6] [0, 7, 8, 9, 10, 11] rfl rfl (by decide) (by decide) hk1 hFc hP1 hD1
          generalize H1 = H at hP hS ⊢
          have hP : va_P D vwCl [(wI g rd_kindWords 0 4 kwf), (wI g n_targets 0 36 n_ftargets), (wI g n_weights 0 36 n_fweights), (wO4 rd tp n rd_kindWords ww fk fp onx_60684 otk_60685 otpl_60686 otv_60687), (wO8 tp tp_bytes tl), (wI g tp_bytes 0 440 tf), (wO2 n on_60697 n_kind n_pay n_name n_ways n_held n_targets n_weights), (wI g n_kind 0 12 n_gkind_60698), (wI g n_pay 0 12 n_gpay_60699), (wI g n_name 0 12 n_gname_60700), (wI g n_ways 0 12 n_gways_60701), (wI g n_held 0 12 n_gheld_60702)] H := hP
          have hD : va_D A [(wI g rd_kindWords 0 4 kwf), (wI g n_targets 0 36 n_ftargets), (wI g n_weights 0 36 n_fweights), (wO4 rd tp n rd_kindWords ww fk fp onx_60684 otk_60685 otpl_60686 otv_60687), (wO8 tp tp_bytes tl), (wI g tp_bytes 0 440 tf), (wO2 n on_60697 n_kind n_pay n_name n_ways n_held n_targets n_weights), (wI g n_kind 0 12 n_gkind_60698), (wI g n_pay 0 12 n_gpay_60699), (wI g n_name 0 12 n_gname_60700), (wI g n_ways 0 12 n_gways_60701), (wI g n_held 0 12 n_gheld_60702)] := hD
          refine lv_iload_n hx hb dX4_readNode_83 rfl (lv_at hl 2 rfl) ?_
          refine lv_if_ne (tgt := 98) hx hb dX4_readNode_84 (by decide) (fun c_60713 => ?_) (fun h9 => (nr_x_eq h_60693 (⟨by decide, by decide⟩ : 0 ≤ (0 : Int32).toInt ∧ (0 : Int32).toInt ≤ 0) (congrArg Int32.toInt h9) (by decide)).elim)
          have c_60713_i : ¬ (p0 : Int32).toInt = (0 : Int32).toInt := (fun q => c_60713 (Int32.toInt_inj.mp q))
          have hP9 := hP.sub (ws' := [(wO4 rd tp n rd_kindWords ww fk fp onx_60684 otk_60685 otpl_60686 otv_60687), (wO8 tp tp_bytes tl), (wI g tp_bytes 0 440 tf), (wI g rd_kindWords 0 4 kwf), (wO2 n on_60697 n_kind n_pay n_name n_ways n_held n_targets n_weights), (wI g n_kind 0 12 n_gkind_60698), (wI g n_pay 0 12 n_gpay_60699), (wI g n_name 0 12 n_gname_60700), (wI g n_ways 0 12 n_gways_60701), (wI g n_held 0 12 n_gheld_60702), (wI g n_targets 0 36 n_ftargets), (wI g n_weights 0 36 n_fweights)]) [3, 4, 5, 0, 6, 7, 8, 9, 10, 11, 1, 2] rfl
          have hD9 := hD.sub (ws' := [(wO4 rd tp n rd_kindWords ww fk fp onx_60684 otk_60685 otpl_60686 otv_60687), (wO8 tp tp_bytes tl), (wI g tp_bytes 0 440 tf), (wI g rd_kindWords 0 4 kwf), (wO2 n on_60697 n_kind n_pay n_name n_ways n_held n_targets n_weights), (wI g n_kind 0 12 n_gkind_60698), (wI g n_pay 0 12 n_gpay_60699), (wI g n_name 0 12 n_gname_60700), (wI g n_ways 0 12 n_gways_60701), (wI g n_held 0 12 n_gheld_60702), (wI g n_targets 0 36 n_ftargets), (wI g n_weights 0 36 n_fweights)]) [3, 4, 5, 0, 6, 7, 8, 9, 10, 11, 1, 2] (by decide) rfl
          exact W.vret hx hb hr (fun t ht hW => ⟨⟨(), rfl, trivial, fk, fp, onx_60684, otk_60685, otpl_60686, otv_60687, on_60697, n_gkind_60698, n_gpay_60699, n_gname_60700, n_gways_60701, n_gheld_60702, n_ftargets, n_fweights, (tr_w h_fk (by decide) (by decide)), (tr_w h_fp (by decide) (by decide)), (tr_w hf_60688 (by decide) (by decide)), (tr_w hf_60689 (by decide) (by decide)), (tr_w hf_60690 (by decide) (by decide)), (tr_w hf_60703 (by decide) (by decide)), (tr_wa hf_60704 (by decide) (by decide)), (tr_wa hf_60705 (by decide) (by decide)), (tr_wa hf_60706 (by decide) (by decide)), (tr_wa h_n_ftargets (by decide) (by decide)), (fun _ => nok_in nf_9 hf_60672 hw_60674_p0_u (absC_fd hw_60679_p0) (by have z_0 := tk_0; have z_1 := tk_1; have z_2 := tk_2; have z_3 := tk_3; have z_m := tk_m1; have z_9 := tk_9; have z_4 := tk_4; (first | (clear h_p0 h_nx h_tk h_tpl h_tl hww hw_60660 c_60661_i h_60662 hw_60674 c_60675_i h_60676 hw_60679 c_60680_i h_60681 c_60692_i h_60693 c_60713_i; omega) | omega)) hf_60691 (by have z_0 := tk_0; have z_1 := tk_1; have z_2 := tk_2; have z_3 := tk_3; have z_m := tk_m1; have z_9 := tk_9; have z_4 := tk_4; (first | (clear h_p0 h_nx h_tk h_tpl h_tl hww hw_60660 c_60661_i h_60662 hw_60674 c_60675_i h_60676 hw_60679 c_60680_i h_60681 c_60692_i h_60693 c_60713_i; omega) | omega)) (absC_addN h_n_nodes.1 (by (first | (clear h_p0 h_nx h_tk h_tpl h_tl hww hw_60660 c_60661_i h_60662 hw_60674 c_60675_i h_60676 hw_60679 c_60680_i h_60681 c_60692_i h_60693 c_60713_i; omega) | omega)) hf_60707 hf_60708 hf_60710 hf_60709 hf_60711 hf_60712 (by decide) (by decide) h_n_fways rfl tk_0)), (fun h9 => absurd hfk h9), by rw [ht]; exact hP9, hD9⟩, hS.F ht⟩) hS.2.2 dX4_readNode_98
        · skip
          have c_60692_i : (p0 : Int32).toInt = (0 : Int32).toInt := congrArg Int32.toInt c_60692
          have h_60694 : 0 ≤ (p0 : Int32).toInt ∧ (p0 : Int32).toInt ≤ 0 := nr_eq_l h_p0 (⟨by decide, by decide⟩ : 0 ≤ (0 : Int32).toInt ∧ (0 : Int32).toInt ≤ 0) c_60692_i (by decide) (by decide)
          refine lv_aload_n hx hb dX4_readNode_72 rfl (lv_at hl 1 rfl) ?_
          refine va_get (D := D) (ci := 4) (v := .int otv_60687) (C := RX4) (T := TX4) (N := 10) hx hb hts inlX4 hown hK hP 9 rfl rfl 9 (by decide) (hts (Cond.fieldLink RX4 86 "ChanceRings$Reader" "tokenValue" "I") qw_374) (fun _ h9 => h9) rfl dX4_readNode_73 ?_
          refine lv_goto (tgt := 80) hx hb dX4_readNode_76 (by decide) ?_
          have h_60714 : 0 ≤ (n_nodes : Int32).toInt ∧ (n_nodes : Int32).toInt ≤ 11 := by (first | (clear h_p0 h_fk h_fp h_nx h_tk h_tpl h_tl hww hfk hw_60660 c_60661_i h_60662 hw_60674 c_60675_i h_60676 hw_60679 c_60680_i h_60681 c_60692_i h_60694; omega) | omega)
          have hPc := hP.sub (ws' := [(wO2 n n_nodes n_kind n_pay n_name n_ways n_held n_targets n_weights), (wI g n_kind 0 12 n_fkind), (wI g n_pay 0 12 n_fpay), (wI g n_name 0 12 n_fname), (wI g n_ways 0 12 n_fways), (wI g n_held 0 12 n_fheld)]) [1, 2, 3, 4, 5, 6] rfl
          have hDc := hD.sub (ws' := [(wO2 n n_nodes n_kind n_pay n_name n_ways n_held n_targets n_weights), (wI g n_kind 0 12 n_fkind), (wI g n_pay 0 12 n_fpay), (wI g n_name 0 12 n_fname), (wI g n_ways 0 12 n_fways), (wI g n_held 0 12 n_fheld)]) [1, 2, 3, 4, 5, 6] (by decide) rfl
          have hFc := va_free (wc := [(wO2 n n_nodes n_kind n_pay n_name n_ways n_held n_targets n_weights), (wI g n_kind 0 12 n_fkind), (wI g n_pay 0 12 n_fpay), (wI g n_name 0 12 n_fname), (wI g n_ways 0 12 n_fways), (wI g n_held 0 12 n_fheld)]) hD hS hA [1, 2, 3, 4, 5, 6] rfl
          refine va_callv (va_runV (As := [.int p0, .int otv_60668, .int otv_60687]) (rest := []) ⟨hx, hb, hml, hown, hts⟩ (c_X2_addNode l D g H.size n p0 otv_60668 otv_60687 n_nodes n_kind n_pay n_name n_ways n_held n_targets n_weights n_fkind n_fpay n_fname n_fways n_fheld (tr_w h_60694 (by decide) (by decide)) (tr_w h_60714 (by decide) (by decide)) (tr_wa h_n_fkind (by decide) (by decide)) (tr_wa h_n_fways (by decide) (by decide)) (tr_wa h_n_fheld (by decide) (by decide))) (cwV 3 hts (tz_gV qw_414 qw_415 qw_416 qw_322 qw_417) rfl rfl rfl (by decide +kernel) ⟨Nat.le_of_ble_eq_true rfl, Nat.le_of_ble_eq_true rfl⟩) ⟨tz_blQ, va_recv hK hPc (ci := 2) (q0 := 0) rfl rfl, tz_preQ hPc hK hDc⟩ rfl rfl hl.1 rfl (lv_room (Nat.le_of_ble_eq_true rfl)) dX4_readNode_80 ⟨Nat.le_of_ble_eq_true rfl, Nat.le_of_ble_eq_true rfl⟩) hS (fun q _ h => hFc q h) hFc (fun u t H1 locs ht hvm hw hB hz1 hk1 hS => ?_)
          obtain ⟨on_60716, n_gkind_60717, n_gpay_60718, n_gname_60719, n_gways_60720, n_gheld_60721, hf_60722, hf_60723, hf_60724, hf_60725, hf_60726, hf_60727, hf_60728, hf_60729, hf_60730, hf_60731, hP1, hD1⟩ := hB
          rw [ht] at hP1
          obtain ⟨hP, hD⟩ := va_join (wr := [(wI g rd_kindWords 0 4 kwf), (wI g n_targets 0 36 n_ftargets), (wI g n_weights 0 36 n_fweights), (wO4 rd tp n rd_kindWords ww fk fp onx_60684 otk_60685 otpl_60686 otv_60687), (wO8 tp tp_bytes tl), (wI g tp_bytes 0 440 tf)]) (w1 := [(wO2 n on_60716 n_kind n_pay n_name n_ways n_held n_targets n_weights), (wI g n_kind 0 12 n_gkind_60717), (wI g n_pay 0 12 n_gpay_60718), (wI g n_name 0 12 n_gname_60719), (wI g n_ways 0 12 n_gways_60720), (wI g n_held 0 12 n_gheld_60721)]) hP hD [1, 2, 3, 4, 5, 6] [0, 7, 8, 9, 10, 11] rfl rfl (by decide) (by decide) hk1 hFc hP1 hD1
          generalize H1 = H at hP hS ⊢
          have hP : va_P D vwCl [(wI g rd_kindWords 0 4 kwf), (wI g n_targets 0 36 n_ftargets), (wI g n_weights 0 36 n_fweights), (wO4 rd tp n rd_kindWords ww fk fp onx_60684 otk_60685 otpl_60686 otv_60687), (wO8 tp tp_bytes tl), (wI g tp_bytes 0 440 tf), (wO2 n on_60716 n_kind n_pay n_name n_ways n_held n_targets n_weights), (wI g n_kind 0 12 n_gkind_60717), (wI g n_pay 0 12 n_gpay_60718), (wI g n_name 0 12 n_gname_60719), (wI g n_ways 0 12 n_gways_60720), (wI g n_held 0 12 n_gheld_60721)] H := hP
          have hD : va_D A [(wI g rd_kindWords 0 4 kwf), (wI g n_targets 0 36 n_ftargets), (wI g n_weights 0 36 n_fweights), (wO4 rd tp n rd_kindWords ww fk fp onx_60684 otk_60685 otpl_60686 otv_60687), (wO8 tp tp_bytes tl), (wI g tp_bytes 0 440 tf), (wO2 n on_60716 n_kind n_pay n_name n_ways n_held n_targets n_weights), (wI g n_kind 0 12 n_gkind_60717), (wI g n_pay 0 12 n_gpay_60718), (wI g n_name 0 12 n_gname_60719), (wI g n_ways 0 12 n_gways_60720), (wI g n_held 0 12 n_gheld_60721)] := hD
          refine lv_iload_n hx hb dX4_readNode_83 rfl (lv_at hl 2 rfl) ?_
          refine lv_if_ne (tgt := 98) hx hb dX4_readNode_84 (by decide) (fun h9 => (nr_x_ne h_60694 (⟨by decide, by decide⟩ : 0 ≤ (0 : Int32).toInt ∧ (0 : Int32).toInt ≤ 0) (fun q => h9 (Int32.toInt_inj.mp q)) (by decide)).elim) (fun c_60732 => ?_)
          have c_60732_i : (p0 : Int32).toInt = (0 : Int32).toInt := congrArg Int32.toInt c_60732
          refine lv_aload_n hx hb dX4_readNode_87 rfl (lv_at hl 1 rfl) ?_
          have hPc := hP.sub (ws' := [(wO4 rd tp n rd_kindWords ww fk fp onx_60684 otk_60685 otpl_60686 otv_60687)]) [3] rfl
          have hDc := hD.sub (ws' := [(wO4 rd tp n rd_kindWords ww fk fp onx_60684 otk_60685 otpl_60686 otv_60687)]) [3] (by decide) rfl
          have hFc := va_free (wc := [(wO4 rd tp n rd_kindWords ww fk fp onx_60684 otk_60685 otpl_60686 otv_60687)]) hD hS hA [3] rfl
          refine va_calli (va_runV (As := []) (rest := []) ⟨hx, hb, hml, hown, hts⟩ (c_X4_isPay l D g H.size rd tp n rd_kindWords ww fk fp onx_60684 otk_60685 otpl_60686 otv_60687 (tr_w h_fk (by decide) (by decide)) (tr_w h_fp (by decide) (by decide)) (tr_w hf_60688 (by decide) (by decide)) (tr_w hf_60689 (by decide) (by decide)) (tr_w hf_60690 (by decide) (by decide)) hfk) (cwV 0 hts (tz_gV qw_418 qw_419 qw_420 qw_364 qw_421) rfl rfl rfl (by decide +kernel) ⟨Nat.le_of_ble_eq_true rfl, Nat.le_of_ble_eq_true rfl⟩) ⟨tz_blQ, va_recv hK hPc (ci := 4) (q0 := 0) rfl rfl, tz_preQ hPc hK hDc⟩ rfl rfl hl.1 rfl (lv_room (Nat.le_of_ble_eq_true rfl)) dX4_readNode_88 ⟨Nat.le_of_ble_eq_true rfl, Nat.le_of_ble_eq_true rfl⟩) hS (fun q _ h => hFc q h) hFc (fun r_60733 u t H1 locs ht hvm hw hB hz1 hk1 hS => ?_)
          have hgu := hw.1
          rw [hgu] at hB
          obtain ⟨ofk_60734, ofp_60735, hf_60736, hf_60737, hf_60738, hf_60739, hP1, hD1⟩ := hB
          rw [ht] at hP1
          obtain ⟨hP, hD⟩ := va_join (wr := [(wI g rd_kindWords 0 4 kwf), (wI g n_targets 0 36 n_ftargets), (wI g n_weights 0 36 n_fweights), (wO8 tp tp_bytes tl), (wI g tp_bytes 0 440 tf), (wO2 n on_60716 n_kind n_pay n_name n_ways n_held n_targets n_weights), (wI g n_kind 0 12 n_gkind_60717), (wI g n_pay 0 12 n_gpay_60718), (wI g n_name 0 12 n_gname_60719), (wI g n_ways 0 12 n_gways_60720), (wI g n_held 0 12 n_gheld_60721)]) (w1 := [(wO4 rd tp n rd_kindWords ww ofk_60734 ofp_60735 onx_60684 otk_60685 otpl_60686 otv_60687)]) hP hD [3] [0, 1, 2, 4, 5, 6, 7, 8, 9, 10, 11] rfl rfl (by decide) (by decide) hk1 hFc hP1 hD1
          generalize H1 = H at hP hS ⊢
          have hP : va_P D vwCl [(wI g rd_kindWords 0 4 kwf), (wI g n_targets 0 36 n_ftargets), (wI g n_weights 0 36 n_fweights), (wO8 tp tp_bytes tl), (wI g tp_bytes 0 440 tf), (wO2 n on_60716 n_kind n_pay n_name n_ways n_held n_targets n_weights), (wI g n_kind 0 12 n_gkind_60717), (wI g n_pay 0 12 n_gpay_60718), (wI g n_name 0 12 n_gname_60719), (wI g n_ways 0 12 n_gways_60720), (wI g n_held 0 12 n_gheld_60721), (wO4 rd tp n rd_kindWords ww ofk_60734 ofp_60735 onx_60684 otk_60685 otpl_60686 otv_60687)] H := hP
          have hD : va_D A [(wI g rd_kindWords 0 4 kwf), (wI g n_targets 0 36 n_ftargets), (wI g n_weights 0 36 n_fweights), (wO8 tp tp_bytes tl), (wI g tp_bytes 0 440 tf), (wO2 n on_60716 n_kind n_pay n_name n_ways n_held n_targets n_weights), (wI g n_kind 0 12 n_gkind_60717), (wI g n_pay 0 12 n_gpay_60718), (wI g n_name 0 12 n_gname_60719), (wI g n_ways 0 12 n_gways_60720), (wI g n_held 0 12 n_gheld_60721), (wO4 rd tp n rd_kindWords ww ofk_60734 ofp_60735 onx_60684 otk_60685 otpl_60686 otv_60687)] := hD
          have hw := hw.2
          have hw_60740 : 0 ≤ (r_60733 : Int32).toInt ∧ (r_60733 : Int32).toInt ≤ 1 := hw
          refine lv_if_eq (tgt := 98) hx hb dX4_readNode_91 (by decide) (fun c_60741 => ?_) (fun c_60741 => ?_)
          · skip
            have c_60741_i : (r_60733 : Int32).toInt = (0 : Int32).toInt := congrArg Int32.toInt c_60741
            have h_60742 : 0 ≤ (r_60733 : Int32).toInt ∧ (r_60733 : Int32).toInt ≤ 0 := nr_eq_l hw_60740 (⟨by decide, by decide⟩ : 0 ≤ (0 : Int32).toInt ∧ (0 : Int32).toInt ≤ 0) c_60741_i (by decide) (by decide)
            have ip_9 := (hf_60739).get (by have z_0 := tk_0; have z_1 := tk_1; have z_2 := tk_2; have z_3 := tk_3; have z_m := tk_m1; have z_9 := tk_9; have z_4 := tk_4; (first | (clear h_p0 h_fk h_fp h_nx h_tk h_tpl h_tl h_n_nodes hww hfk hw_60660 c_60661_i h_60662 hw_60674 c_60675_i h_60676 hw_60679 c_60680_i h_60681 nb_9 c_60692_i h_60694 h_60714 c_60732_i hw_60740 c_60741_i h_60742; omega) | omega))
            have hP9 := hP.sub (ws' := [(wO4 rd tp n rd_kindWords ww ofk_60734 ofp_60735 onx_60684 otk_60685 otpl_60686 otv_60687), (wO8 tp tp_bytes tl), (wI g tp_bytes 0 440 tf), (wI g rd_kindWords 0 4 kwf), (wO2 n on_60716 n_kind n_pay n_name n_ways n_held n_targets n_weights), (wI g n_kind 0 12 n_gkind_60717), (wI g n_pay 0 12 n_gpay_60718), (wI g n_name 0 12 n_gname_60719), (wI g n_ways 0 12 n_gways_60720), (wI g n_held 0 12 n_gheld_60721), (wI g n_targets 0 36 n_ftargets), (wI g n_weights 0 36 n_fweights)]) [11, 3, 4, 0, 5, 6, 7, 8, 9, 10, 1, 2] rfl
            have hD9 := hD.sub (ws' := [(wO4 rd tp n rd_kindWords ww ofk_60734 ofp_60735 onx_60684 otk_60685 otpl_60686 otv_60687), (wO8 tp tp_bytes tl), (wI g tp_bytes 0 440 tf), (wI g rd_kindWords 0 4 kwf), (wO2 n on_60716 n_kind n_pay n_name n_ways n_held n_targets n_weights), (wI g n_kind 0 12 n_gkind_60717), (wI g n_pay 0 12 n_gpay_60718), (wI g n_name 0 12 n_gname_60719), (wI g n_ways 0 12 n_gways_60720), (wI g n_held 0 12 n_gheld_60721), (wI g n_targets 0 36 n_ftargets), (wI g n_weights 0 36 n_fweights)]) [11, 3, 4, 0, 5, 6, 7, 8, 9, 10, 1, 2] (by decide) rfl
            exact W.vret hx hb hr (fun t ht hW => ⟨⟨(), rfl, trivial, ofk_60734, ofp_60735, onx_60684, otk_60685, otpl_60686, otv_60687, on_60716, n_gkind_60717, n_gpay_60718, n_gname_60719, n_gways_60720, n_gheld_60721, n_ftargets, n_fweights, (tr_w hf_60736 (by decide) (by decide)), (tr_w hf_60737 (by decide) (by decide)), (tr_w hf_60688 (by decide) (by decide)), (tr_w hf_60689 (by decide) (by decide)), (tr_w hf_60690 (by decide) (by decide)), (tr_w hf_60722 (by decide) (by decide)), (tr_wa hf_60723 (by decide) (by decide)), (tr_wa hf_60724 (by decide) (by decide)), (tr_wa hf_60725 (by decide) (by decide)), (tr_wa h_n_ftargets (by decide) (by decide)), (fun h9 => absurd h9 ip_9.2.1), (fun _ => nfl_pay nf_9 hf_60672 hw_60674_p0_u (absC_fd hw_60679_p0) (by have z_0 := tk_0; have z_1 := tk_1; have z_2 := tk_2; have z_3 := tk_3; have z_m := tk_m1; have z_9 := tk_9; have z_4 := tk_4; (first | (clear h_p0 h_fk h_fp h_nx h_tk h_tpl h_tl h_n_nodes hww hfk hw_60660 c_60661_i h_60662 hw_60674 c_60675_i h_60676 hw_60679 c_60680_i h_60681 nb_9 c_60692_i h_60694 h_60714 c_60732_i hw_60740 c_60741_i h_60742; omega) | omega)) (by have z_0 := tk_0; have z_1 := tk_1; have z_2 := tk_2; have z_3 := tk_3; have z_m := tk_m1; have z_9 := tk_9; have z_4 := tk_4; (first | (clear h_p0 h_fk h_fp h_nx h_tk h_tpl h_tl h_n_nodes hww hfk hw_60660 c_60661_i h_60662 hw_60674 c_60675_i h_60676 hw_60679 c_60680_i h_60681 nb_9 c_60692_i h_60694 h_60714 c_60732_i hw_60740 c_60741_i h_60742; omega) | omega)) hf_60691 ip_9.1 (by have q9 := ip_9.2.2; (first | (clear h_p0 h_fk h_fp h_nx h_tk h_tpl h_tl h_n_nodes hww hfk hw_60660 c_60661_i h_60662 hw_60674 c_60675_i h_60676 hw_60679 c_60680_i h_60681 nb_9 c_60692_i h_60694 h_60714 c_60732_i hw_60740 c_60741_i h_60742; omega) | omega))), by rw [ht]; exact hP9, hD9⟩, hS.F ht⟩) hS.2.2 dX4_readNode_98
          · skip
            have c_60741_i : ¬ (r_60733 : Int32).toInt = (0 : Int32).toInt := (fun q => c_60741 (Int32.toInt_inj.mp q))
            have h_60743 : 1 ≤ (r_60733 : Int32).toInt ∧ (r_60733 : Int32).toInt ≤ 1 := nr_ne_l hw_60740 (⟨by decide, by decide⟩ : 0 ≤ (0 : Int32).toInt ∧ (0 : Int32).toInt ≤ 0) c_60741_i (by decide) (by decide)
            have ip_9 := (hf_60738).get (by have z_0 := tk_0; have z_1 := tk_1; have z_2 := tk_2; have z_3 := tk_3; have z_m := tk_m1; have z_9 := tk_9; have z_4 := tk_4; (first | (clear h_p0 h_fk h_fp h_nx h_tk h_tpl h_tl h_n_nodes hww hfk hw_60660 c_60661_i h_60662 hw_60674 c_60675_i h_60676 hw_60679 c_60680_i h_60681 nb_9 c_60692_i h_60694 h_60714 c_60732_i hw_60740 c_60741_i h_60743; omega) | omega))
            refine lv_aload_n hx hb dX4_readNode_94 rfl (lv_at hl 1 rfl) ?_
            have hPc := hP.sub (ws' := [(wO4 rd tp n rd_kindWords ww ofk_60734 ofp_60735 onx_60684 otk_60685 otpl_60686 otv_60687), (wO8 tp tp_bytes tl), (wI g tp_bytes 0 440 tf)]) [11, 3, 4] rfl
            have hDc := hD.sub (ws' := [(wO4 rd tp n rd_kindWords ww ofk_60734 ofp_60735 onx_60684 otk_60685 otpl_60686 otv_60687), (wO8 tp tp_bytes tl), (wI g tp_bytes 0 440 tf)]) [11, 3, 4] (by decide) rfl
            have hFc := va_free (wc := [(wO4 rd tp n rd_kindWords ww ofk_60734 ofp_60735 onx_60684 otk_60685 otpl_60686 otv_60687), (wO8 tp tp_bytes tl), (wI g tp_bytes 0 440 tf)]) hD hS hA [11, 3, 4] rfl
            refine va_callv (va_runV (As := []) (rest := []) ⟨hx, hb, hml, hown, hts⟩ (c_X4_advance l D g H.size rd tp n rd_kindWords ww ofk_60734 ofp_60735 onx_60684 otk_60685 otpl_60686 otv_60687 tp_bytes tl tf (tr_w hf_60736 (by decide) (by decide)) (tr_w hf_60737 (by decide) (by decide)) (tr_w hf_60688 (by decide) (by decide)) (tr_w hf_60689 (by decide) (by decide)) (tr_w hf_60690 (by decide) (by decide)) (tr_w h_tl (by decide) (by decide)) (tr_wa h_tf (by decide) (by decide))) (cwV 0 hts (tz_gV qw_402 qw_403 qw_404 qw_364 qw_405) rfl rfl rfl (by decide +kernel) ⟨Nat.le_of_ble_eq_true rfl, Nat.le_of_ble_eq_true rfl⟩) ⟨tz_blQ, va_recv hK hPc (ci := 4) (q0 := 0) rfl rfl, tz_preQ hPc hK hDc⟩ rfl rfl hl.1 rfl (lv_room (Nat.le_of_ble_eq_true rfl)) dX4_readNode_95 ⟨Nat.le_of_ble_eq_true rfl, Nat.le_of_ble_eq_true rfl⟩) hS (fun q _ h => hFc q h) hFc (fun u t H1 locs ht hvm hw hB hz1 hk1 hS => ?_)
            obtain ⟨onx_60745, otk_60746, otpl_60747, otv_60748, hf_60749, hf_60750, hf_60751, hf_60752, hP1, hD1⟩ := hB
            rw [ht] at hP1
            obtain ⟨hP, hD⟩ := va_join (wr := [(wI g rd_kindWords 0 4 kwf), (wI g n_targets 0 36 n_ftargets), (wI g n_weights 0 36 n_fweights), (wO2 n on_60716 n_kind n_pay n_name n_ways n_held n_targets n_weights), (wI g n_kind 0 12 n_gkind_60717), (wI g n_pay 0 12 n_gpay_60718), (wI g n_name 0 12 n_gname_60719), (wI g n_ways 0 12 n_gways_60720), (wI g n_held 0 12 n_gheld_60721)]) (w1 := [(wO4 rd tp n rd_kindWords ww ofk_60734 ofp_60735 onx_60745 otk_60746 otpl_60747 otv_60748), (wO8 tp tp_bytes tl), (wI g tp_bytes 0 440 tf)]) hP hD [11, 3, 4] [0, 1, 2, 5, 6, 7, 8, 9, 10] rfl rfl (by decide) (by decide) hk1 hFc hP1 hD1
            generalize H1 = H at hP hS ⊢
            have hP : va_P D vwCl [(wI g rd_kindWords 0 4 kwf), (wI g n_targets 0 36 n_ftargets), (wI g n_weights 0 36 n_fweights), (wO2 n on_60716 n_kind n_pay n_name n_ways n_held n_targets n_weights), (wI g n_kind 0 12 n_gkind_60717), (wI g n_pay 0 12 n_gpay_60718), (wI g n_name 0 12 n_gname_60719), (wI g n_ways 0 12 n_gways_60720), (wI g n_held 0 12 n_gheld_60721), (wO4 rd tp n rd_kindWords ww ofk_60734 ofp_60735 onx_60745 otk_60746 otpl_60747 otv_60748), (wO8 tp tp_bytes tl), (wI g tp_bytes 0 440 tf)] H := hP
            have hD : va_D A [(wI g rd_kindWords 0 4 kwf), (wI g n_targets 0 36 n_ftargets), (wI g n_weights 0 36 n_fweights), (wO2 n on_60716 n_kind n_pay n_name n_ways n_held n_targets n_weights), (wI g n_kind 0 12 n_gkind_60717), (wI g n_pay 0 12 n_gpay_60718), (wI g n_name 0 12 n_gname_60719), (wI g n_ways 0 12 n_gways_60720), (wI g n_held 0 12 n_gheld_60721), (wO4 rd tp n rd_kindWords ww ofk_60734 ofp_60735 onx_60745 otk_60746 otpl_60747 otv_60748), (wO8 tp tp_bytes tl), (wI g tp_bytes 0 440 tf)] := hD
            have hP9 := hP.sub (ws' := [(wO4 rd tp n rd_kindWords ww ofk_60734 ofp_60735 onx_60745 otk_60746 otpl_60747 otv_60748), (wO8 tp tp_bytes tl), (wI g tp_bytes 0 440 tf), (wI g rd_kindWords 0 4 kwf), (wO2 n on_60716 n_kind n_pay n_name n_ways n_held n_targets n_weights), (wI g n_kind 0 12 n_gkind_60717), (wI g n_pay 0 12 n_gpay_60718), (wI g n_name 0 12 n_gname_60719), (wI g n_ways 0 12 n_gways_60720), (wI g n_held 0 12 n_gheld_60721), (wI g n_targets 0 36 n_ftargets), (wI g n_weights 0 36 n_fweights)]) [9, 10, 11, 0, 3, 4, 5, 6, 7, 8, 1, 2] rfl
            have hD9 := hD.sub (ws' := [(wO4 rd tp n rd_kindWords ww ofk_60734 ofp_60735 onx_60745 otk_60746 otpl_60747 otv_60748), (wO8 tp tp_bytes tl), (wI g tp_bytes 0 440 tf), (wI g rd_kindWords 0 4 kwf), (wO2 n on_60716 n_kind n_pay n_name n_ways n_held n_targets n_weights), (wI g n_kind 0 12 n_gkind_60717), (wI g n_pay 0 12 n_gpay_60718), (wI g n_name 0 12 n_gname_60719), (wI g n_ways 0 12 n_gways_60720), (wI g n_held 0 12 n_gheld_60721), (wI g n_targets 0 36 n_ftargets), (wI g n_weights 0 36 n_fweights)]) [9, 10, 11, 0, 3, 4, 5, 6, 7, 8, 1, 2] (by decide) rfl
            exact W.vret hx hb hr (fun t ht hW => ⟨⟨(), rfl, trivial, ofk_60734, ofp_60735, onx_60745, otk_60746, otpl_60747, otv_60748, on_60716, n_gkind_60717, n_gpay_60718, n_gname_60719, n_gways_60720, n_gheld_60721, n_ftargets, n_fweights, (tr_w hf_60736 (by decide) (by decide)), (tr_w hf_60737 (by decide) (by decide)), (tr_w hf_60749 (by decide) (by decide)), (tr_w hf_60750 (by decide) (by decide)), (tr_w hf_60751 (by decide) (by decide)), (tr_w hf_60722 (by decide) (by decide)), (tr_wa hf_60723 (by decide) (by decide)), (tr_wa hf_60724 (by decide) (by decide)), (tr_wa hf_60725 (by decide) (by decide)), (tr_wa h_n_ftargets (by decide) (by decide)), (fun _ => nok_end nf_9 hf_60672 hw_60674_p0_u (absC_fd hw_60679_p0) (by have z_0 := tk_0; have z_1 := tk_1; have z_2 := tk_2; have z_3 := tk_3; have z_m := tk_m1; have z_9 := tk_9; have z_4 := tk_4; (first | (clear h_p0 h_fk h_fp h_nx h_tk h_tpl h_tl hww hfk hw_60660 c_60661_i h_60662 hw_60674 c_60675_i h_60676 hw_60679 c_60680_i h_60681 c_60692_i h_60694 c_60732_i hw_60740 c_60741_i h_60743; omega) | omega)) hf_60691 (by have z_0 := tk_0; have z_1 := tk_1; have z_2 := tk_2; have z_3 := tk_3; have z_m := tk_m1; have z_9 := tk_9; have z_4 := tk_4; (first | (clear h_p0 h_fk h_fp h_nx h_tk h_tpl h_tl hww hfk hw_60660 c_60661_i h_60662 hw_60674 c_60675_i h_60676 hw_60679 c_60680_i h_60681 c_60692_i h_60694 c_60732_i hw_60740 c_60741_i h_60743; omega) | omega)) ip_9.1 ip_9.2.1 hf_60752 (absC_addN h_n_nodes.1 (by (first | (clear h_p0 h_fk h_fp h_nx h_tk h_tpl h_tl hww hfk hw_60660 c_60661_i h_60662 hw_60674 c_60675_i h_60676 hw_60679 c_60680_i h_60681 c_60692_i h_60694 c_60732_i hw_60740 c_60741_i h_60743; omega) | omega)) hf_60726 hf_60727 hf_60729 hf_60728 hf_60730 hf_60731 (by decide) (by decide) h_n_fways (by have z_0 := tk_0; have z_1 := tk_1; have z_2 := tk_2; have z_3 := tk_3; have z_m := tk_m1; have z_9 := tk_9; have z_4 := tk_4; (first | (clear h_p0 h_fk h_fp h_nx h_tk h_tpl h_tl hww hfk hw_60660 c_60661_i h_60662 hw_60674 c_60675_i h_60676 hw_60679 c_60680_i h_60681 c_60692_i h_60694 c_60732_i hw_60740 c_60741_i h_60743; omega) | omega)) rfl)), (fun h9 => absurd ip_9.2.2 h9), by rw [ht]; exact hP9, hD9⟩, hS.F ht⟩) hS.2.2 dX4_readNode_98
      · skip
        have kk_m1 := tk_m1
        have c_60680_i : ¬ (r_60678 : Int32).toInt = ((-1) : Int32).toInt := (fun q => c_60680 (Int32.toInt_inj.mp q))
        have h_60682 : 0 ≤ (r_60678 : Int32).toInt ∧ (r_60678 : Int32).toInt ≤ 11 := nr_ne_l hw_60679 (⟨by decide, by decide⟩ : (-1) ≤ ((-1) : Int32).toInt ∧ ((-1) : Int32).toInt ≤ (-1)) c_60680_i (by decide) (by decide)
        refine lv_aload_n hx hb dX4_readNode_50 rfl (lv_at hl 1 rfl) ?_
        refine lv_iconst (v := 3) hx hb dX4_readNode_51 (by decide) ?_
        have hPc := hP.sub (ws' := [(wO4 rd tp n rd_kindWords ww fk fp onx_60665 otk_60666 otpl_60667 otv_60668)]) [9] rfl
        have hDc := hD.sub (ws' := [(wO4 rd tp n rd_kindWords ww fk fp onx_60665 otk_60666 otpl_60667 otv_60668)]) [9] (by decide) rfl
        have hFc := va_free (wc := [(wO4 rd tp n rd_kindWords ww fk fp onx_60665 otk_60666 otpl_60667 otv_60668)]) hD hS hA [9] rfl
        refine va_callv (va_runV (As := [.int 3]) (rest := []) ⟨hx, hb, hml, hown, hts⟩ (c_X4_fail l D g H.size rd 3 tp n rd_kindWords ww fk fp onx_60665 otk_60666 otpl_60667 otv_60668 (⟨by decide, by decide⟩ : 0 ≤ (3 : Int32).toInt ∧ (3 : Int32).toInt ≤ 5) (tr_w h_fk (by decide) (by decide)) (tr_w h_fp (by decide) (by decide)) (tr_w hf_60669 (by decide) (by decide)) (tr_w hf_60670 (by decide) (by decide)) (tr_w hf_60671 (by decide) (by decide))) (cwV 1 hts (tz_gV qw_394 qw_395 qw_396 qw_364 qw_397) rfl rfl rfl (by decide +kernel) ⟨Nat.le_of_ble_eq_true rfl, Nat.le_of_ble_eq_true rfl⟩) ⟨tz_blQ, va_recv hK hPc (ci := 4) (q0 := 0) rfl rfl, tz_preQ hPc hK hDc⟩ rfl rfl hl.1 rfl (lv_room (Nat.le_of_ble_eq_true rfl)) dX4_readNode_52 ⟨Nat.le_of_ble_eq_true rfl, Nat.le_of_ble_eq_true rfl⟩) hS (fun q _ h => hFc q h) hFc (fun u t H1 locs ht hvm hw hB hz1 hk1 hS => ?_)
        obtain ⟨hP1, hD1⟩ := hB
        rw [ht] at hP1
        obtain ⟨hP, hD⟩ := va_join (wr := [(wI g rd_kindWords 0 4 kwf), (wO2 n n_nodes n_kind n_pay n_name n_ways n_held n_targets n_weights), (wI g n_kind 0 12 n_fkind), (wI g n_pay 0 12 n_fpay), (wI g n_name 0 12 n_fname), (wI g n_ways 0 12 n_fways), (wI g n_held 0 12 n_fheld), (wI g n_targets 0 36 n_ftargets), (wI g n_weights 0 36 n_fweights), (wO8 tp tp_bytes tl), (wI g tp_bytes 0 440 tf)]) (w1 := [(wO4 rd tp n rd_kindWords ww 3 otpl_60667 onx_60665 otk_60666 otpl_60667 otv_60668)]) hP hD [9] [0, 1, 2, 3, 4, 5, 6, 7, 8, 10, 11] rfl rfl (by decide) (by decide) hk1 hFc hP1 hD1
        generalize H1 = H at hP hS ⊢
        have hP : va_P D vwCl [(wI g rd_kindWords 0 4 kwf), (wO2 n n_nodes n_kind n_pay n_name n_ways n_held n_targets n_weights), (wI g n_kind 0 12 n_fkind), (wI g n_pay 0 12 n_fpay), (wI g n_name 0 12 n_fname), (wI g n_ways 0 12 n_fways), (wI g n_held 0 12 n_fheld), (wI g n_targets 0 36 n_ftargets), (wI g n_weights 0 36 n_fweights), (wO8 tp tp_bytes tl), (wI g tp_bytes 0 440 tf), (wO4 rd tp n rd_kindWords ww 3 otpl_60667 onx_60665 otk_60666 otpl_60667 otv_60668)] H := hP
        have hD : va_D A [(wI g rd_kindWords 0 4 kwf), (wO2 n n_nodes n_kind n_pay n_name n_ways n_held n_targets n_weights), (wI g n_kind 0 12 n_fkind), (wI g n_pay 0 12 n_fpay), (wI g n_name 0 12 n_fname), (wI g n_ways 0 12 n_fways), (wI g n_held 0 12 n_fheld), (wI g n_targets 0 36 n_ftargets), (wI g n_weights 0 36 n_fweights), (wO8 tp tp_bytes tl), (wI g tp_bytes 0 440 tf), (wO4 rd tp n rd_kindWords ww 3 otpl_60667 onx_60665 otk_60666 otpl_60667 otv_60668)] := hD
        refine lv_goto (tgt := 98) hx hb dX4_readNode_55 (by decide) ?_
        have hP9 := hP.sub (ws' := [(wO4 rd tp n rd_kindWords ww 3 otpl_60667 onx_60665 otk_60666 otpl_60667 otv_60668), (wO8 tp tp_bytes tl), (wI g tp_bytes 0 440 tf), (wI g rd_kindWords 0 4 kwf), (wO2 n n_nodes n_kind n_pay n_name n_ways n_held n_targets n_weights), (wI g n_kind 0 12 n_fkind), (wI g n_pay 0 12 n_fpay), (wI g n_name 0 12 n_fname), (wI g n_ways 0 12 n_fways), (wI g n_held 0 12 n_fheld), (wI g n_targets 0 36 n_ftargets), (wI g n_weights 0 36 n_fweights)]) [11, 9, 10, 0, 1, 2, 3, 4, 5, 6, 7, 8] rfl
        have hD9 := hD.sub (ws' := [(wO4 rd tp n rd_kindWords ww 3 otpl_60667 onx_60665 otk_60666 otpl_60667 otv_60668), (wO8 tp tp_bytes tl), (wI g tp_bytes 0 440 tf), (wI g rd_kindWords 0 4 kwf), (wO2 n n_nodes n_kind n_pay n_name n_ways n_held n_targets n_weights), (wI g n_kind 0 12 n_fkind), (wI g n_pay 0 12 n_fpay), (wI g n_name 0 12 n_fname), (wI g n_ways 0 12 n_fways), (wI g n_held 0 12 n_fheld), (wI g n_targets 0 36 n_ftargets), (wI g n_weights 0 36 n_fweights)]) [11, 9, 10, 0, 1, 2, 3, 4, 5, 6, 7, 8] (by decide) rfl
        exact W.vret hx hb hr (fun t ht hW => ⟨⟨(), rfl, trivial, 3, otpl_60667, onx_60665, otk_60666, otpl_60667, otv_60668, n_nodes, n_fkind, n_fpay, n_fname, n_fways, n_fheld, n_ftargets, n_fweights, (⟨by decide, by decide⟩ : 0 ≤ (3 : Int32).toInt ∧ (3 : Int32).toInt ≤ 5), (tr_w hf_60671 (by decide) (by decide)), (tr_w hf_60669 (by decide) (by decide)), (tr_w hf_60670 (by decide) (by decide)), (tr_w hf_60671 (by decide) (by decide)), (tr_w h_n_nodes (by decide) (by decide)), (tr_wa h_n_fkind (by decide) (by decide)), (tr_wa h_n_fways (by decide) (by decide)), (tr_wa h_n_fheld (by decide) (by decide)), (tr_wa h_n_ftargets (by decide) (by decide)), (fun h9 => absurd h9 (by decide)), (fun _ => nfl_twice (fun q9 => hw_60660_p1_u ((absC_full (by (first | (clear h_p0 h_fk h_fp h_nx h_tk h_tpl h_tl hww hfk hw_60660 c_60661_i h_60662 hw_60674 c_60675_i h_60676 hw_60679 c_60680_i h_60682; omega) | omega))).mpr q9)) hf_60672 hw_60674_p0_u (absC_fd hw_60679_p0) (by have z_0 := tk_0; have z_1 := tk_1; have z_2 := tk_2; have z_3 := tk_3; have z_m := tk_m1; have z_9 := tk_9; have z_4 := tk_4; (first | (clear h_p0 h_fk h_fp h_nx h_tk h_tpl h_tl hww hfk hw_60660 c_60661_i h_60662 hw_60674 c_60675_i h_60676 hw_60679 c_60680_i h_60682; omega) | omega)) (by (first | (clear h_p0 h_fk h_fp h_nx h_tk h_tpl h_tl hww hfk hw_60660 c_60661_i h_60662 hw_60674 c_60675_i h_60676 hw_60679 c_60680_i h_60682; omega) | omega))), by rw [ht]; exact hP9, hD9⟩, hS.F ht⟩) hS.2.2 dX4_readNode_98
    · skip
      have c_60675_i : (r_60673 : Int32).toInt = (0 : Int32).toInt := congrArg Int32.toInt c_60675
      have hw_60674_p1_u := (hw_60674_p1).get (c_60675_i.trans tk_0)
      have h_60677 : 0 ≤ (r_60673 : Int32).toInt ∧ (r_60673 : Int32).toInt ≤ 0 := nr_eq_l hw_60674 (⟨by decide, by decide⟩ : 0 ≤ (0 : Int32).toInt ∧ (0 : Int32).toInt ≤ 0) c_60675_i (by decide) (by decide)
      refine lv_aload_n hx hb dX4_readNode_30 rfl (lv_at hl 1 rfl) ?_
      refine lv_iconst (v := 1) hx hb dX4_readNode_31 (by decide) ?_
      have hPc := hP.sub (ws' := [(wO4 rd tp n rd_kindWords ww fk fp onx_60665 otk_60666 otpl_60667 otv_60668)]) [9] rfl
      have hDc := hD.sub (ws' := [(wO4 rd tp n rd_kindWords ww fk fp onx_60665 otk_60666 otpl_60667 otv_60668)]) [9] (by decide) rfl
      have hFc := va_free (wc := [(wO4 rd tp n rd_kindWords ww fk fp onx_60665 otk_60666 otpl_60667 otv_60668)]) hD hS hA [9] rfl
      refine va_callv (va_runV (As := [.int 1]) (rest := []) ⟨hx, hb, hml, hown, hts⟩ (c_X4_fail l D g H.size rd 1 tp n rd_kindWords ww fk fp onx_60665 otk_60666 otpl_60667 otv_60668 (⟨by decide, by decide⟩ : 0 ≤ (1 : Int32).toInt ∧ (1 : Int32).toInt ≤ 5) (tr_w h_fk (by decide) (by decide)) (tr_w h_fp (by decide) (by decide)) (tr_w hf_60669 (by decide) (by decide)) (tr_w hf_60670 (by decide) (by decide)) (tr_w hf_60671 (by decide) (by decide))) (cwV 1 hts (tz_gV qw_394 qw_395 qw_396 qw_364 qw_397) rfl rfl rfl (by decide +kernel) ⟨Nat.le_of_ble_eq_true rfl, Nat.le_of_ble_eq_true rfl⟩) ⟨tz_blQ, va_recv hK hPc (ci := 4) (q0 := 0) rfl rfl, tz_preQ hPc hK hDc⟩ rfl rfl hl.1 rfl (lv_room (Nat.le_of_ble_eq_true rfl)) dX4_readNode_32 ⟨Nat.le_of_ble_eq_true rfl, Nat.le_of_ble_eq_true rfl⟩) hS (fun q _ h => hFc q h) hFc (fun u t H1 locs ht hvm hw hB hz1 hk1 hS => ?_)
      obtain ⟨hP1, hD1⟩ := hB
      rw [ht] at hP1
      obtain ⟨hP, hD⟩ := va_join (wr := [(wI g rd_kindWords 0 4 kwf), (wO2 n n_nodes n_kind n_pay n_name n_ways n_held n_targets n_weights), (wI g n_kind 0 12 n_fkind), (wI g n_pay 0 12 n_fpay), (wI g n_name 0 12 n_fname), (wI g n_ways 0 12 n_fways), (wI g n_held 0 12 n_fheld), (wI g n_targets 0 36 n_ftargets), (wI g n_weights 0 36 n_fweights), (wO8 tp tp_bytes tl), (wI g tp_bytes 0 440 tf)]) (w1 := [(wO4 rd tp n rd_kindWords ww 1 otpl_60667 onx_60665 otk_60666 otpl_60667 otv_60668)]) hP hD [9] [0, 1, 2, 3, 4, 5, 6, 7, 8, 10, 11] rfl rfl (by decide) (by decide) hk1 hFc hP1 hD1
      generalize H1 = H at hP hS ⊢
      have hP : va_P D vwCl [(wI g rd_kindWords 0 4 kwf), (wO2 n n_nodes n_kind n_pay n_name n_ways n_held n_targets n_weights), (wI g n_kind 0 12 n_fkind), (wI g n_pay 0 12 n_fpay), (wI g n_name 0 12 n_fname), (wI g n_ways 0 12 n_fways), (wI g n_held 0 12 n_fheld), (wI g n_targets 0 36 n_ftargets), (wI g n_weights 0 36 n_fweights), (wO8 tp tp_bytes tl), (wI g tp_bytes 0 440 tf), (wO4 rd tp n rd_kindWords ww 1 otpl_60667 onx_60665 otk_60666 otpl_60667 otv_60668)] H := hP
      have hD : va_D A [(wI g rd_kindWords 0 4 kwf), (wO2 n n_nodes n_kind n_pay n_name n_ways n_held n_targets n_weights), (wI g n_kind 0 12 n_fkind), (wI g n_pay 0 12 n_fpay), (wI g n_name 0 12 n_fname), (wI g n_ways 0 12 n_fways), (wI g n_held 0 12 n_fheld), (wI g n_targets 0 36 n_ftargets), (wI g n_weights 0 36 n_fweights), (wO8 tp tp_bytes tl), (wI g tp_bytes 0 440 tf), (wO4 rd tp n rd_kindWords ww 1 otpl_60667 onx_60665 otk_60666 otpl_60667 otv_60668)] := hD
      refine lv_goto (tgt := 98) hx hb dX4_readNode_35 (by decide) ?_
      have hP9 := hP.sub (ws' := [(wO4 rd tp n rd_kindWords ww 1 otpl_60667 onx_60665 otk_60666 otpl_60667 otv_60668), (wO8 tp tp_bytes tl), (wI g tp_bytes 0 440 tf), (wI g rd_kindWords 0 4 kwf), (wO2 n n_nodes n_kind n_pay n_name n_ways n_held n_targets n_weights), (wI g n_kind 0 12 n_fkind), (wI g n_pay 0 12 n_fpay), (wI g n_name 0 12 n_fname), (wI g n_ways 0 12 n_fways), (wI g n_held 0 12 n_fheld), (wI g n_targets 0 36 n_ftargets), (wI g n_weights 0 36 n_fweights)]) [11, 9, 10, 0, 1, 2, 3, 4, 5, 6, 7, 8] rfl
      have hD9 := hD.sub (ws' := [(wO4 rd tp n rd_kindWords ww 1 otpl_60667 onx_60665 otk_60666 otpl_60667 otv_60668), (wO8 tp tp_bytes tl), (wI g tp_bytes 0 440 tf), (wI g rd_kindWords 0 4 kwf), (wO2 n n_nodes n_kind n_pay n_name n_ways n_held n_targets n_weights), (wI g n_kind 0 12 n_fkind), (wI g n_pay 0 12 n_fpay), (wI g n_name 0 12 n_fname), (wI g n_ways 0 12 n_fways), (wI g n_held 0 12 n_fheld), (wI g n_targets 0 36 n_ftargets), (wI g n_weights 0 36 n_fweights)]) [11, 9, 10, 0, 1, 2, 3, 4, 5, 6, 7, 8] (by decide) rfl
      exact W.vret hx hb hr (fun t ht hW => ⟨⟨(), rfl, trivial, 1, otpl_60667, onx_60665, otk_60666, otpl_60667, otv_60668, n_nodes, n_fkind, n_fpay, n_fname, n_fways, n_fheld, n_ftargets, n_fweights, (⟨by decide, by decide⟩ : 0 ≤ (1 : Int32).toInt ∧ (1 : Int32).toInt ≤ 5), (tr_w hf_60671 (by decide) (by decide)), (tr_w hf_60669 (by decide) (by decide)), (tr_w hf_60670 (by decide) (by decide)), (tr_w hf_60671 (by decide) (by decide)), (tr_w h_n_nodes (by decide) (by decide)), (tr_wa h_n_fkind (by decide) (by decide)), (tr_wa h_n_fways (by decide) (by decide)), (tr_wa h_n_fheld (by decide) (by decide)), (tr_wa h_n_ftargets (by decide) (by decide)), (fun h9 => absurd h9 (by decide)), (fun _ => nfl_name (fun q9 => hw_60660_p1_u ((absC_full (by (first | (clear h_p0 h_fk h_fp h_nx h_tk h_tpl h_tl hww hfk hw_60660 c_60661_i h_60662 hw_60674 c_60675_i h_60677; omega) | omega))).mpr q9)) hf_60672 hw_60674_p1_u (by (first | (clear h_p0 h_fk h_fp h_nx h_tk h_tpl h_tl hww hfk hw_60660 c_60661_i h_60662 hw_60674 c_60675_i h_60677; omega) | omega))), by rw [ht]; exact hP9, hD9⟩, hS.F ht⟩) hS.2.2 dX4_readNode_98
  · skip
    have kk_0 := tk_0
    have c_60661_i : ¬ (r_60659 : Int32).toInt = (0 : Int32).toInt := (fun q => c_60661 (Int32.toInt_inj.mp q))
    have hw_60660_p0_u := (hw_60660_p0).get (fun q => c_60661_i (q.trans tk_0.symm))
    have h_60663 : 1 ≤ (r_60659 : Int32).toInt ∧ (r_60659 : Int32).toInt ≤ 1 := nr_ne_l hw_60660 (⟨by decide, by decide⟩ : 0 ≤ (0 : Int32).toInt ∧ (0 : Int32).toInt ≤ 0) c_60661_i (by decide) (by decide)
    refine lv_aload_n hx hb dX4_readNode_8 rfl (lv_at hl 0 rfl) ?_
    refine lv_iconst (v := 4) hx hb dX4_readNode_9 (by decide) ?_
    have hPc := hP.sub (ws' := [(wO4 rd tp n rd_kindWords ww fk fp nx tk tpl tv)]) [0] rfl
    have hDc := hD.sub (ws' := [(wO4 rd tp n rd_kindWords ww fk fp nx tk tpl tv)]) [0] (by decide) rfl
    have hFc := va_free (wc := [(wO4 rd tp n rd_kindWords ww fk fp nx tk tpl tv)]) hD hS hA [0] rfl
    refine va_callv (va_runV (As := [.int 4]) (rest := []) ⟨hx, hb, hml, hown, hts⟩ (c_X4_fail l D g s.heap.size rd 4 tp n rd_kindWords ww fk fp nx tk tpl tv (⟨by decide, by decide⟩ : 0 ≤ (4 : Int32).toInt ∧ (4 : Int32).toInt ≤ 5) (tr_w h_fk (by decide) (by decide)) (tr_w h_fp (by decide) (by decide)) (tr_w h_nx (by decide) (by decide)) (tr_w h_tk (by decide) (by decide)) (tr_w h_tpl (by decide) (by decide))) (cwV 1 hts (tz_gV qw_394 qw_395 qw_396 qw_364 qw_397) rfl rfl rfl (by decide +kernel) ⟨Nat.le_of_ble_eq_true rfl, Nat.le_of_ble_eq_true rfl⟩) ⟨tz_blQ, va_recv hK hPc (ci := 4) (q0 := 0) rfl rfl, tz_preQ hPc hK hDc⟩ rfl rfl hl.1 rfl (lv_room (Nat.le_of_ble_eq_true rfl)) dX4_readNode_10 ⟨Nat.le_of_ble_eq_true rfl, Nat.le_of_ble_eq_true rfl⟩) hS (fun q _ h => hFc q h) hFc (fun u t H1 locs ht hvm hw hB hz1 hk1 hS => ?_)
    obtain ⟨hP1, hD1⟩ := hB
    rw [ht] at hP1
    obtain ⟨hP, hD⟩ := va_join (wr := [(wO8 tp tp_bytes tl), (wI g tp_bytes 0 440 tf), (wI g rd_kindWords 0 4 kwf), (wO2 n n_nodes n_kind n_pay n_name n_ways n_held n_targets n_weights), (wI g n_kind 0 12 n_fkind), (wI g n_pay 0 12 n_fpay), (wI g n_name 0 12 n_fname), (wI g n_ways 0 12 n_fways), (wI g n_held 0 12 n_fheld), (wI g n_targets 0 36 n_ftargets), (wI g n_weights 0 36 n_fweights)]) (w1 := [(wO4 rd tp n rd_kindWords ww 4 tpl nx tk tpl tv)]) hP hD [0] [1, 2, 3, 4, 5, 6, 7, 8, 9, 10, 11] rfl rfl (by decide) (by decide) hk1 hFc hP1 hD1
    generalize H1 = H at hP hS ⊢
    have hP : va_P D vwCl [(wO8 tp tp_bytes tl), (wI g tp_bytes 0 440 tf), (wI g rd_kindWords 0 4 kwf), (wO2 n n_nodes n_kind n_pay n_name n_ways n_held n_targets n_weights), (wI g n_kind 0 12 n_fkind), (wI g n_pay 0 12 n_fpay), (wI g n_name 0 12 n_fname), (wI g n_ways 0 12 n_fways), (wI g n_held 0 12 n_fheld), (wI g n_targets 0 36 n_ftargets), (wI g n_weights 0 36 n_fweights), (wO4 rd tp n rd_kindWords ww 4 tpl nx tk tpl tv)] H := hP
    have hD : va_D A [(wO8 tp tp_bytes tl), (wI g tp_bytes 0 440 tf), (wI g rd_kindWords 0 4 kwf), (wO2 n n_nodes n_kind n_pay n_name n_ways n_held n_targets n_weights), (wI g n_kind 0 12 n_fkind), (wI g n_pay 0 12 n_fpay), (wI g n_name 0 12 n_fname), (wI g n_ways 0 12 n_fways), (wI g n_held 0 12 n_fheld), (wI g n_targets 0 36 n_ftargets), (wI g n_weights 0 36 n_fweights), (wO4 rd tp n rd_kindWords ww 4 tpl nx tk tpl tv)] := hD
    have hP9 := hP.sub (ws' := [(wO4 rd tp n rd_kindWords ww 4 tpl nx tk tpl tv), (wO8 tp tp_bytes tl), (wI g tp_bytes 0 440 tf), (wI g rd_kindWords 0 4 kwf), (wO2 n n_nodes n_kind n_pay n_name n_ways n_held n_targets n_weights), (wI g n_kind 0 12 n_fkind), (wI g n_pay 0 12 n_fpay), (wI g n_name 0 12 n_fname), (wI g n_ways 0 12 n_fways), (wI g n_held 0 12 n_fheld), (wI g n_targets 0 36 n_ftargets), (wI g n_weights 0 36 n_fweights)]) [11, 0, 1, 2, 3, 4, 5, 6, 7, 8, 9, 10] rfl
    have hD9 := hD.sub (ws' := [(wO4 rd tp n rd_kindWords ww 4 tpl nx tk tpl tv), (wO8 tp tp_bytes tl), (wI g tp_bytes 0 440 tf), (wI g rd_kindWords 0 4 kwf), (wO2 n n_nodes n_kind n_pay n_name n_ways n_held n_targets n_weights), (wI g n_kind 0 12 n_fkind), (wI g n_pay 0 12 n_fpay), (wI g n_name 0 12 n_fname), (wI g n_ways 0 12 n_fways), (wI g n_held 0 12 n_fheld), (wI g n_targets 0 36 n_ftargets), (wI g n_weights 0 36 n_fweights)]) [11, 0, 1, 2, 3, 4, 5, 6, 7, 8, 9, 10] (by decide) rfl
    exact W.vret hx hb hr (fun t ht hW => ⟨⟨(), rfl, trivial, 4, tpl, nx, tk, tpl, tv, n_nodes, n_fkind, n_fpay, n_fname, n_fways, n_fheld, n_ftargets, n_fweights, (⟨by decide, by decide⟩ : 0 ≤ (4 : Int32).toInt ∧ (4 : Int32).toInt ≤ 5), (tr_w h_tpl (by decide) (by decide)), (tr_w h_nx (by decide) (by decide)), (tr_w h_tk (by decide) (by decide)), (tr_w h_tpl (by decide) (by decide)), (tr_w h_n_nodes (by decide) (by decide)), (tr_wa h_n_fkind (by decide) (by decide)), (tr_wa h_n_fways (by decide) (by decide)), (tr_wa h_n_fheld (by decide) (by decide)), (tr_wa h_n_ftargets (by decide) (by decide)), (fun h9 => absurd h9 (by decide)), (fun _ => nfl_full ((absC_full (by (first | (clear h_p0 h_fk h_fp h_tl hww hfk hw_60660 c_60661_i h_60663; omega) | omega))).mp hw_60660_p0_u) (by (first | (clear h_p0 h_fk h_fp h_tl hww hfk hw_60660 c_60661_i h_60663; omega) | omega))), by rw [ht]; exact hP9, hD9⟩, hS.F ht⟩) hS.2.2 dX4_readNode_13
set_option maxHeartbeats 4000000 in
set_option maxRecDepth 100000 in
theorem c_X4_readStart (l : Launch) (D : va_G) (g : Nat → ClassId) (sz : Nat) (rd : Nat) (tp : Nat) (n : Nat) (rd_kindWords : Nat) (ww : Int32) (fk : Int32) (fp : Int32) (nx : Int32) (tk : Int32) (tpl : Int32) (tv : Int32) (tp_bytes : Nat) (tl : Int32) (tf : Nat → Int32) (kwf : Nat → Int32) (n_nodes : Int32) (n_kind : Nat) (n_pay : Nat) (n_name : Nat) (n_ways : Nat) (n_held : Nat) (n_targets : Nat) (n_weights : Nat) (n_fkind : Nat → Int32) (n_fpay : Nat → Int32) (n_fname : Nat → Int32) (n_fways : Nat → Int32) (n_fheld : Nat → Int32) (n_ftargets : Nat → Int32) (n_fweights : Nat → Int32) (h_fk : 0 ≤ (fk : Int32).toInt ∧ (fk : Int32).toInt ≤ 5) (h_fp : 0 ≤ (fp : Int32).toInt ∧ (fp : Int32).toInt ≤ 440) (h_nx : 0 ≤ (nx : Int32).toInt ∧ (nx : Int32).toInt ≤ 440) (h_tk : 0 ≤ (tk : Int32).toInt ∧ (tk : Int32).toInt ≤ 4) (h_tpl : 0 ≤ (tpl : Int32).toInt ∧ (tpl : Int32).toInt ≤ 440) (h_tl : 0 ≤ (tl : Int32).toInt ∧ (tl : Int32).toInt ≤ 440) (h_tf : ∀ j : Nat, 0 ≤ (tf j).toInt ∧ (tf j).toInt ≤ 255) (h_n_nodes : 0 ≤ (n_nodes : Int32).toInt ∧ (n_nodes : Int32).toInt ≤ 12) (h_n_fkind : ∀ j : Nat, 0 ≤ (n_fkind j).toInt ∧ (n_fkind j).toInt ≤ 3) (h_n_fways : ∀ j : Nat, 0 ≤ (n_fways j).toInt ∧ (n_fways j).toInt ≤ 3) (h_n_fheld : ∀ j : Nat, (-1) ≤ (n_fheld j).toInt ∧ (n_fheld j).toInt ≤ 2) (h_n_ftargets : ∀ j : Nat, 0 ≤ (n_ftargets j).toInt ∧ (n_ftargets j).toInt ≤ 11) (hkw : KWs kwf) (hww : (ww : Int32).toInt = 16819) (hfk : (fk : Int32).toInt = 0) : Met l yX4_readStart (.code yX4_readStart cX4_readStart 2 (some .int) :: wsL_law) ({ frames := 3, cells := 0, slots := 0, locals := 63 }) (va_Pc [.ref rd] (fun U => U.heap.size = sz ∧ va_P D vwCl [(wO4 rd tp n rd_kindWords ww fk fp nx tk tpl tv), (wO8 tp tp_bytes tl), (wI g tp_bytes 0 440 tf), (wI g rd_kindWords 0 4 kwf), (wO2 n n_nodes n_kind n_pay n_name n_ways n_held n_targets n_weights), (wI g n_kind 0 12 n_fkind), (wI g n_pay 0 12 n_fpay), (wI g n_name 0 12 n_fname), (wI g n_ways 0 12 n_fways), (wI g n_held 0 12 n_fheld), (wI g n_targets 0 36 n_ftargets), (wI g n_weights 0 36 n_fweights)] U.heap ∧ va_K D vwCl (TY g) U ∧ va_D (fun _ => True) [(wO4 rd tp n rd_kindWords ww fk fp nx tk tpl tv), (wO8 tp tp_bytes tl), (wI g tp_bytes 0 440 tf), (wI g rd_kindWords 0 4 kwf), (wO2 n n_nodes n_kind n_pay n_name n_ways n_held n_targets n_weights), (wI g n_kind 0 12 n_fkind), (wI g n_pay 0 12 n_fpay), (wI g n_name 0 12 n_fname), (wI g n_ways 0 12 n_fways), (wI g n_held 0 12 n_fheld), (wI g n_targets 0 36 n_ftargets), (wI g n_weights 0 36 n_fweights)])) (va_Qi (fun (r u : Int32) => u = r ∧ ((-1) ≤ (r : Int32).toInt ∧ (r : Int32).toInt ≤ 11)) (fun r t => ∃ ofk : Int32, ∃ ofp : Int32, ∃ onx : Int32, ∃ otk : Int32, ∃ otpl : Int32, ∃ otv : Int32, (0 ≤ (ofk : Int32).toInt ∧ (ofk : Int32).toInt ≤ 5) ∧ (0 ≤ (ofp : Int32).toInt ∧ (ofp : Int32).toInt ≤ 440) ∧ (0 ≤ (onx : Int32).toInt ∧ (onx : Int32).toInt ≤ 440) ∧ (0 ≤ (otk : Int32).toInt ∧ (otk : Int32).toInt ≤ 4) ∧ (0 ≤ (otpl : Int32).toInt ∧ (otpl : Int32).toInt ≤ 440) ∧ (Hide ((ofk : Int32).toInt = 0 → 0 ≤ (r : Int32).toInt ∧ WS1 (bg tf (tl : Int32).toInt) (nx : Int32).toInt.toNat (absC n_nodes n_fkind n_fpay n_fname n_fways n_fheld n_ftargets n_fweights) (r : Int32).toInt (otk : Int32).toInt (otpl : Int32).toInt.toNat (onx : Int32).toInt.toNat (otv : Int32).toInt)) ∧ (Hide (¬ (ofk : Int32).toInt = 0 → (r : Int32).toInt = -1 ∧ WFl (bg tf (tl : Int32).toInt) (nx : Int32).toInt.toNat (absC n_nodes n_fkind n_fpay n_fname n_fways n_fheld n_ftargets n_fweights) (ofp : Int32).toInt)) ∧ va_P D vwCl [(wO4 rd tp n rd_kindWords ww ofk ofp onx otk otpl otv), (wO8 tp tp_bytes tl), (wI g tp_bytes 0 440 tf), (wI g rd_kindWords 0 4 kwf), (wO2 n n_nodes n_kind n_pay n_name n_ways n_held n_targets n_weights), (wI g n_kind 0 12 n_fkind), (wI g n_pay 0 12 n_fpay), (wI g n_name 0 12 n_fname), (wI g n_ways 0 12 n_fways), (wI g n_held 0 12 n_fheld), (wI g n_targets 0 36 n_ftargets), (wI g n_weights 0 36 n_fweights)] t.heap ∧ va_D (va_A [(wO4 rd tp n rd_kindWords ww fk fp nx tk tpl tv), (wO8 tp tp_bytes tl), (wI g tp_bytes 0 440 tf), (wI g rd_kindWords 0 4 kwf), (wO2 n n_nodes n_kind n_pay n_name n_ways n_held n_targets n_weights), (wI g n_kind 0 12 n_fkind), (wI g n_pay 0 12 n_fpay), (wI g n_name 0 12 n_fname), (wI g n_ways 0 12 n_fways), (wI g n_held 0 12 n_fheld), (wI g n_targets 0 36 n_ftargets), (wI g n_weights 0 36 n_fweights)] sz) [(wO4 rd tp n rd_kindWords ww ofk ofp onx otk otpl otv), (wO8 tp tp_bytes tl), (wI g tp_bytes 0 440 tf), (wI g rd_kindWords 0 4 kwf), (wO2 n n_nodes n_kind n_pay n_name n_ways n_held n_targets n_weights), (wI g n_kind 0 12 n_fkind), (wI g n_pay 0 12 n_fpay), (wI g n_name 0 12 n_fname), (wI g n_ways 0 12 n_fways), (wI g n_held 0 12 n_fheld), (wI g n_targets 0 36 n_ftargets), (wI g n_weights 0 36 n_fweights)]) (va_A [(wO4 rd tp n rd_kindWords ww fk fp nx tk tpl tv), (wO8 tp tp_bytes tl), (wI g tp_bytes 0 440 tf), (wI g rd_kindWords 0 4 kwf), (wO2 n n_nodes n_kind n_pay n_name n_ways n_held n_targets n_weights), (wI g n_kind 0 12 n_fkind), (wI g n_pay 0 12 n_fpay), (wI g n_name 0 12 n_fname), (wI g n_ways 0 12 n_fways), (wI g n_held 0 12 n_fheld), (wI g n_targets 0 36 n_ftargets), (wI g n_weights 0 36 n_fweights)] sz)) 0 0 (va_A [(wO4 rd tp n rd_kindWords ww fk fp nx tk tpl tv), (wO8 tp tp_bytes tl), (wI g tp_bytes 0 440 tf), (wI g rd_kindWords 0 4 kwf), (wO2 n n_nodes n_kind n_pay n_name n_ways n_held n_targets n_weights), (wI g n_kind 0 12 n_fkind), (wI g n_pay 0 12 n_fpay), (wI g n_name 0 12 n_fname), (wI g n_ways 0 12 n_fways), (wI g n_held 0 12 n_fheld), (wI g n_targets 0 36 n_ftargets), (wI g n_weights 0 36 n_fweights)] sz) := by
  refine Met.ofW (cc := cX4_readStart) (maxL := 2) (ret := (some .int)) (by decide) rfl ?_
  intro p e s m args below meth c s₁ B hml hv
  obtain ⟨ha, hsz, hP, hK, hD0⟩ := hv
  have hx := B.exec
  have hb := B.bytes
  have hr := B.returns
  have hts0 := atoms_spec (ws := (.code yX4_readStart cX4_readStart 2 (some .int) :: wsL_law)) B.pre
  have hts : ∀ w ∈ wsL_law, w.before args s = true := fun w h => hts0 w (List.mem_cons_of_mem _ h)
  have hown : s.vm.findClass RX4 = some m.cls := findClass_of_methodNamed B.named
  have hlocks := B.notSynchronized
  subst hsz
  have hD := hD0.self (sz := s.heap.size)
  generalize hAe : va_A [(wO4 rd tp n rd_kindWords ww fk fp nx tk tpl tv), (wO8 tp tp_bytes tl), (wI g tp_bytes 0 440 tf), (wI g rd_kindWords 0 4 kwf), (wO2 n n_nodes n_kind n_pay n_name n_ways n_held n_targets n_weights), (wI g n_kind 0 12 n_fkind), (wI g n_pay 0 12 n_fpay), (wI g n_name 0 12 n_fname), (wI g n_ways 0 12 n_fways), (wI g n_held 0 12 n_fheld), (wI g n_targets 0 36 n_ftargets), (wI g n_weights 0 36 n_fweights)] s.heap.size = A at hD ⊢
  have hA : ∀ q : Nat, s.heap.size ≤ q → A q := fun q h => by rw [← hAe]; exact Or.inr h
  have hS : va_S A s.heap s.heap [] := va_S.rf
  have hP : va_P D vwCl [(wO4 rd tp n rd_kindWords ww fk fp nx tk tpl tv), (wO8 tp tp_bytes tl), (wI g tp_bytes 0 440 tf), (wI g rd_kindWords 0 4 kwf), (wO2 n n_nodes n_kind n_pay n_name n_ways n_held n_targets n_weights), (wI g n_kind 0 12 n_fkind), (wI g n_pay 0 12 n_fpay), (wI g n_name 0 12 n_fname), (wI g n_ways 0 12 n_fways), (wI g n_held 0 12 n_fheld), (wI g n_targets 0 36 n_ftargets), (wI g n_weights 0 36 n_fweights)] s.heap := hP
  refine W.eq (g2 := entryFrame m ([.ref rd] : List Value).toArray 2) (by rw [ha]) ?_
  have hl := lv_entry ([.ref rd]) (n := 2) (Nat.le_of_ble_eq_true rfl)
  rw [lg_entry_eq]
  generalize (lg_sl ([.ref rd]) ++ List.replicate (2 - (lg_sl ([.ref rd])).length) Slot.unset).toArray = ls at hl ⊢
  have hl : lv_has ls 2 [(0, .ref rd)] := hl
  have h_60756 : 0 ≤ (fk : Int32).toInt ∧ (fk : Int32).toInt ≤ 0 := by (first | (clear h_fp h_nx h_tk h_tpl h_tl h_n_nodes hww; omega) | omega)
  refine lv_aload_n hx hb dX4_readStart_0 rfl (lv_at hl 0 rfl) ?_
  have hPc := hP.sub (ws' := [(wO4 rd tp n rd_kindWords ww fk fp nx tk tpl tv), (wO8 tp tp_bytes tl), (wI g tp_bytes 0 440 tf)]) [0, 1, 2] rfl
  have hDc := hD.sub (ws' := [(wO4 rd tp n rd_kindWords ww fk fp nx tk tpl tv), (wO8 tp tp_bytes tl), (wI g tp_bytes 0 440 tf)]) [0, 1, 2] (by decide) rfl
  have hFc := va_free (wc := [(wO4 rd tp n rd_kindWords ww fk fp nx tk tpl tv), (wO8 tp tp_bytes tl), (wI g tp_bytes 0 440 tf)]) hD hS hA [0, 1, 2] rfl
  refine va_callv (va_runV (As := []) (rest := []) ⟨hx, hb, hml, hown, hts⟩ (c_X4_advance l D g s.heap.size rd tp n rd_kindWords ww fk fp nx tk tpl tv tp_bytes tl tf (tr_w h_60756 (by decide) (by decide)) (tr_w h_fp (by decide) (by decide)) (tr_w h_nx (by decide) (by decide)) (tr_w h_tk (by decide) (by decide)) (tr_w h_tpl (by decide) (by decide)) (tr_w h_tl (by decide) (by decide)) (tr_wa h_tf (by decide) (by decide))) (cwV 0 hts (tz_gV qw_402 qw_403 qw_404 qw_364 qw_405) rfl rfl rfl (by decide +kernel) ⟨Nat.le_of_ble_eq_true rfl, Nat.le_of_ble_eq_true rfl⟩) ⟨tz_blQ, va_recv hK hPc (ci := 4) (q0 := 0) rfl rfl, tz_preQ hPc hK hDc⟩ rfl rfl hl.1 rfl (lv_room (Nat.le_of_ble_eq_true rfl)) dX4_readStart_1 ⟨Nat.le_of_ble_eq_true rfl, Nat.le_of_ble_eq_true rfl⟩) hS (fun q _ h => hFc q h) hFc (fun u t H1 locs ht hvm hw hB hz1 hk1 hS => ?_)
  obtain ⟨onx_60758, otk_60759, otpl_60760, otv_60761, hf_60762, hf_60763, hf_60764, hf_60765, hP1, hD1⟩ := hB
  rw [ht] at hP1
  obtain ⟨hP, hD⟩ := va_join (wr := [(wI g rd_kindWords 0 4 kwf), (wO2 n n_nodes n_kind n_pay n_name n_ways n_held n_targets n_weights), (wI g n_kind 0 12 n_fkind), (wI g n_pay 0 12 n_fpay), (wI g n_name 0 12 n_fname), (wI g n_ways 0 12 n_fways), (wI g n_held 0 12 n_fheld), (wI g n_targets 0 36 n_ftargets), (wI g n_weights 0 36 n_fweights)]) (w1 := [(wO4 rd tp n rd_kindWords ww fk fp onx_60758 otk_60759 otpl_60760 otv_60761), (wO8 tp tp_bytes tl), (wI g tp_bytes 0 440 tf)]) hP hD [0, 1, 2] [3, 4, 5, 6, 7, 8, 9, 10, 11] rfl rfl (by decide) (by decide) hk1 hFc hP1 hD1
  generalize H1 = H at hP hS ⊢
  have hP : va_P D vwCl [(wI g rd_kindWords 0 4 kwf), (wO2 n n_nodes n_kind n_pay n_name n_ways n_held n_targets n_weights), (wI g n_kind 0 12 n_fkind), (wI g n_pay 0 12 n_fpay), (wI g n_name 0 12 n_fname), (wI g n_ways 0 12 n_fways), (wI g n_held 0 12 n_fheld), (wI g n_targets 0 36 n_ftargets), (wI g n_weights 0 36 n_fweights), (wO4 rd tp n rd_kindWords ww fk fp onx_60758 otk_60759 otpl_60760 otv_60761), (wO8 tp tp_bytes tl), (wI g tp_bytes 0 440 tf)] H := hP
  have hD : va_D A [(wI g rd_kindWords 0 4 kwf), (wO2 n n_nodes n_kind n_pay n_name n_ways n_held n_targets n_weights), (wI g n_kind 0 12 n_fkind), (wI g n_pay 0 12 n_fpay), (wI g n_name 0 12 n_fname), (wI g n_ways 0 12 n_fways), (wI g n_held 0 12 n_fheld), (wI g n_targets 0 36 n_ftargets), (wI g n_weights 0 36 n_fweights), (wO4 rd tp n rd_kindWords ww fk fp onx_60758 otk_60759 otpl_60760 otv_60761), (wO8 tp tp_bytes tl), (wI g tp_bytes 0 440 tf)] := hD
  refine lv_aload_n hx hb dX4_readStart_4 rfl (lv_at hl 0 rfl) ?_
  have hPc := hP.sub (ws' := [(wO4 rd tp n rd_kindWords ww fk fp onx_60758 otk_60759 otpl_60760 otv_60761), (wI g rd_kindWords 0 4 kwf)]) [9, 0] rfl
  refine vp_callSi (va_Run.run (va_runV (As := []) (rest := []) ⟨hx, hb, hml, hown, hts⟩ (c_X4_isName l D g rd tp n rd_kindWords ww fk fp onx_60758 otk_60759 otpl_60760 otv_60761 kwf (tr_w h_60756 (by decide) (by decide)) (tr_w h_fp (by decide) (by decide)) (tr_w hf_60762 (by decide) (by decide)) (tr_w hf_60763 (by decide) (by decide)) (tr_w hf_60764 (by decide) (by decide)) hkw hww) (cwV 0 hts (tz_gV qw_406 qw_407 qw_408 qw_364 qw_409) rfl rfl rfl (by decide +kernel) ⟨Nat.le_of_ble_eq_true rfl, Nat.le_of_ble_eq_true rfl⟩) ⟨tz_blS, va_recv hK hPc (ci := 4) (q0 := 0) rfl rfl, tz_preS hPc hK⟩ rfl rfl hl.1 rfl (lv_room (Nat.le_of_ble_eq_true rfl)) dX4_readStart_5 ⟨Nat.le_of_ble_eq_true rfl, Nat.le_of_ble_eq_true rfl⟩)) (fun r_60766 hw => ?_)
  have hw_60767 : 0 ≤ (r_60766 : Int32).toInt ∧ (r_60766 : Int32).toInt ≤ 1 := hw.1
  have hw_60767_p0 : Hide (¬ (r_60766 : Int32).toInt = 0 → NMC (otk_60759 : Int32).toInt (otv_60761 : Int32).toInt) := hw.2.1
  have hw_60767_p1 : Hide ((r_60766 : Int32).toInt = 0 → ¬ NMC (otk_60759 : Int32).toInt (otv_60761 : Int32).toInt) := hw.2.2
  refine lv_if_eq (tgt := 25) hx hb dX4_readStart_8 (by decide) (fun c_60768 => ?_) (fun c_60768 => ?_)
  · skip
    have kk_0 := tk_0
    have c_60768_i : (r_60766 : Int32).toInt = (0 : Int32).toInt := congrArg Int32.toInt c_60768
    have hw_60767_p1_u := (hw_60767_p1).get (c_60768_i.trans tk_0)
    have h_60769 : 0 ≤ (r_60766 : Int32).toInt ∧ (r_60766 : Int32).toInt ≤ 0 := nr_eq_l hw_60767 (⟨by decide, by decide⟩ : 0 ≤ (0 : Int32).toInt ∧ (0 : Int32).toInt ≤ 0) c_60768_i (by decide) (by decide)
    refine lv_iconst (v := (-1)) hx hb dX4_readStart_25 (by decide) ?_
    refine lv_istore_n (lv' := [(1, .int (-1)), (0, .ref rd)]) hx hb dX4_readStart_26 rfl hl (by decide) rfl (fun ls hl => ?_)
    refine lv_aload_n hx hb dX4_readStart_27 rfl (lv_at hl 1 rfl) ?_
    have hPc := hP.sub (ws' := [(wO4 rd tp n rd_kindWords ww fk fp onx_60758 otk_60759 otpl_60760 otv_60761), (wI g rd_kindWords 0 4 kwf)]) [9, 0] rfl
    refine vp_callSi (va_Run.run (va_runV (As := []) (rest := []) ⟨hx, hb, hml, hown, hts⟩ (c_X4_isName l D g rd tp n rd_kindWords ww fk fp onx_60758 otk_60759 otpl_60760 otv_60761 kwf (tr_w h_60756 (by decide) (by decide)) (tr_w h_fp (by decide) (by decide)) (tr_w hf_60762 (by decide) (by decide)) (tr_w hf_60763 (by decide) (by decide)) (tr_w hf_60764 (by decide) (by decide)) hkw hww) (cwV 0 hts (tz_gV qw_406 qw_407 qw_408 qw_364 qw_409) rfl rfl rfl (by decide +kernel) ⟨Nat.le_of_ble_eq_true rfl, Nat.le_of_ble_eq_true rfl⟩) ⟨tz_blS, va_recv hK hPc (ci := 4) (q0 := 0) rfl rfl, tz_preS hPc hK⟩ rfl rfl hl.1 rfl (lv_room (Nat.le_of_ble_eq_true rfl)) dX4_readStart_28 ⟨Nat.le_of_ble_eq_true rfl, Nat.le_of_ble_eq_true rfl⟩)) (fun r_60771 hw => ?_)
    have hw_60772 : 0 ≤ (r_60771 : Int32).toInt ∧ (r_60771 : Int32).toInt ≤ 1 := hw.1
    have hw_60772_p0 : Hide (¬ (r_60771 : Int32).toInt = 0 → NMC (otk_60759 : Int32).toInt (otv_60761 : Int32).toInt) := hw.2.1
    have hw_60772_p1 : Hide ((r_60771 : Int32).toInt = 0 → ¬ NMC (otk_60759 : Int32).toInt (otv_60761 : Int32).toInt) := hw.2.2
    refine lv_if_ne (tgt := 42) hx hb dX4_readStart_31 (by decide) (fun c_60773 => ?_) (fun c_60773 => ?_)
    · skip
      have c_60773_i : ¬ (r_60771 : Int32).toInt = (0 : Int32).toInt := (fun q => c_60773 (Int32.toInt_inj.mp q))
      have hw_60772_p0_u := (hw_60772_p0).get (fun q => c_60773_i (q.trans tk_0.symm))
      have h_60774 : 1 ≤ (r_60771 : Int32).toInt ∧ (r_60771 : Int32).toInt ≤ 1 := nr_ne_l hw_60772 (⟨by decide, by decide⟩ : 0 ≤ (0 : Int32).toInt ∧ (0 : Int32).toInt ≤ 0) c_60773_i (by decide) (by decide)
      refine lv_iload_n hx hb dX4_readStart_42 rfl (lv_at hl 0 rfl) ?_
      refine lv_iconst (v := (-1)) hx hb dX4_readStart_43 (by decide) ?_
      refine lv_icmp_eq (tgt := 59) hx hb dX4_readStart_44 (by decide) (fun _ => ?_) (fun h9 => (h9 (by decide)).elim)
      refine lv_aload_n hx hb dX4_readStart_59 rfl (lv_at hl 1 rfl) ?_
      refine lv_iconst (v := 3) hx hb dX4_readStart_60 (by decide) ?_
      have hPc := hP.sub (ws' := [(wO4 rd tp n rd_kindWords ww fk fp onx_60758 otk_60759 otpl_60760 otv_60761)]) [9] rfl
      have hDc := hD.sub (ws' := [(wO4 rd tp n rd_kindWords ww fk fp onx_60758 otk_60759 otpl_60760 otv_60761)]) [9] (by decide) rfl
      have hFc := va_free (wc := [(wO4 rd tp n rd_kindWords ww fk fp onx_60758 otk_60759 otpl_60760 otv_60761)]) hD hS hA [9] rfl
      refine va_callv (va_runV (As := [.int 3]) (rest := []) ⟨hx, hb, hml, hown, hts⟩ (c_X4_fail l D g H.size rd 3 tp n rd_kindWords ww fk fp onx_60758 otk_60759 otpl_60760 otv_60761 (⟨by decide, by decide⟩ : 0 ≤ (3 : Int32).toInt ∧ (3 : Int32).toInt ≤ 5) (tr_w h_60756 (by decide) (by decide)) (tr_w h_fp (by decide) (by decide)) (tr_w hf_60762 (by decide) (by decide)) (tr_w hf_60763 (by decide) (by decide)) (tr_w hf_60764 (by decide) (by decide))) (cwV 1 hts (tz_gV qw_394 qw_395 qw_396 qw_364 qw_397) rfl rfl rfl (by decide +kernel) ⟨Nat.le_of_ble_eq_true rfl, Nat.le_of_ble_eq_true rfl⟩) ⟨tz_blQ, va_recv hK hPc (ci := 4) (q0 := 0) rfl rfl, tz_preQ hPc hK hDc⟩ rfl rfl hl.1 rfl (lv_room (Nat.le_of_ble_eq_true rfl)) dX4_readStart_61 ⟨Nat.le_of_ble_eq_true rfl, Nat.le_of_ble_eq_true rfl⟩) hS (fun q _ h => hFc q h) hFc (fun u t H1 locs ht hvm hw hB hz1 hk1 hS => ?_)
      obtain ⟨hP1, hD1⟩ := hB
      rw [ht] at hP1
      obtain ⟨hP, hD⟩ := va_join (wr := [(wI g rd_kindWords 0 4 kwf), (wO2 n n_nodes n_kind n_pay n_name n_ways n_held n_targets n_weights), (wI g n_kind 0 12 n_fkind), (wI g n_pay 0 12 n_fpay), (wI g n_name 0 12 n_fname), (wI g n_ways 0 12 n_fways), (wI g n_held 0 12 n_fheld), (wI g n_targets 0 36 n_ftargets), (wI g n_weights 0 36 n_fweights), (wO8 tp tp_bytes tl), (wI g tp_bytes 0 440 tf)]) (w1 := [(wO4 rd tp n rd_kindWords ww 3 otpl_60760 onx_60758 otk_60759 otpl_60760 otv_60761)]) hP hD [9] [0, 1, 2, 3, 4, 5, 6, 7, 8, 10, 11] rfl rfl (by decide) (by decide) hk1 hFc hP1 hD1
      generalize H1 = H at hP hS ⊢
      have hP : va_P D vwCl [(wI g rd_kindWords 0 4 kwf), (wO2 n n_nodes n_kind n_pay n_name n_ways n_held n_targets n_weights), (wI g n_kind 0 12 n_fkind), (wI g n_pay 0 12 n_fpay), (wI g n_name 0 12 n_fname), (wI g n_ways 0 12 n_fways), (wI g n_held 0 12 n_fheld), (wI g n_targets 0 36 n_ftargets), (wI g n_weights 0 36 n_fweights), (wO8 tp tp_bytes tl), (wI g tp_bytes 0 440 tf), (wO4 rd tp n rd_kindWords ww 3 otpl_60760 onx_60758 otk_60759 otpl_60760 otv_60761)] H := hP
      have hD : va_D A [(wI g rd_kindWords 0 4 kwf), (wO2 n n_nodes n_kind n_pay n_name n_ways n_held n_targets n_weights), (wI g n_kind 0 12 n_fkind), (wI g n_pay 0 12 n_fpay), (wI g n_name 0 12 n_fname), (wI g n_ways 0 12 n_fways), (wI g n_held 0 12 n_fheld), (wI g n_targets 0 36 n_ftargets), (wI g n_weights 0 36 n_fweights), (wO8 tp tp_bytes tl), (wI g tp_bytes 0 440 tf), (wO4 rd tp n rd_kindWords ww 3 otpl_60760 onx_60758 otk_60759 otpl_60760 otv_60761)] := hD
      refine lv_goto (tgt := 85) hx hb dX4_readStart_64 (by decide) ?_
      refine lv_aload_n hx hb dX4_readStart_85 rfl (lv_at hl 1 rfl) ?_
      refine va_get (D := D) (ci := 4) (v := .int 3) (C := RX4) (T := TX4) (N := 10) hx hb hts inlX4 hown hK hP 11 rfl rfl 4 (by decide) (hts (Cond.fieldLink RX4 41 "ChanceRings$Reader" "faultKind" "I") qw_358) (fun _ h9 => h9) rfl dX4_readStart_86 ?_
      refine lv_if_ne (tgt := 96) hx hb dX4_readStart_89 (by decide) (fun _ => ?_) (fun h9 => absurd h9 (by decide))
      refine lv_iconst (v := (-1)) hx hb dX4_readStart_96 (by decide) ?_
      have hP9 := hP.sub (ws' := [(wO4 rd tp n rd_kindWords ww 3 otpl_60760 onx_60758 otk_60759 otpl_60760 otv_60761), (wO8 tp tp_bytes tl), (wI g tp_bytes 0 440 tf), (wI g rd_kindWords 0 4 kwf), (wO2 n n_nodes n_kind n_pay n_name n_ways n_held n_targets n_weights), (wI g n_kind 0 12 n_fkind), (wI g n_pay 0 12 n_fpay), (wI g n_name 0 12 n_fname), (wI g n_ways 0 12 n_fways), (wI g n_held 0 12 n_fheld), (wI g n_targets 0 36 n_ftargets), (wI g n_weights 0 36 n_fweights)]) [11, 9, 10, 0, 1, 2, 3, 4, 5, 6, 7, 8] rfl
      have hD9 := hD.sub (ws' := [(wO4 rd tp n rd_kindWords ww 3 otpl_60760 onx_60758 otk_60759 otpl_60760 otv_60761), (wO8 tp tp_bytes tl), (wI g tp_bytes 0 440 tf), (wI g rd_kindWords 0 4 kwf), (wO2 n n_nodes n_kind n_pay n_name n_ways n_held n_targets n_weights), (wI g n_kind 0 12 n_fkind), (wI g n_pay 0 12 n_fpay), (wI g n_name 0 12 n_fname), (wI g n_ways 0 12 n_fways), (wI g n_held 0 12 n_fheld), (wI g n_targets 0 36 n_ftargets), (wI g n_weights 0 36 n_fweights)]) [11, 9, 10, 0, 1, 2, 3, 4, 5, 6, 7, 8] (by decide) rfl
      exact W.iret (v := (-1)) hx hb hr (fun t ht hW => ⟨⟨(-1), (-1), rfl, ⟨rfl, (⟨by decide, by decide⟩ : (-1) ≤ ((-1) : Int32).toInt ∧ ((-1) : Int32).toInt ≤ 11)⟩, 3, otpl_60760, onx_60758, otk_60759, otpl_60760, otv_60761, (⟨by decide, by decide⟩ : 0 ≤ (3 : Int32).toInt ∧ (3 : Int32).toInt ≤ 5), (tr_w hf_60764 (by decide) (by decide)), (tr_w hf_60762 (by decide) (by decide)), (tr_w hf_60763 (by decide) (by decide)), (tr_w hf_60764 (by decide) (by decide)), (fun h9 => absurd h9 (by decide)), (fun _ => ⟨by decide, absurd hw_60772_p0_u hw_60767_p1_u⟩), by rw [ht]; exact hP9, hD9⟩, hS.F ht⟩) hS.2.2 dX4_readStart_97
    · skip
      have c_60773_i : (r_60771 : Int32).toInt = (0 : Int32).toInt := congrArg Int32.toInt c_60773
      have hw_60772_p1_u := (hw_60772_p1).get (c_60773_i.trans tk_0)
      have h_60775 : 0 ≤ (r_60771 : Int32).toInt ∧ (r_60771 : Int32).toInt ≤ 0 := nr_eq_l hw_60772 (⟨by decide, by decide⟩ : 0 ≤ (0 : Int32).toInt ∧ (0 : Int32).toInt ≤ 0) c_60773_i (by decide) (by decide)
      refine lv_aload_n hx hb dX4_readStart_34 rfl (lv_at hl 1 rfl) ?_
      refine lv_iconst (v := 1) hx hb dX4_readStart_35 (by decide) ?_
      have hPc := hP.sub (ws' := [(wO4 rd tp n rd_kindWords ww fk fp onx_60758 otk_60759 otpl_60760 otv_60761)]) [9] rfl
      have hDc := hD.sub (ws' := [(wO4 rd tp n rd_kindWords ww fk fp onx_60758 otk_60759 otpl_60760 otv_60761)]) [9] (by decide) rfl
      have hFc := va_free (wc := [(wO4 rd tp n rd_kindWords ww fk fp onx_60758 otk_60759 otpl_60760 otv_60761)]) hD hS hA [9] rfl
      refine va_callv (va_runV (As := [.int 1]) (rest := []) ⟨hx, hb, hml, hown, hts⟩ (c_X4_fail l D g H.size rd 1 tp n rd_kindWords ww fk fp onx_60758 otk_60759 otpl_60760 otv_60761 (⟨by decide, by decide⟩ : 0 ≤ (1 : Int32).toInt ∧ (1 : Int32).toInt ≤ 5) (tr_w h_60756 (by decide) (by decide)) (tr_w h_fp (by decide) (by decide)) (tr_w hf_60762 (by decide) (by decide)) (tr_w hf_60763 (by decide) (by decide)) (tr_w hf_60764 (by decide) (by decide))) (cwV 1 hts (tz_gV qw_394 qw_395 qw_396 qw_364 qw_397) rfl rfl rfl (by decide +kernel) ⟨Nat.le_of_ble_eq_true rfl, Nat.le_of_ble_eq_true rfl⟩) ⟨tz_blQ, va_recv hK hPc (ci := 4) (q0 := 0) rfl rfl, tz_preQ hPc hK hDc⟩ rfl rfl hl.1 rfl (lv_room (Nat.le_of_ble_eq_true rfl)) dX4_readStart_36 ⟨Nat.le_of_ble_eq_true rfl, Nat.le_of_ble_eq_true rfl⟩) hS (fun q _ h => hFc q h) hFc (fun u t H1 locs ht hvm hw hB hz1 hk1 hS => ?_)
      obtain ⟨hP1, hD1⟩ := hB
      rw [ht] at hP1
      obtain ⟨hP, hD⟩ := va_join (wr := [(wI g rd_kindWords 0 4 kwf), (wO2 n n_nodes n_kind n_pay n_name n_ways n_held n_targets n_weights), (wI g n_kind 0 12 n_fkind), (wI g n_pay 0 12 n_fpay), (wI g n_name 0 12 n_fname), (wI g n_ways 0 12 n_fways), (wI g n_held 0 12 n_fheld), (wI g n_targets 0 36 n_ftargets), (wI g n_weights 0 36 n_fweights), (wO8 tp tp_bytes tl), (wI g tp_bytes 0 440 tf)]) (w1 := [(wO4 rd tp n rd_kindWords ww 1 otpl_60760 onx_60758 otk_60759 otpl_60760 otv_60761)]) hP hD [9] [0, 1, 2, 3, 4, 5, 6, 7, 8, 10, 11] rfl rfl (by decide) (by decide) hk1 hFc hP1 hD1
      generalize H1 = H at hP hS ⊢
      have hP : va_P D vwCl [(wI g rd_kindWords 0 4 kwf), (wO2 n n_nodes n_kind n_pay n_name n_ways n_held n_targets n_weights), (wI g n_kind 0 12 n_fkind), (wI g n_pay 0 12 n_fpay), (wI g n_name 0 12 n_fname), (wI g n_ways 0 12 n_fways), (wI g n_held 0 12 n_fheld), (wI g n_targets 0 36 n_ftargets), (wI g n_weights 0 36 n_fweights), (wO8 tp tp_bytes tl), (wI g tp_bytes 0 440 tf), (wO4 rd tp n rd_kindWords ww 1 otpl_60760 onx_60758 otk_60759 otpl_60760 otv_60761)] H := hP
      have hD : va_D A [(wI g rd_kindWords 0 4 kwf), (wO2 n n_nodes n_kind n_pay n_name n_ways n_held n_targets n_weights), (wI g n_kind 0 12 n_fkind), (wI g n_pay 0 12 n_fpay), (wI g n_name 0 12 n_fname), (wI g n_ways 0 12 n_fways), (wI g n_held 0 12 n_fheld), (wI g n_targets 0 36 n_ftargets), (wI g n_weights 0 36 n_fweights), (wO8 tp tp_bytes tl), (wI g tp_bytes 0 440 tf), (wO4 rd tp n rd_kindWords ww 1 otpl_60760 onx_60758 otk_60759 otpl_60760 otv_60761)] := hD
      refine lv_goto (tgt := 85) hx hb dX4_readStart_39 (by decide) ?_
      refine lv_aload_n hx hb dX4_readStart_85 rfl (lv_at hl 1 rfl) ?_
      refine va_get (D := D) (ci := 4) (v := .int 1) (C := RX4) (T := TX4) (N := 10) hx hb hts inlX4 hown hK hP 11 rfl rfl 4 (by decide) (hts (Cond.fieldLink RX4 41 "ChanceRings$Reader" "faultKind" "I") qw_358) (fun _ h9 => h9) rfl dX4_readStart_86 ?_
      refine lv_if_ne (tgt := 96) hx hb dX4_readStart_89 (by decide) (fun _ => ?_) (fun h9 => absurd h9 (by decide))
      refine lv_iconst (v := (-1)) hx hb dX4_readStart_96 (by decide) ?_
      have hP9 := hP.sub (ws' := [(wO4 rd tp n rd_kindWords ww 1 otpl_60760 onx_60758 otk_60759 otpl_60760 otv_60761), (wO8 tp tp_bytes tl), (wI g tp_bytes 0 440 tf), (wI g rd_kindWords 0 4 kwf), (wO2 n n_nodes n_kind n_pay n_name n_ways n_held n_targets n_weights), (wI g n_kind 0 12 n_fkind), (wI g n_pay 0 12 n_fpay), (wI g n_name 0 12 n_fname), (wI g n_ways 0 12 n_fways), (wI g n_held 0 12 n_fheld), (wI g n_targets 0 36 n_ftargets), (wI g n_weights 0 36 n_fweights)]) [11, 9, 10, 0, 1, 2, 3, 4, 5, 6, 7, 8] rfl
      have hD9 := hD.sub (ws' := [(wO4 rd tp n rd_kindWords ww 1 otpl_60760 onx_60758 otk_60759 otpl_60760 otv_60761), (wO8 tp tp_bytes tl), (wI g tp_bytes 0 440 tf), (wI g rd_kindWords 0 4 kwf), (wO2 n n_nodes n_kind n_pay n_name n_ways n_held n_targets n_weights), (wI g n_kind 0 12 n_fkind), (wI g n_pay 0 12 n_fpay), (wI g n_name 0 12 n_fname), (wI g n_ways 0 12 n_fways), (wI g n_held 0 12 n_fheld), (wI g n_targets 0 36 n_ftargets), (wI g n_weights 0 36 n_fweights)]) [11, 9, 10, 0, 1, 2, 3, 4, 5, 6, 7, 8] (by decide) rfl
      exact W.iret (v := (-1)) hx hb hr (fun t ht hW => ⟨⟨(-1), (-1), rfl, ⟨rfl, (⟨by decide, by decide⟩ : (-1) ≤ ((-1) : Int32).toInt ∧ ((-1) : Int32).toInt ≤ 11)⟩, 1, otpl_60760, onx_60758, otk_60759, otpl_60760, otv_60761, (⟨by decide, by decide⟩ : 0 ≤ (1 : Int32).toInt ∧ (1 : Int32).toInt ≤ 5), (tr_w hf_60764 (by decide) (by decide)), (tr_w hf_60762 (by decide) (by decide)), (tr_w hf_60763 (by decide) (by decide)), (tr_w hf_60764 (by decide) (by decide)), (fun h9 => absurd h9 (by decide)), (fun _ => ⟨by decide, wfl_name hf_60765 hw_60772_p1_u (by (first | (clear h_fk h_fp h_nx h_tk h_tpl h_tl h_n_nodes hww hfk h_60756 hw_60767 c_60768_i h_60769 hw_60772 c_60773_i h_60775; omega) | omega))⟩), by rw [ht]; exact hP9, hD9⟩, hS.F ht⟩) hS.2.2 dX4_readStart_97
  · skip
    have kk_0 := tk_0
    have c_60768_i : ¬ (r_60766 : Int32).toInt = (0 : Int32).toInt := (fun q => c_60768 (Int32.toInt_inj.mp q))
    have hw_60767_p0_u := (hw_60767_p0).get (fun q => c_60768_i (q.trans tk_0.symm))
    have h_60770 : 1 ≤ (r_60766 : Int32).toInt ∧ (r_60766 : Int32).toInt ≤ 1 := nr_ne_l hw_60767 (⟨by decide, by decide⟩ : 0 ≤ (0 : Int32).toInt ∧ (0 : Int32).toInt ≤ 0) c_60768_i (by decide) (by decide)
    refine lv_aload_n hx hb dX4_readStart_11 rfl (lv_at hl 0 rfl) ?_
    refine va_get (D := D) (ci := 4) (v := .ref n) (C := RX4) (T := TX4) (N := 10) hx hb hts inlX4 hown hK hP 9 rfl rfl 1 (by decide) (hts (Cond.fieldLink RX4 15 "ChanceRings$Reader" "net" "LChanceRings$Net;") qw_388) (fun _ h9 => h9) rfl dX4_readStart_12 ?_
    refine lv_aload_n hx hb dX4_readStart_15 rfl (lv_at hl 0 rfl) ?_
    refine va_get (D := D) (ci := 4) (v := .int otv_60761) (C := RX4) (T := TX4) (N := 10) hx hb hts inlX4 hown hK hP 9 rfl rfl 9 (by decide) (hts (Cond.fieldLink RX4 86 "ChanceRings$Reader" "tokenValue" "I") qw_374) (fun _ h9 => h9) rfl dX4_readStart_16 ?_
    have hPc := hP.sub (ws' := [(wO2 n n_nodes n_kind n_pay n_name n_ways n_held n_targets n_weights), (wI g n_name 0 12 n_fname)]) [1, 4] rfl
    refine vp_callSi (va_Run.run (va_runV (As := [.int otv_60761]) (rest := []) ⟨hx, hb, hml, hown, hts⟩ (c_X2_find l D g n otv_60761 n_nodes n_kind n_pay n_name n_ways n_held n_targets n_weights n_fname (tr_w h_n_nodes (by decide) (by decide))) (cwV 1 hts (tz_gV qw_410 qw_411 qw_412 qw_322 qw_413) rfl rfl rfl (by decide +kernel) ⟨Nat.le_of_ble_eq_true rfl, Nat.le_of_ble_eq_true rfl⟩) ⟨tz_blS, va_recv hK hPc (ci := 2) (q0 := 0) rfl rfl, tz_preS hPc hK⟩ rfl rfl hl.1 rfl (lv_room (Nat.le_of_ble_eq_true rfl)) dX4_readStart_19 ⟨Nat.le_of_ble_eq_true rfl, Nat.le_of_ble_eq_true rfl⟩)) (fun r_60778 hw => ?_)
    have hw_60779 : (-1) ≤ (r_60778 : Int32).toInt ∧ (r_60778 : Int32).toInt ≤ 11 := hw.1
    have hw_60779_p0 : FN (n_nodes : Int32).toInt (fun p => (n_fname p).toInt) (otv_60761 : Int32).toInt (r_60778 : Int32).toInt := hw.2
    refine lv_goto (tgt := 26) hx hb dX4_readStart_22 (by decide) ?_
    refine lv_istore_n (lv' := [(1, .int r_60778), (0, .ref rd)]) hx hb dX4_readStart_26 rfl hl (by decide) rfl (fun ls hl => ?_)
    refine lv_aload_n hx hb dX4_readStart_27 rfl (lv_at hl 1 rfl) ?_
    have hPc := hP.sub (ws' := [(wO4 rd tp n rd_kindWords ww fk fp onx_60758 otk_60759 otpl_60760 otv_60761), (wI g rd_kindWords 0 4 kwf)]) [9, 0] rfl
    refine vp_callSi (va_Run.run (va_runV (As := []) (rest := []) ⟨hx, hb, hml, hown, hts⟩ (c_X4_isName l D g rd tp n rd_kindWords ww fk fp onx_60758 otk_60759 otpl_60760 otv_60761 kwf (tr_w h_60756 (by decide) (by decide)) (tr_w h_fp (by decide) (by decide)) (tr_w hf_60762 (by decide) (by decide)) (tr_w hf_60763 (by decide) (by decide)) (tr_w hf_60764 (by decide) (by decide)) hkw hww) (cwV 0 hts (tz_gV qw_406 qw_407 qw_408 qw_364 qw_409) rfl rfl rfl (by decide +kernel) ⟨Nat.le_of_ble_eq_true rfl, Nat.le_of_ble_eq_true rfl⟩) ⟨tz_blS, va_recv hK hPc (ci := 4) (q0 := 0) rfl rfl, tz_preS hPc hK⟩ rfl rfl hl.1 rfl (lv_room (Nat.le_of_ble_eq_true rfl)) dX4_readStart_28 ⟨Nat.le_of_ble_eq_true rfl, Nat.le_of_ble_eq_true rfl⟩)) (fun r_60780 hw => ?_)
    have hw_60781 : 0 ≤ (r_60780 : Int32).toInt ∧ (r_60780 : Int32).toInt ≤ 1 := hw.1
    have hw_60781_p0 : Hide (¬ (r_60780 : Int32).toInt = 0 → NMC (otk_60759 : Int32).toInt (otv_60761 : Int32).toInt) := hw.2.1
    have hw_60781_p1 : Hide ((r_60780 : Int32).toInt = 0 → ¬ NMC (otk_60759 : Int32).toInt (otv_60761 : Int32).toInt) := hw.2.2
    refine lv_if_ne (tgt := 42) hx hb dX4_readStart_31 (by decide) (fun c_60782 => ?_) (fun c_60782 => ?_)
    · skip
      have c_60782_i : ¬ (r_60780 : Int32).toInt = (0 : Int32).toInt := (fun q => c_60782 (Int32.toInt_inj.mp q))
      have hw_60781_p0_u := (hw_60781_p0).get (fun q => c_60782_i (q.trans tk_0.symm))
      have h_60783 : 1 ≤ (r_60780 : Int32).toInt ∧ (r_60780 : Int32).toInt ≤ 1 := nr_ne_l hw_60781 (⟨by decide, by decide⟩ : 0 ≤ (0 : Int32).toInt ∧ (0 : Int32).toInt ≤ 0) c_60782_i (by decide) (by decide)
      refine lv_iload_n hx hb dX4_readStart_42 rfl (lv_at hl 0 rfl) ?_
      refine lv_iconst (v := (-1)) hx hb dX4_readStart_43 (by decide) ?_
      refine lv_icmp_eq (tgt := 59) hx hb dX4_readStart_44 (by decide) (fun c_60785 => ?_) (fun c_60785 => ?_)
      · skip
        have kk_m1 := tk_m1
        have c_60785_i : (r_60778 : Int32).toInt = ((-1) : Int32).toInt := congrArg Int32.toInt c_60785
        have h_60786 : (-1) ≤ (r_60778 : Int32).toInt ∧ (r_60778 : Int32).toInt ≤ (-1) := nr_eq_l hw_60779 (⟨by decide, by decide⟩ : (-1) ≤ ((-1) : Int32).toInt ∧ ((-1) : Int32).toInt ≤ (-1)) c_60785_i (by decide) (by decide)
        refine lv_aload_n hx hb dX4_readStart_59 rfl (lv_at hl 1 rfl) ?_
        refine lv_iconst (v := 3) hx hb dX4_readStart_60 (by decide) ?_
        have hPc := hP.sub (ws' := [(wO4 rd tp n rd_kindWords ww fk fp onx_60758 otk_60759 otpl_60760 otv_60761)]) [9] rfl
        have hDc := hD.sub (ws' := [(wO4 rd tp n rd_kindWords ww fk fp onx_60758 otk_60759 otpl_60760 otv_60761)]) [9] (by decide) rfl
        have hFc := va_free (wc := [(wO4 rd tp n rd_kindWords ww fk fp onx_60758 otk_60759 otpl_60760 otv_60761)]) hD hS hA [9] rfl
        refine va_callv (va_runV (As := [.int 3]) (rest := []) ⟨hx, hb, hml, hown, hts⟩ (c_X4_fail l D g H.size rd 3 tp n rd_kindWords ww fk fp onx_60758 otk_60759 otpl_60760 otv_60761 (⟨by decide, by decide⟩ : 0 ≤ (3 : Int32).toInt ∧ (3 : Int32).toInt ≤ 5) (tr_w h_60756 (by decide) (by decide)) (tr_w h_fp (by decide) (by decide)) (tr_w hf_60762 (by decide) (by decide)) (tr_w hf_60763 (by decide) (by decide)) (tr_w hf_60764 (by decide) (by decide))) (cwV 1 hts (tz_gV qw_394 qw_395 qw_396 qw_364 qw_397) rfl rfl rfl (by decide +kernel) ⟨Nat.le_of_ble_eq_true rfl, Nat.le_of_ble_eq_true rfl⟩) ⟨tz_blQ, va_recv hK hPc (ci := 4) (q0 := 0) rfl rfl, tz_preQ hPc hK hDc⟩ rfl rfl hl.1 rfl (lv_room (Nat.le_of_ble_eq_true rfl)) dX4_readStart_61 ⟨Nat.le_of_ble_eq_true rfl, Nat.le_of_ble_eq_true rfl⟩) hS (fun q _ h => hFc q h) hFc (fun u t H1 locs ht hvm hw hB hz1 hk1 hS => ?_)
        obtain ⟨hP1, hD1⟩ := hB
        rw [ht] at hP1
        obtain ⟨hP, hD⟩ := va_join (wr := [(wI g rd_kindWords 0 4 kwf), (wO2 n n_nodes n_kind n_pay n_name n_ways n_held n_targets n_weights), (wI g n_kind 0 12 n_fkind), (wI g n_pay 0 12 n_fpay), (wI g n_name 0 12 n_fname), (wI g n_ways 0 12 n_fways), (wI g n_held 0 12 n_fheld), (wI g n_targets 0 36 n_ftargets), (wI g n_weights 0 36 n_fweights), (wO8 tp tp_bytes tl), (wI g tp_bytes 0 440 tf)]) (w1 := [(wO4 rd tp n rd_kindWords ww 3 otpl_60760 onx_60758 otk_60759 otpl_60760 otv_60761)]) hP hD [9] [0, 1, 2, 3, 4, 5, 6, 7, 8, 10, 11] rfl rfl (by decide) (by decide) hk1 hFc hP1 hD1
        generalize H1 = H at hP hS ⊢
        have hP : va_P D vwCl [(wI g rd_kindWords 0 4 kwf), (wO2 n n_nodes n_kind n_pay n_name n_ways n_held n_targets n_weights), (wI g n_kind 0 12 n_fkind), (wI g n_pay 0 12 n_fpay), (wI g n_name 0 12 n_fname), (wI g n_ways 0 12 n_fways), (wI g n_held 0 12 n_fheld), (wI g n_targets 0 36 n_ftargets), (wI g n_weights 0 36 n_fweights), (wO8 tp tp_bytes tl), (wI g tp_bytes 0 440 tf), (wO4 rd tp n rd_kindWords ww 3 otpl_60760 onx_60758 otk_60759 otpl_60760 otv_60761)] H := hP
        have hD : va_D A [(wI g rd_kindWords 0 4 kwf), (wO2 n n_nodes n_kind n_pay n_name n_ways n_held n_targets n_weights), (wI g n_kind 0 12 n_fkind), (wI g n_pay 0 12 n_fpay), (wI g n_name 0 12 n_fname), (wI g n_ways 0 12 n_fways), (wI g n_held 0 12 n_fheld), (wI g n_targets 0 36 n_ftargets), (wI g n_weights 0 36 n_fweights), (wO8 tp tp_bytes tl), (wI g tp_bytes 0 440 tf), (wO4 rd tp n rd_kindWords ww 3 otpl_60760 onx_60758 otk_60759 otpl_60760 otv_60761)] := hD
        refine lv_goto (tgt := 85) hx hb dX4_readStart_64 (by decide) ?_
        refine lv_aload_n hx hb dX4_readStart_85 rfl (lv_at hl 1 rfl) ?_
        refine va_get (D := D) (ci := 4) (v := .int 3) (C := RX4) (T := TX4) (N := 10) hx hb hts inlX4 hown hK hP 11 rfl rfl 4 (by decide) (hts (Cond.fieldLink RX4 41 "ChanceRings$Reader" "faultKind" "I") qw_358) (fun _ h9 => h9) rfl dX4_readStart_86 ?_
        refine lv_if_ne (tgt := 96) hx hb dX4_readStart_89 (by decide) (fun _ => ?_) (fun h9 => absurd h9 (by decide))
        refine lv_iconst (v := (-1)) hx hb dX4_readStart_96 (by decide) ?_
        have hP9 := hP.sub (ws' := [(wO4 rd tp n rd_kindWords ww 3 otpl_60760 onx_60758 otk_60759 otpl_60760 otv_60761), (wO8 tp tp_bytes tl), (wI g tp_bytes 0 440 tf), (wI g rd_kindWords 0 4 kwf), (wO2 n n_nodes n_kind n_pay n_name n_ways n_held n_targets n_weights), (wI g n_kind 0 12 n_fkind), (wI g n_pay 0 12 n_fpay), (wI g n_name 0 12 n_fname), (wI g n_ways 0 12 n_fways), (wI g n_held 0 12 n_fheld), (wI g n_targets 0 36 n_ftargets), (wI g n_weights 0 36 n_fweights)]) [11, 9, 10, 0, 1, 2, 3, 4, 5, 6, 7, 8] rfl
        have hD9 := hD.sub (ws' := [(wO4 rd tp n rd_kindWords ww 3 otpl_60760 onx_60758 otk_60759 otpl_60760 otv_60761), (wO8 tp tp_bytes tl), (wI g tp_bytes 0 440 tf), (wI g rd_kindWords 0 4 kwf), (wO2 n n_nodes n_kind n_pay n_name n_ways n_held n_targets n_weights), (wI g n_kind 0 12 n_fkind), (wI g n_pay 0 12 n_fpay), (wI g n_name 0 12 n_fname), (wI g n_ways 0 12 n_fways), (wI g n_held 0 12 n_fheld), (wI g n_targets 0 36 n_ftargets), (wI g n_weights 0 36 n_fweights)]) [11, 9, 10, 0, 1, 2, 3, 4, 5, 6, 7, 8] (by decide) rfl
        exact W.iret (v := (-1)) hx hb hr (fun t ht hW => ⟨⟨(-1), (-1), rfl, ⟨rfl, (⟨by decide, by decide⟩ : (-1) ≤ ((-1) : Int32).toInt ∧ ((-1) : Int32).toInt ≤ 11)⟩, 3, otpl_60760, onx_60758, otk_60759, otpl_60760, otv_60761, (⟨by decide, by decide⟩ : 0 ≤ (3 : Int32).toInt ∧ (3 : Int32).toInt ≤ 5), (tr_w hf_60764 (by decide) (by decide)), (tr_w hf_60762 (by decide) (by decide)), (tr_w hf_60763 (by decide) (by decide)), (tr_w hf_60764 (by decide) (by decide)), (fun h9 => absurd h9 (by decide)), (fun _ => ⟨by decide, wfl_from hf_60765 hw_60781_p0_u (absC_fd hw_60779_p0) (Or.inl (by have z_0 := tk_0; have z_1 := tk_1; have z_2 := tk_2; have z_3 := tk_3; have z_m := tk_m1; have z_9 := tk_9; have z_4 := tk_4; (first | (clear h_fk h_fp h_nx h_tk h_tpl h_tl h_n_nodes hww hfk h_60756 hw_60767 c_60768_i h_60770 hw_60779 hw_60781 c_60782_i h_60783 c_60785_i h_60786; omega) | omega))) (by (first | (clear h_fk h_fp h_nx h_tk h_tpl h_tl h_n_nodes hww hfk h_60756 hw_60767 c_60768_i h_60770 hw_60779 hw_60781 c_60782_i h_60783 c_60785_i h_60786; omega) | omega))⟩), by rw [ht]; exact hP9, hD9⟩, hS.F ht⟩) hS.2.2 dX4_readStart_97
      · skip
        have kk_m1 := tk_m1
        have c_60785_i : ¬ (r_60778 : Int32).toInt = ((-1) : Int32).toInt := (fun q => c_60785 (Int32.toInt_inj.mp q))
        have h_60787 : 0 ≤ (r_60778 : Int32).toInt ∧ (r_60778 : Int32).toInt ≤ 11 := nr_ne_l hw_60779 (⟨by decide, by decide⟩ : (-1) ≤ ((-1) : Int32).toInt ∧ ((-1) : Int32).toInt ≤ (-1)) c_60785_i (by decide) (by decide)
        refine lv_aload_n hx hb dX4_readStart_47 rfl (lv_at hl 1 rfl) ?_
        refine va_get (D := D) (ci := 4) (v := .ref n) (C := RX4) (T := TX4) (N := 10) hx hb hts inlX4 hown hK hP 9 rfl rfl 1 (by decide) (hts (Cond.fieldLink RX4 15 "ChanceRings$Reader" "net" "LChanceRings$Net;") qw_388) (fun _ h9 => h9) rfl dX4_readStart_48 ?_
        refine va_get (D := D) (ci := 2) (v := .ref n_kind) (C := RX2) (T := TX2) (N := 8) hx hb hts inlX2 hown hK hP 1 rfl rfl 1 (by decide) (hts (Cond.fieldLink RX4 80 "ChanceRings$Net" "kind" "[I") qw_422) (fun _ h9 => h9) rfl dX4_readStart_51 ?_
        refine lv_iload_n hx hb dX4_readStart_54 rfl (lv_at hl 0 rfl) ?_
        refine va_iald hx hb hK hP 2 0 rfl rfl (tr_in h_60787 (by decide) (by decide)) dX4_readStart_55 ?_
        refine lv_topi (fun v_60789 v_60789_e => ?_)
        have h_v_60789 : 0 ≤ (v_60789 : Int32).toInt ∧ (v_60789 : Int32).toInt ≤ 3 := by rw [v_60789_e]; exact h_n_fkind _
        have g_v_60789 : v_60789 = n_fkind (r_60778.toInt.toNat) := v_60789_e.trans (congrArg n_fkind rfl)
        have gi_v_60789 := congrArg Int32.toInt g_v_60789
        refine lv_if_ne (tgt := 67) hx hb dX4_readStart_56 (by decide) (fun c_60790 => ?_) (fun c_60790 => ?_)
        · skip
          have c_60790_i : ¬ (v_60789 : Int32).toInt = (0 : Int32).toInt := (fun q => c_60790 (Int32.toInt_inj.mp q))
          have h_60791 : 1 ≤ (v_60789 : Int32).toInt ∧ (v_60789 : Int32).toInt ≤ 3 := nr_ne_l h_v_60789 (⟨by decide, by decide⟩ : 0 ≤ (0 : Int32).toInt ∧ (0 : Int32).toInt ≤ 0) c_60790_i (by decide) (by decide)
          refine lv_aload_n hx hb dX4_readStart_67 rfl (lv_at hl 1 rfl) ?_
          refine va_get (D := D) (ci := 4) (v := .ref n) (C := RX4) (T := TX4) (N := 10) hx hb hts inlX4 hown hK hP 9 rfl rfl 1 (by decide) (hts (Cond.fieldLink RX4 15 "ChanceRings$Reader" "net" "LChanceRings$Net;") qw_388) (fun _ h9 => h9) rfl dX4_readStart_68 ?_
          refine va_get (D := D) (ci := 2) (v := .ref n_ways) (C := RX2) (T := TX2) (N := 8) hx hb hts inlX2 hown hK hP 1 rfl rfl 4 (by decide) (hts (Cond.fieldLink RX4 83 "ChanceRings$Net" "ways" "[I") qw_423) (fun _ h9 => h9) rfl dX4_readStart_71 ?_
          refine lv_iload_n hx hb dX4_readStart_74 rfl (lv_at hl 0 rfl) ?_
          refine va_iald hx hb hK hP 5 0 rfl rfl (tr_in h_60787 (by decide) (by decide)) dX4_readStart_75 ?_
          refine lv_topi (fun v_60793 v_60793_e => ?_)
          have h_v_60793 : 0 ≤ (v_60793 : Int32).toInt ∧ (v_60793 : Int32).toInt ≤ 3 := by rw [v_60793_e]; exact h_n_fways _
          have g_v_60793 : v_60793 = n_fways (r_60778.toInt.toNat) := v_60793_e.trans (congrArg n_fways rfl)
          have gi_v_60793 := congrArg Int32.toInt g_v_60793
          refine lv_iconst (v := 3) hx hb dX4_readStart_76 (by decide) ?_
          refine lv_icmp_lt (tgt := 85) hx hb dX4_readStart_77 (by decide) (fun c_60794 => ?_) (fun c_60794 => ?_)
          · skip
            have kk_3 := tk_3
            have c_60794_i := Int32.lt_iff_toInt_lt.mp c_60794
            have h_60795 : 0 ≤ (v_60793 : Int32).toInt ∧ (v_60793 : Int32).toInt ≤ 2 := nr_lt_l h_v_60793 (⟨by decide, by decide⟩ : 3 ≤ (3 : Int32).toInt ∧ (3 : Int32).toInt ≤ 3) c_60794_i (by decide) (by decide)
            refine lv_aload_n hx hb dX4_readStart_85 rfl (lv_at hl 1 rfl) ?_
            refine va_get (D := D) (ci := 4) (v := .int fk) (C := RX4) (T := TX4) (N := 10) hx hb hts inlX4 hown hK hP 9 rfl rfl 4 (by decide) (hts (Cond.fieldLink RX4 41 "ChanceRings$Reader" "faultKind" "I") qw_358) (fun _ h9 => h9) rfl dX4_readStart_86 ?_
            refine lv_if_ne (tgt := 96) hx hb dX4_readStart_89 (by decide) (fun h9 => (nr_x_ne h_60756 (⟨by decide, by decide⟩ : 0 ≤ (0 : Int32).toInt ∧ (0 : Int32).toInt ≤ 0) (fun q => h9 (Int32.toInt_inj.mp q)) (by decide)).elim) (fun c_60797 => ?_)
            have c_60797_i : (fk : Int32).toInt = (0 : Int32).toInt := congrArg Int32.toInt c_60797
            refine lv_iload_n hx hb dX4_readStart_92 rfl (lv_at hl 0 rfl) ?_
            refine lv_goto (tgt := 97) hx hb dX4_readStart_93 (by decide) ?_
            have hP9 := hP.sub (ws' := [(wO4 rd tp n rd_kindWords ww fk fp onx_60758 otk_60759 otpl_60760 otv_60761), (wO8 tp tp_bytes tl), (wI g tp_bytes 0 440 tf), (wI g rd_kindWords 0 4 kwf), (wO2 n n_nodes n_kind n_pay n_name n_ways n_held n_targets n_weights), (wI g n_kind 0 12 n_fkind), (wI g n_pay 0 12 n_fpay), (wI g n_name 0 12 n_fname), (wI g n_ways 0 12 n_fways), (wI g n_held 0 12 n_fheld), (wI g n_targets 0 36 n_ftargets), (wI g n_weights 0 36 n_fweights)]) [9, 10, 11, 0, 1, 2, 3, 4, 5, 6, 7, 8] rfl
            have hD9 := hD.sub (ws' := [(wO4 rd tp n rd_kindWords ww fk fp onx_60758 otk_60759 otpl_60760 otv_60761), (wO8 tp tp_bytes tl), (wI g tp_bytes 0 440 tf), (wI g rd_kindWords 0 4 kwf), (wO2 n n_nodes n_kind n_pay n_name n_ways n_held n_targets n_weights), (wI g n_kind 0 12 n_fkind), (wI g n_pay 0 12 n_fpay), (wI g n_name 0 12 n_fname), (wI g n_ways 0 12 n_fways), (wI g n_held 0 12 n_fheld), (wI g n_targets 0 36 n_ftargets), (wI g n_weights 0 36 n_fweights)]) [9, 10, 11, 0, 1, 2, 3, 4, 5, 6, 7, 8] (by decide) rfl
            exact W.iret (v := r_60778) hx hb hr (fun t ht hW => ⟨⟨r_60778, r_60778, rfl, ⟨rfl, (tr_w h_60787 (by decide) (by decide))⟩, fk, fp, onx_60758, otk_60759, otpl_60760, otv_60761, (tr_w h_60756 (by decide) (by decide)), (tr_w h_fp (by decide) (by decide)), (tr_w hf_60762 (by decide) (by decide)), (tr_w hf_60763 (by decide) (by decide)), (tr_w hf_60764 (by decide) (by decide)), (fun _ => ⟨by (first | (clear h_nx h_tk h_tpl h_tl h_n_nodes hww hw_60767 c_60768_i h_60770 hw_60781 c_60782_i h_60783; omega) | omega), hf_60765, hw_60781_p0_u, (absC_fd hw_60779_p0), by (first | (clear h_nx h_tk h_tpl h_tl h_n_nodes hww hw_60767 c_60768_i h_60770 hw_60781 c_60782_i h_60783; omega) | omega), by rw [absC_k (by (first | (clear h_nx h_tk h_tpl h_tl h_n_nodes hww hw_60767 c_60768_i h_60770 hw_60781 c_60782_i h_60783; omega) | omega))]; have q8 := gi_v_60789; have z_0 := tk_0; have z_1 := tk_1; have z_2 := tk_2; have z_3 := tk_3; have z_m := tk_m1; have z_9 := tk_9; have z_4 := tk_4; (first | (clear h_nx h_tk h_tpl h_tl h_n_nodes hww hw_60767 c_60768_i h_60770 hw_60781 c_60782_i h_60783; omega) | omega), by rw [absC_w (by (first | (clear h_nx h_tk h_tpl h_tl h_n_nodes hww hw_60767 c_60768_i h_60770 hw_60781 c_60782_i h_60783; omega) | omega))]; have q8 := gi_v_60793; have z_0 := tk_0; have z_1 := tk_1; have z_2 := tk_2; have z_3 := tk_3; have z_m := tk_m1; have z_9 := tk_9; have z_4 := tk_4; (first | (clear h_nx h_tk h_tpl h_tl h_n_nodes hww hw_60767 c_60768_i h_60770 hw_60781 c_60782_i h_60783; omega) | omega)⟩), (fun h9 => absurd hfk h9), by rw [ht]; exact hP9, hD9⟩, hS.F ht⟩) hS.2.2 dX4_readStart_97
          · skip
            have kk_3 := tk_3
            have c_60794_i := Int32.le_iff_toInt_le.mp (Int32.not_lt.mp c_60794)
            have h_60796 : 3 ≤ (v_60793 : Int32).toInt ∧ (v_60793 : Int32).toInt ≤ 3 := nr_le_r (⟨by decide, by decide⟩ : 3 ≤ (3 : Int32).toInt ∧ (3 : Int32).toInt ≤ 3) h_v_60793 c_60794_i (by decide) (by decide)
            refine lv_aload_n hx hb dX4_readStart_80 rfl (lv_at hl 1 rfl) ?_
            refine lv_iconst (v := 4) hx hb dX4_readStart_81 (by decide) ?_
            have hPc := hP.sub (ws' := [(wO4 rd tp n rd_kindWords ww fk fp onx_60758 otk_60759 otpl_60760 otv_60761)]) [9] rfl
            have hDc := hD.sub (ws' := [(wO4 rd tp n rd_kindWords ww fk fp onx_60758 otk_60759 otpl_60760 otv_60761)]) [9] (by decide) rfl
            have hFc := va_free (wc := [(wO4 rd tp n rd_kindWords ww fk fp onx_60758 otk_60759 otpl_60760 otv_60761)]) hD hS hA [9] rfl
            refine va_callv (va_runV (As := [.int 4]) (rest := []) ⟨hx, hb, hml, hown, hts⟩ (c_X4_fail l D g H.size rd 4 tp n rd_kindWords ww fk fp onx_60758 otk_60759 otpl_60760 otv_60761 (⟨by decide, by decide⟩ : 0 ≤ (4 : Int32).toInt ∧ (4 : Int32).toInt ≤ 5) (tr_w h_60756 (by decide) (by decide)) (tr_w h_fp (by decide) (by decide)) (tr_w hf_60762 (by decide) (by decide)) (tr_w hf_60763 (by decide) (by decide)) (tr_w hf_60764 (by decide) (by decide))) (cwV 1 hts (tz_gV qw_394 qw_395 qw_396 qw_364 qw_397) rfl rfl rfl (by decide +kernel) ⟨Nat.le_of_ble_eq_true rfl, Nat.le_of_ble_eq_true rfl⟩) ⟨tz_blQ, va_recv hK hPc (ci := 4) (q0 := 0) rfl rfl, tz_preQ hPc hK hDc⟩ rfl rfl hl.1 rfl (lv_room (Nat.le_of_ble_eq_true rfl)) dX4_readStart_82 ⟨Nat.le_of_ble_eq_true rfl, Nat.le_of_ble_eq_true rfl⟩) hS (fun q _ h => hFc q h) hFc (fun u t H1 locs ht hvm hw hB hz1 hk1 hS => ?_)
            obtain ⟨hP1, hD1⟩ := hB
            rw [ht] at hP1
            obtain ⟨hP, hD⟩ := va_join (wr := [(wI g rd_kindWords 0 4 kwf), (wO2 n n_nodes n_kind n_pay n_name n_ways n_held n_targets n_weights), (wI g n_kind 0 12 n_fkind), (wI g n_pay 0 12 n_fpay), (wI g n_name 0 12 n_fname), (wI g n_ways 0 12 n_fways), (wI g n_held 0 12 n_fheld), (wI g n_targets 0 36 n_ftargets), (wI g n_weights 0 36 n_fweights), (wO8 tp tp_bytes tl), (wI g tp_bytes 0 440 tf)]) (w1 := [(wO4 rd tp n rd_kindWords ww 4 otpl_60760 onx_60758 otk_60759 otpl_60760 otv_60761)]) hP hD [9] [0, 1, 2, 3, 4, 5, 6, 7, 8, 10, 11] rfl rfl (by decide) (by decide) hk1 hFc hP1 hD1
            generalize H1 = H at hP hS ⊢
            have hP : va_P D vwCl [(wI g rd_kindWords 0 4 kwf), (wO2 n n_nodes n_kind n_pay n_name n_ways n_held n_targets n_weights), (wI g n_kind 0 12 n_fkind), (wI g n_pay 0 12 n_fpay), (wI g n_name 0 12 n_fname), (wI g n_ways 0 12 n_fways), (wI g n_held 0 12 n_fheld), (wI g n_targets 0 36 n_ftargets), (wI g n_weights 0 36 n_fweights), (wO8 tp tp_bytes tl), (wI g tp_bytes 0 440 tf), (wO4 rd tp n rd_kindWords ww 4 otpl_60760 onx_60758 otk_60759 otpl_60760 otv_60761)] H := hP
            have hD : va_D A [(wI g rd_kindWords 0 4 kwf), (wO2 n n_nodes n_kind n_pay n_name n_ways n_held n_targets n_weights), (wI g n_kind 0 12 n_fkind), (wI g n_pay 0 12 n_fpay), (wI g n_name 0 12 n_fname), (wI g n_ways 0 12 n_fways), (wI g n_held 0 12 n_fheld), (wI g n_targets 0 36 n_ftargets), (wI g n_weights 0 36 n_fweights), (wO8 tp tp_bytes tl), (wI g tp_bytes 0 440 tf), (wO4 rd tp n rd_kindWords ww 4 otpl_60760 onx_60758 otk_60759 otpl_60760 otv_60761)] := hD
            refine lv_aload_n hx hb dX4_readStart_85 rfl (lv_at hl 1 rfl) ?_
            refine va_get (D := D) (ci := 4) (v := .int 4) (C := RX4) (T := TX4) (N := 10) hx hb hts inlX4 hown hK hP 11 rfl rfl 4 (by decide) (hts (Cond.fieldLink RX4 41 "ChanceRings$Reader" "faultKind" "I") qw_358) (fun _ h9 => h9) rfl dX4_readStart_86 ?_
            refine lv_if_ne (tgt := 96) hx hb dX4_readStart_89 (by decide) (fun _ => ?_) (fun h9 => absurd h9 (by decide))
            refine lv_iconst (v := (-1)) hx hb dX4_readStart_96 (by decide) ?_
            have hP9 := hP.sub (ws' := [(wO4 rd tp n rd_kindWords ww 4 otpl_60760 onx_60758 otk_60759 otpl_60760 otv_60761), (wO8 tp tp_bytes tl), (wI g tp_bytes 0 440 tf), (wI g rd_kindWords 0 4 kwf), (wO2 n n_nodes n_kind n_pay n_name n_ways n_held n_targets n_weights), (wI g n_kind 0 12 n_fkind), (wI g n_pay 0 12 n_fpay), (wI g n_name 0 12 n_fname), (wI g n_ways 0 12 n_fways), (wI g n_held 0 12 n_fheld), (wI g n_targets 0 36 n_ftargets), (wI g n_weights 0 36 n_fweights)]) [11, 9, 10, 0, 1, 2, 3, 4, 5, 6, 7, 8] rfl
            have hD9 := hD.sub (ws' := [(wO4 rd tp n rd_kindWords ww 4 otpl_60760 onx_60758 otk_60759 otpl_60760 otv_60761), (wO8 tp tp_bytes tl), (wI g tp_bytes 0 440 tf), (wI g rd_kindWords 0 4 kwf), (wO2 n n_nodes n_kind n_pay n_name n_ways n_held n_targets n_weights), (wI g n_kind 0 12 n_fkind), (wI g n_pay 0 12 n_fpay), (wI g n_name 0 12 n_fname), (wI g n_ways 0 12 n_fways), (wI g n_held 0 12 n_fheld), (wI g n_targets 0 36 n_ftargets), (wI g n_weights 0 36 n_fweights)]) [11, 9, 10, 0, 1, 2, 3, 4, 5, 6, 7, 8] (by decide) rfl
            exact W.iret (v := (-1)) hx hb hr (fun t ht hW => ⟨⟨(-1), (-1), rfl, ⟨rfl, (⟨by decide, by decide⟩ : (-1) ≤ ((-1) : Int32).toInt ∧ ((-1) : Int32).toInt ≤ 11)⟩, 4, otpl_60760, onx_60758, otk_60759, otpl_60760, otv_60761, (⟨by decide, by decide⟩ : 0 ≤ (4 : Int32).toInt ∧ (4 : Int32).toInt ≤ 5), (tr_w hf_60764 (by decide) (by decide)), (tr_w hf_60762 (by decide) (by decide)), (tr_w hf_60763 (by decide) (by decide)), (tr_w hf_60764 (by decide) (by decide)), (fun h9 => absurd h9 (by decide)), (fun _ => ⟨by decide, wfl_from hf_60765 hw_60781_p0_u (absC_fd hw_60779_p0) (Or.inr (Or.inr (by rw [absC_w (by (first | (clear h_fk h_fp h_nx h_tk h_tpl h_tl h_n_nodes hww hfk h_60756 hw_60767 c_60768_i h_60770 hw_60781 c_60782_i h_60783; omega) | omega))]; have q8 := gi_v_60793; have z_0 := tk_0; have z_1 := tk_1; have z_2 := tk_2; have z_3 := tk_3; have z_m := tk_m1; have z_9 := tk_9; have z_4 := tk_4; (first | (clear h_fk h_fp h_nx h_tk h_tpl h_tl h_n_nodes hww hfk h_60756 hw_60767 c_60768_i h_60770 hw_60781 c_60782_i h_60783; omega) | omega)))) (by (first | (clear h_fk h_fp h_nx h_tk h_tpl h_tl h_n_nodes hww hfk h_60756 hw_60767 c_60768_i h_60770 hw_60781 c_60782_i h_60783; omega) | omega))⟩), by rw [ht]; exact hP9, hD9⟩, hS.F ht⟩) hS.2.2 dX4_readStart_97
        · skip
          have c_60790_i : (v_60789 : Int32).toInt = (0 : Int32).toInt := congrArg Int32.toInt c_60790
          have h_60792 : 0 ≤ (v_60789 : Int32).toInt ∧ (v_60789 : Int32).toInt ≤ 0 := nr_eq_l h_v_60789 (⟨by decide, by decide⟩ : 0 ≤ (0 : Int32).toInt ∧ (0 : Int32).toInt ≤ 0) c_60790_i (by decide) (by decide)
          refine lv_aload_n hx hb dX4_readStart_59 rfl (lv_at hl 1 rfl) ?_
          refine lv_iconst (v := 3) hx hb dX4_readStart_60 (by decide) ?_
          have hPc := hP.sub (ws' := [(wO4 rd tp n rd_kindWords ww fk fp onx_60758 otk_60759 otpl_60760 otv_60761)]) [9] rfl
          have hDc := hD.sub (ws' := [(wO4 rd tp n rd_kindWords ww fk fp onx_60758 otk_60759 otpl_60760 otv_60761)]) [9] (by decide) rfl
          have hFc := va_free (wc := [(wO4 rd tp n rd_kindWords ww fk fp onx_60758 otk_60759 otpl_60760 otv_60761)]) hD hS hA [9] rfl
          refine va_callv (va_runV (As := [.int 3]) (rest := []) ⟨hx, hb, hml, hown, hts⟩ (c_X4_fail l D g H.size rd 3 tp n rd_kindWords ww fk fp onx_60758 otk_60759 otpl_60760 otv_60761 (⟨by decide, by decide⟩ : 0 ≤ (3 : Int32).toInt ∧ (3 : Int32).toInt ≤ 5) (tr_w h_60756 (by decide) (by decide)) (tr_w h_fp (by decide) (by decide)) (tr_w hf_60762 (by decide) (by decide)) (tr_w hf_60763 (by decide) (by decide)) (tr_w hf_60764 (by decide) (by decide))) (cwV 1 hts (tz_gV qw_394 qw_395 qw_396 qw_364 qw_397) rfl rfl rfl (by decide +kernel) ⟨Nat.le_of_ble_eq_true rfl, Nat.le_of_ble_eq_true rfl⟩) ⟨tz_blQ, va_recv hK hPc (ci := 4) (q0 := 0) rfl rfl, tz_preQ hPc hK hDc⟩ rfl rfl hl.1 rfl (lv_room (Nat.le_of_ble_eq_true rfl)) dX4_readStart_61 ⟨Nat.le_of_ble_eq_true rfl, Nat.le_of_ble_eq_true rfl⟩) hS (fun q _ h => hFc q h) hFc (fun u t H1 locs ht hvm hw hB hz1 hk1 hS => ?_)
          obtain ⟨hP1, hD1⟩ := hB
          rw [ht] at hP1
          obtain ⟨hP, hD⟩ := va_join (wr := [(wI g rd_kindWords 0 4 kwf), (wO2 n n_nodes n_kind n_pay n_name n_ways n_held n_targets n_weights), (wI g n_kind 0 12 n_fkind), (wI g n_pay 0 12 n_fpay), (wI g n_name 0 12 n_fname), (wI g n_ways 0 12 n_fways), (wI g n_held 0 12 n_fheld), (wI g n_targets 0 36 n_ftargets), (wI g n_weights 0 36 n_fweights), (wO8 tp tp_bytes tl), (wI g tp_bytes 0 440 tf)]) (w1 := [(wO4 rd tp n rd_kindWords ww 3 otpl_60760 onx_60758 otk_60759 otpl_60760 otv_60761)]) hP hD [9] [0, 1, 2, 3, 4, 5, 6, 7, 8, 10, 11] rfl rfl (by decide) (by decide) hk1 hFc hP1 hD1
          generalize H1 = H at hP hS ⊢
          have hP : va_P D vwCl [(wI g rd_kindWords 0 4 kwf), (wO2 n n_nodes n_kind n_pay n_name n_ways n_held n_targets n_weights), (wI g n_kind 0 12 n_fkind), (wI g n_pay 0 12 n_fpay), (wI g n_name 0 12 n_fname), (wI g n_ways 0 12 n_fways), (wI g n_held 0 12 n_fheld), (wI g n_targets 0 36 n_ftargets), (wI g n_weights 0 36 n_fweights), (wO8 tp tp_bytes tl), (wI g tp_bytes 0 440 tf), (wO4 rd tp n rd_kindWords ww 3 otpl_60760 onx_60758 otk_60759 otpl_60760 otv_60761)] H := hP
          have hD : va_D A [(wI g rd_kindWords 0 4 kwf), (wO2 n n_nodes n_kind n_pay n_name n_ways n_held n_targets n_weights), (wI g n_kind 0 12 n_fkind), (wI g n_pay 0 12 n_fpay), (wI g n_name 0 12 n_fname), (wI g n_ways 0 12 n_fways), (wI g n_held 0 12 n_fheld), (wI g n_targets 0 36 n_ftargets), (wI g n_weights 0 36 n_fweights), (wO8 tp tp_bytes tl), (wI g tp_bytes 0 440 tf), (wO4 rd tp n rd_kindWords ww 3 otpl_60760 onx_60758 otk_60759 otpl_60760 otv_60761)] := hD
          refine lv_goto (tgt := 85) hx hb dX4_readStart_64 (by decide) ?_
          refine lv_aload_n hx hb dX4_readStart_85 rfl (lv_at hl 1 rfl) ?_
          refine va_get (D := D) (ci := 4) (v := .int 3) (C := RX4) (T := TX4) (N := 10) hx hb hts inlX4 hown hK hP 11 rfl rfl 4 (by decide) (hts (Cond.fieldLink RX4 41 "ChanceRings$Reader" "faultKind" "I") qw_358) (fun _ h9 => h9) rfl dX4_readStart_86 ?_
          refine lv_if_ne (tgt := 96) hx hb dX4_readStart_89 (by decide) (fun _ => ?_) (fun h9 => absurd h9 (by decide))
          refine lv_iconst (v := (-1)) hx hb dX4_readStart_96 (by decide) ?_
          have hP9 := hP.sub (ws' := [(wO4 rd tp n rd_kindWords ww 3 otpl_60760 onx_60758 otk_60759 otpl_60760 otv_60761), (wO8 tp tp_bytes tl), (wI g tp_bytes 0 440 tf), (wI g rd_kindWords 0 4 kwf), (wO2 n n_nodes n_kind n_pay n_name n_ways n_held n_targets n_weights), (wI g n_kind 0 12 n_fkind), (wI g n_pay 0 12 n_fpay), (wI g n_name 0 12 n_fname), (wI g n_ways 0 12 n_fways), (wI g n_held 0 12 n_fheld), (wI g n_targets 0 36 n_ftargets), (wI g n_weights 0 36 n_fweights)]) [11, 9, 10, 0, 1, 2, 3, 4, 5, 6, 7, 8] rfl
          have hD9 := hD.sub (ws' := [(wO4 rd tp n rd_kindWords ww 3 otpl_60760 onx_60758 otk_60759 otpl_60760 otv_60761), (wO8 tp tp_bytes tl), (wI g tp_bytes 0 440 tf), (wI g rd_kindWords 0 4 kwf), (wO2 n n_nodes n_kind n_pay n_name n_ways n_held n_targets n_weights), (wI g n_kind 0 12 n_fkind), (wI g n_pay 0 12 n_fpay), (wI g n_name 0 12 n_fname), (wI g n_ways 0 12 n_fways), (wI g n_held 0 12 n_fheld), (wI g n_targets 0 36 n_ftargets), (wI g n_weights 0 36 n_fweights)]) [11, 9, 10, 0, 1, 2, 3, 4, 5, 6, 7, 8] (by decide) rfl
          exact W.iret (v := (-1)) hx hb hr (fun t ht hW => ⟨⟨(-1), (-1), rfl, ⟨rfl, (⟨by decide, by decide⟩ : (-1) ≤ ((-1) : Int32).toInt ∧ ((-1) : Int32).toInt ≤ 11)⟩, 3, otpl_60760, onx_60758, otk_60759, otpl_60760, otv_60761, (⟨by decide, by decide⟩ : 0 ≤ (3 : Int32).toInt ∧ (3 : Int32).toInt ≤ 5), (tr_w hf_60764 (by decide) (by decide)), (tr_w hf_60762 (by decide) (by decide)), (tr_w hf_60763 (by decide) (by decide)), (tr_w hf_60764 (by decide) (by decide)), (fun h9 => absurd h9 (by decide)), (fun _ => ⟨by decide, wfl_from hf_60765 hw_60781_p0_u (absC_fd hw_60779_p0) (Or.inr (Or.inl (by rw [absC_k (by (first | (clear h_fk h_fp h_nx h_tk h_tpl h_tl h_n_nodes hww hfk h_60756 hw_60767 c_60768_i h_60770 hw_60781 c_60782_i h_60783; omega) | omega))]; have q8 := gi_v_60789; have z_0 := tk_0; have z_1 := tk_1; have z_2 := tk_2; have z_3 := tk_3; have z_m := tk_m1; have z_9 := tk_9; have z_4 := tk_4; (first | (clear h_fk h_fp h_nx h_tk h_tpl h_tl h_n_nodes hww hfk h_60756 hw_60767 c_60768_i h_60770 hw_60781 c_60782_i h_60783; omega) | omega)))) (by (first | (clear h_fk h_fp h_nx h_tk h_tpl h_tl h_n_nodes hww hfk h_60756 hw_60767 c_60768_i h_60770 hw_60781 c_60782_i h_60783; omega) | omega))⟩), by rw [ht]; exact hP9, hD9⟩, hS.F ht⟩) hS.2.2 dX4_readStart_97
    · skip
      have c_60782_i : (r_60780 : Int32).toInt = (0 : Int32).toInt := congrArg Int32.toInt c_60782
      have hw_60781_p1_u := (hw_60781_p1).get (c_60782_i.trans tk_0)
      have h_60784 : 0 ≤ (r_60780 : Int32).toInt ∧ (r_60780 : Int32).toInt ≤ 0 := nr_eq_l hw_60781 (⟨by decide, by decide⟩ : 0 ≤ (0 : Int32).toInt ∧ (0 : Int32).toInt ≤ 0) c_60782_i (by decide) (by decide)
      refine lv_aload_n hx hb dX4_readStart_34 rfl (lv_at hl 1 rfl) ?_
      refine lv_iconst (v := 1) hx hb dX4_readStart_35 (by decide) ?_
      have hPc := hP.sub (ws' := [(wO4 rd tp n rd_kindWords ww fk fp onx_60758 otk_60759 otpl_60760 otv_60761)]) [9] rfl
      have hDc := hD.sub (ws' := [(wO4 rd tp n rd_kindWords ww fk fp onx_60758 otk_60759 otpl_60760 otv_60761)]) [9] (by decide) rfl
      have hFc := va_free (wc := [(wO4 rd tp n rd_kindWords ww fk fp onx_60758 otk_60759 otpl_60760 otv_60761)]) hD hS hA [9] rfl
      refine va_callv (va_runV (As := [.int 1]) (rest := []) ⟨hx, hb, hml, hown, hts⟩ (c_X4_fail l D g H.size rd 1 tp n rd_kindWords ww fk fp onx_60758 otk_60759 otpl_60760 otv_60761 (⟨by decide, by decide⟩ : 0 ≤ (1 : Int32).toInt ∧ (1 : Int32).toInt ≤ 5) (tr_w h_60756 (by decide) (by decide)) (tr_w h_fp (by decide) (by decide)) (tr_w hf_60762 (by decide) (by decide)) (tr_w hf_60763 (by decide) (by decide)) (tr_w hf_60764 (by decide) (by decide))) (cwV 1 hts (tz_gV qw_394 qw_395 qw_396 qw_364 qw_397) rfl rfl rfl (by decide +kernel) ⟨Nat.le_of_ble_eq_true rfl, Nat.le_of_ble_eq_true rfl⟩) ⟨tz_blQ, va_recv hK hPc (ci := 4) (q0 := 0) rfl rfl, tz_preQ hPc hK hDc⟩ rfl rfl hl.1 rfl (lv_room (Nat.le_of_ble_eq_true rfl)) dX4_readStart_36 ⟨Nat.le_of_ble_eq_true rfl, Nat.le_of_ble_eq_true rfl⟩) hS (fun q _ h => hFc q h) hFc (fun u t H1 locs ht hvm hw hB hz1 hk1 hS => ?_)
      obtain ⟨hP1, hD1⟩ := hB
      rw [ht] at hP1
      obtain ⟨hP, hD⟩ := va_join (wr := [(wI g rd_kindWords 0 4 kwf), (wO2 n n_nodes n_kind n_pay n_name n_ways n_held n_targets n_weights), (wI g n_kind 0 12 n_fkind), (wI g n_pay 0 12 n_fpay), (wI g n_name 0 12 n_fname), (wI g n_ways 0 12 n_fways), (wI g n_held 0 12 n_fheld), (wI g n_targets 0 36 n_ftargets), (wI g n_weights 0 36 n_fweights), (wO8 tp tp_bytes tl), (wI g tp_bytes 0 440 tf)]) (w1 := [(wO4 rd tp n rd_kindWords ww 1 otpl_60760 onx_60758 otk_60759 otpl_60760 otv_60761)]) hP hD [9] [0, 1, 2, 3, 4, 5, 6, 7, 8, 10, 11] rfl rfl (by decide) (by decide) hk1 hFc hP1 hD1
      generalize H1 = H at hP hS ⊢
      have hP : va_P D vwCl [(wI g rd_kindWords 0 4 kwf), (wO2 n n_nodes n_kind n_pay n_name n_ways n_held n_targets n_weights), (wI g n_kind 0 12 n_fkind), (wI g n_pay 0 12 n_fpay), (wI g n_name 0 12 n_fname), (wI g n_ways 0 12 n_fways), (wI g n_held 0 12 n_fheld), (wI g n_targets 0 36 n_ftargets), (wI g n_weights 0 36 n_fweights), (wO8 tp tp_bytes tl), (wI g tp_bytes 0 440 tf), (wO4 rd tp n rd_kindWords ww 1 otpl_60760 onx_60758 otk_60759 otpl_60760 otv_60761)] H := hP
      have hD : va_D A [(wI g rd_kindWords 0 4 kwf), (wO2 n n_nodes n_kind n_pay n_name n_ways n_held n_targets n_weights), (wI g n_kind 0 12 n_fkind), (wI g n_pay 0 12 n_fpay), (wI g n_name 0 12 n_fname), (wI g n_ways 0 12 n_fways), (wI g n_held 0 12 n_fheld), (wI g n_targets 0 36 n_ftargets), (wI g n_weights 0 36 n_fweights), (wO8 tp tp_bytes tl), (wI g tp_bytes 0 440 tf), (wO4 rd tp n rd_kindWords ww 1 otpl_60760 onx_60758 otk_60759 otpl_60760 otv_60761)] := hD
      refine lv_goto (tgt := 85) hx hb dX4_readStart_39 (by decide) ?_
      refine lv_aload_n hx hb dX4_readStart_85 rfl (lv_at hl 1 rfl) ?_
      refine va_get (D := D) (ci := 4) (v := .int 1) (C := RX4) (T := TX4) (N := 10) hx hb hts inlX4 hown hK hP 11 rfl rfl 4 (by decide) (hts (Cond.fieldLink RX4 41 "ChanceRings$Reader" "faultKind" "I") qw_358) (fun _ h9 => h9) rfl dX4_readStart_86 ?_
      refine lv_if_ne (tgt := 96) hx hb dX4_readStart_89 (by decide) (fun _ => ?_) (fun h9 => absurd h9 (by decide))
      refine lv_iconst (v := (-1)) hx hb dX4_readStart_96 (by decide) ?_
      have hP9 := hP.sub (ws' := [(wO4 rd tp n rd_kindWords ww 1 otpl_60760 onx_60758 otk_60759 otpl_60760 otv_60761), (wO8 tp tp_bytes tl), (wI g tp_bytes 0 440 tf), (wI g rd_kindWords 0 4 kwf), (wO2 n n_nodes n_kind n_pay n_name n_ways n_held n_targets n_weights), (wI g n_kind 0 12 n_fkind), (wI g n_pay 0 12 n_fpay), (wI g n_name 0 12 n_fname), (wI g n_ways 0 12 n_fways), (wI g n_held 0 12 n_fheld), (wI g n_targets 0 36 n_ftargets), (wI g n_weights 0 36 n_fweights)]) [11, 9, 10, 0, 1, 2, 3, 4, 5, 6, 7, 8] rfl
      have hD9 := hD.sub (ws' := [(wO4 rd tp n rd_kindWords ww 1 otpl_60760 onx_60758 otk_60759 otpl_60760 otv_60761), (wO8 tp tp_bytes tl), (wI g tp_bytes 0 440 tf), (wI g rd_kindWords 0 4 kwf), (wO2 n n_nodes n_kind n_pay n_name n_ways n_held n_targets n_weights), (wI g n_kind 0 12 n_fkind), (wI g n_pay 0 12 n_fpay), (wI g n_name 0 12 n_fname), (wI g n_ways 0 12 n_fways), (wI g n_held 0 12 n_fheld), (wI g n_targets 0 36 n_ftargets), (wI g n_weights 0 36 n_fweights)]) [11, 9, 10, 0, 1, 2, 3, 4, 5, 6, 7, 8] (by decide) rfl
      exact W.iret (v := (-1)) hx hb hr (fun t ht hW => ⟨⟨(-1), (-1), rfl, ⟨rfl, (⟨by decide, by decide⟩ : (-1) ≤ ((-1) : Int32).toInt ∧ ((-1) : Int32).toInt ≤ 11)⟩, 1, otpl_60760, onx_60758, otk_60759, otpl_60760, otv_60761, (⟨by decide, by decide⟩ : 0 ≤ (1 : Int32).toInt ∧ (1 : Int32).toInt ≤ 5), (tr_w hf_60764 (by decide) (by decide)), (tr_w hf_60762 (by decide) (by decide)), (tr_w hf_60763 (by decide) (by decide)), (tr_w hf_60764 (by decide) (by decide)), (fun h9 => absurd h9 (by decide)), (fun _ => ⟨by decide, wfl_name hf_60765 hw_60781_p1_u (by (first | (clear h_fk h_fp h_nx h_tk h_tpl h_tl h_n_nodes hww hfk h_60756 hw_60767 c_60768_i h_60770 hw_60779 hw_60781 c_60782_i h_60784; omega) | omega))⟩), by rw [ht]; exact hP9, hD9⟩, hS.F ht⟩) hS.2.2 dX4_readStart_97
set_option maxHeartbeats 4000000 in
set_option maxRecDepth 100000 in
theorem c_X4_isWeightFor (l : Launch) (D : va_G) (g : Nat → ClassId) (sz : Nat) (rd : Nat) (p0 : Int32) (tp : Nat) (n : Nat) (rd_kindWords : Nat) (ww : Int32) (fk : Int32) (fp : Int32) (nx : Int32) (tk : Int32) (tpl : Int32) (tv : Int32) (n_nodes : Int32) (n_kind : Nat) (n_pay : Nat) (n_name : Nat) (n_ways : Nat) (n_held : Nat) (n_targets : Nat) (n_weights : Nat) (n_fkind : Nat → Int32) (n_fways : Nat → Int32) (n_fweights : Nat → Int32) (h_p0 : 0 ≤ (p0 : Int32).toInt ∧ (p0 : Int32).toInt ≤ 11) (h_fk : 0 ≤ (fk : Int32).toInt ∧ (fk : Int32).toInt ≤ 5) (h_fp : 0 ≤ (fp : Int32).toInt ∧ (fp : Int32).toInt ≤ 440) (h_nx : 0 ≤ (nx : Int32).toInt ∧ (nx : Int32).toInt ≤ 440) (h_tk : 0 ≤ (tk : Int32).toInt ∧ (tk : Int32).toInt ≤ 4) (h_tpl : 0 ≤ (tpl : Int32).toInt ∧ (tpl : Int32).toInt ≤ 440) (h_n_nodes : 0 ≤ (n_nodes : Int32).toInt ∧ (n_nodes : Int32).toInt ≤ 12) (h_n_fkind : ∀ j : Nat, 0 ≤ (n_fkind j).toInt ∧ (n_fkind j).toInt ≤ 3) (h_n_fways : ∀ j : Nat, 0 ≤ (n_fways j).toInt ∧ (n_fways j).toInt ≤ 3) (hfk : (fk : Int32).toInt = 0) (hwr : ∀ i : Nat, (i : Int) < (n_fways (p0 : Int32).toInt.toNat).toInt → 0 ≤ (n_fweights (3 * (p0 : Int32).toInt.toNat + i)).toInt ∧ (n_fweights (3 * (p0 : Int32).toInt.toNat + i)).toInt ≤ 3) : Met l yX4_isWeightFor (.code yX4_isWeightFor cX4_isWeightFor 2 (some .boolean) :: wsL_law) ({ frames := 2, cells := 0, slots := 0, locals := 43 }) (va_Pc [.ref rd, .int p0] (fun U => U.heap.size = sz ∧ va_P D vwCl [(wO4 rd tp n rd_kindWords ww fk fp nx tk tpl tv), (wO2 n n_nodes n_kind n_pay n_name n_ways n_held n_targets n_weights), (wI g n_kind 0 12 n_fkind), (wI g n_ways 0 12 n_fways), (wI g n_weights 0 36 n_fweights)] U.heap ∧ va_K D vwCl (TY g) U ∧ va_D (fun _ => True) [(wO4 rd tp n rd_kindWords ww fk fp nx tk tpl tv), (wO2 n n_nodes n_kind n_pay n_name n_ways n_held n_targets n_weights), (wI g n_kind 0 12 n_fkind), (wI g n_ways 0 12 n_fways), (wI g n_weights 0 36 n_fweights)])) (va_Qi (fun (r u : Int32) => u = r ∧ (0 ≤ (r : Int32).toInt ∧ (r : Int32).toInt ≤ 1)) (fun r t => ∃ ofk : Int32, ∃ ofp : Int32, (0 ≤ (ofk : Int32).toInt ∧ (ofk : Int32).toInt ≤ 5) ∧ (0 ≤ (ofp : Int32).toInt ∧ (ofp : Int32).toInt ≤ 440) ∧ (Hide (¬ (r : Int32).toInt = 0 → (n_fkind (p0 : Int32).toInt.toNat).toInt = 3 ∧ 1 ≤ (tv : Int32).toInt ∧ (tv : Int32).toInt ≤ 3 ∧ wsf (fun i => (n_fweights (3 * (p0 : Int32).toInt.toNat + i)).toInt) (n_fways (p0 : Int32).toInt.toNat).toInt.toNat + (tv : Int32).toInt ≤ 4 ∧ (ofk : Int32).toInt = 0)) ∧ (Hide ((r : Int32).toInt = 0 → ((n_fkind (p0 : Int32).toInt.toNat).toInt ≠ 3 ∨ ((n_fkind (p0 : Int32).toInt.toNat).toInt = 3 ∧ ¬ (1 ≤ (tv : Int32).toInt ∧ (tv : Int32).toInt ≤ 3 ∧ wsf (fun i => (n_fweights (3 * (p0 : Int32).toInt.toNat + i)).toInt) (n_fways (p0 : Int32).toInt.toNat).toInt.toNat + (tv : Int32).toInt ≤ 4))) ∧ (¬ (ofk : Int32).toInt = 0) ∧ (ofp : Int32).toInt = (tpl : Int32).toInt)) ∧ va_P D vwCl [(wO4 rd tp n rd_kindWords ww ofk ofp nx tk tpl tv), (wO2 n n_nodes n_kind n_pay n_name n_ways n_held n_targets n_weights), (wI g n_kind 0 12 n_fkind), (wI g n_ways 0 12 n_fways), (wI g n_weights 0 36 n_fweights)] t.heap ∧ va_D (va_A [(wO4 rd tp n rd_kindWords ww fk fp nx tk tpl tv), (wO2 n n_nodes n_kind n_pay n_name n_ways n_held n_targets n_weights), (wI g n_kind 0 12 n_fkind), (wI g n_ways 0 12 n_fways), (wI g n_weights 0 36 n_fweights)] sz) [(wO4 rd tp n rd_kindWords ww ofk ofp nx tk tpl tv), (wO2 n n_nodes n_kind n_pay n_name n_ways n_held n_targets n_weights), (wI g n_kind 0 12 n_fkind), (wI g n_ways 0 12 n_fways), (wI g n_weights 0 36 n_fweights)]) (va_A [(wO4 rd tp n rd_kindWords ww fk fp nx tk tpl tv), (wO2 n n_nodes n_kind n_pay n_name n_ways n_held n_targets n_weights), (wI g n_kind 0 12 n_fkind), (wI g n_ways 0 12 n_fways), (wI g n_weights 0 36 n_fweights)] sz)) 0 0 (va_A [(wO4 rd tp n rd_kindWords ww fk fp nx tk tpl tv), (wO2 n n_nodes n_kind n_pay n_name n_ways n_held n_targets n_weights), (wI g n_kind 0 12 n_fkind), (wI g n_ways 0 12 n_fways), (wI g n_weights 0 36 n_fweights)] sz) := by
  refine Met.ofW (cc := cX4_isWeightFor) (maxL := 2) (ret := (some .boolean)) (by decide) rfl ?_
  intro p e s m args below meth c s₁ B hml hv
  obtain ⟨ha, hsz, hP, hK, hD0⟩ := hv
  have hx := B.exec
  have hb := B.bytes
  have hr := B.returns
  have hts0 := atoms_spec (ws := (.code yX4_isWeightFor cX4_isWeightFor 2 (some .boolean) :: wsL_law)) B.pre
  have hts : ∀ w ∈ wsL_law, w.before args s = true := fun w h => hts0 w (List.mem_cons_of_mem _ h)
  have hown : s.vm.findClass RX4 = some m.cls := findClass_of_methodNamed B.named
  have hlocks := B.notSynchronized
  subst hsz
  have hD := hD0.self (sz := s.heap.size)
  generalize hAe : va_A [(wO4 rd tp n rd_kindWords ww fk fp nx tk tpl tv), (wO2 n n_nodes n_kind n_pay n_name n_ways n_held n_targets n_weights), (wI g n_kind 0 12 n_fkind), (wI g n_ways 0 12 n_fways), (wI g n_weights 0 36 n_fweights)] s.heap.size = A at hD ⊢
  have hA : ∀ q : Nat, s.heap.size ≤ q → A q := fun q h => by rw [← hAe]; exact Or.inr h
  have hS : va_S A s.heap s.heap [] := va_S.rf
  have hP : va_P D vwCl [(wO4 rd tp n rd_kindWords ww fk fp nx tk tpl tv), (wO2 n n_nodes n_kind n_pay n_name n_ways n_held n_targets n_weights), (wI g n_kind 0 12 n_fkind), (wI g n_ways 0 12 n_fways), (wI g n_weights 0 36 n_fweights)] s.heap := hP
  refine W.eq (g2 := entryFrame m ([.ref rd, .int p0] : List Value).toArray 2) (by rw [ha]) ?_
  have hl := lv_entry ([.ref rd, .int p0]) (n := 2) (Nat.le_of_ble_eq_true rfl)
  rw [lg_entry_eq]
  generalize (lg_sl ([.ref rd, .int p0]) ++ List.replicate (2 - (lg_sl ([.ref rd, .int p0])).length) Slot.unset).toArray = ls at hl ⊢
  have hl : lv_has ls 2 [(0, .ref rd), (1, .int p0)] := hl
  have h_60801 : 0 ≤ (fk : Int32).toInt ∧ (fk : Int32).toInt ≤ 0 := by (first | (clear h_p0 h_fp h_nx h_tk h_tpl h_n_nodes; omega) | omega)
  refine lv_aload_n hx hb dX4_isWeightFor_0 rfl (lv_at hl 0 rfl) ?_
  refine va_get (D := D) (ci := 4) (v := .ref n) (C := RX4) (T := TX4) (N := 10) hx hb hts inlX4 hown hK hP 0 rfl rfl 1 (by decide) (hts (Cond.fieldLink RX4 15 "ChanceRings$Reader" "net" "LChanceRings$Net;") qw_388) (fun _ h9 => h9) rfl dX4_isWeightFor_1 ?_
  refine va_get (D := D) (ci := 2) (v := .ref n_kind) (C := RX2) (T := TX2) (N := 8) hx hb hts inlX2 hown hK hP 1 rfl rfl 1 (by decide) (hts (Cond.fieldLink RX4 80 "ChanceRings$Net" "kind" "[I") qw_422) (fun _ h9 => h9) rfl dX4_isWeightFor_4 ?_
  refine lv_iload_n hx hb dX4_isWeightFor_7 rfl (lv_at hl 1 rfl) ?_
  refine va_iald hx hb hK hP 2 0 rfl rfl (tr_in h_p0 (by decide) (by decide)) dX4_isWeightFor_8 ?_
  refine lv_topi (fun v_60802 v_60802_e => ?_)
  have h_v_60802 : 0 ≤ (v_60802 : Int32).toInt ∧ (v_60802 : Int32).toInt ≤ 3 := by rw [v_60802_e]; exact h_n_fkind _
  have g_v_60802 : v_60802 = n_fkind (p0.toInt.toNat) := v_60802_e.trans (congrArg n_fkind rfl)
  have gi_v_60802 := congrArg Int32.toInt g_v_60802
  refine lv_iconst (v := 3) hx hb dX4_isWeightFor_9 (by decide) ?_
  refine lv_icmp_eq (tgt := 21) hx hb dX4_isWeightFor_10 (by decide) (fun c_60803 => ?_) (fun c_60803 => ?_)
  · skip
    have kk_3 := tk_3
    have c_60803_i : (v_60802 : Int32).toInt = (3 : Int32).toInt := congrArg Int32.toInt c_60803
    have h_60804 : 3 ≤ (v_60802 : Int32).toInt ∧ (v_60802 : Int32).toInt ≤ 3 := nr_eq_l h_v_60802 (⟨by decide, by decide⟩ : 3 ≤ (3 : Int32).toInt ∧ (3 : Int32).toInt ≤ 3) c_60803_i (by decide) (by decide)
    refine lv_aload_n hx hb dX4_isWeightFor_21 rfl (lv_at hl 0 rfl) ?_
    refine va_get (D := D) (ci := 4) (v := .int tv) (C := RX4) (T := TX4) (N := 10) hx hb hts inlX4 hown hK hP 0 rfl rfl 9 (by decide) (hts (Cond.fieldLink RX4 86 "ChanceRings$Reader" "tokenValue" "I") qw_374) (fun _ h9 => h9) rfl dX4_isWeightFor_22 ?_
    refine lv_iconst (v := 1) hx hb dX4_isWeightFor_25 (by decide) ?_
    refine lv_icmp_lt (tgt := 37) hx hb dX4_isWeightFor_26 (by decide) (fun c_60806 => ?_) (fun c_60806 => ?_)
    · skip
      have kk_1 := tk_1
      have c_60806_i := Int32.lt_iff_toInt_lt.mp c_60806
      have h_60807 : (-2147483648) ≤ (tv : Int32).toInt ∧ (tv : Int32).toInt ≤ 0 := nr_lt_l (tr_any tv) (⟨by decide, by decide⟩ : 1 ≤ (1 : Int32).toInt ∧ (1 : Int32).toInt ≤ 1) c_60806_i (by decide) (by decide)
      refine lv_aload_n hx hb dX4_isWeightFor_37 rfl (lv_at hl 0 rfl) ?_
      refine lv_iconst (v := 2) hx hb dX4_isWeightFor_38 (by decide) ?_
      have hPc := hP.sub (ws' := [(wO4 rd tp n rd_kindWords ww fk fp nx tk tpl tv)]) [0] rfl
      have hDc := hD.sub (ws' := [(wO4 rd tp n rd_kindWords ww fk fp nx tk tpl tv)]) [0] (by decide) rfl
      have hFc := va_free (wc := [(wO4 rd tp n rd_kindWords ww fk fp nx tk tpl tv)]) hD hS hA [0] rfl
      refine va_callv (va_runV (As := [.int 2]) (rest := []) ⟨hx, hb, hml, hown, hts⟩ (c_X4_fail l D g s.heap.size rd 2 tp n rd_kindWords ww fk fp nx tk tpl tv (⟨by decide, by decide⟩ : 0 ≤ (2 : Int32).toInt ∧ (2 : Int32).toInt ≤ 5) (tr_w h_60801 (by decide) (by decide)) (tr_w h_fp (by decide) (by decide)) (tr_w h_nx (by decide) (by decide)) (tr_w h_tk (by decide) (by decide)) (tr_w h_tpl (by decide) (by decide))) (cwV 1 hts (tz_gV qw_394 qw_395 qw_396 qw_364 qw_397) rfl rfl rfl (by decide +kernel) ⟨Nat.le_of_ble_eq_true rfl, Nat.le_of_ble_eq_true rfl⟩) ⟨tz_blQ, va_recv hK hPc (ci := 4) (q0 := 0) rfl rfl, tz_preQ hPc hK hDc⟩ rfl rfl hl.1 rfl (lv_room (Nat.le_of_ble_eq_true rfl)) dX4_isWeightFor_39 ⟨Nat.le_of_ble_eq_true rfl, Nat.le_of_ble_eq_true rfl⟩) hS (fun q _ h => hFc q h) hFc (fun u t H1 locs ht hvm hw hB hz1 hk1 hS => ?_)
      obtain ⟨hP1, hD1⟩ := hB
      rw [ht] at hP1
      obtain ⟨hP, hD⟩ := va_join (wr := [(wO2 n n_nodes n_kind n_pay n_name n_ways n_held n_targets n_weights), (wI g n_kind 0 12 n_fkind), (wI g n_ways 0 12 n_fways), (wI g n_weights 0 36 n_fweights)]) (w1 := [(wO4 rd tp n rd_kindWords ww 2 tpl nx tk tpl tv)]) hP hD [0] [1, 2, 3, 4] rfl rfl (by decide) (by decide) hk1 hFc hP1 hD1
      generalize H1 = H at hP hS ⊢
      have hP : va_P D vwCl [(wO2 n n_nodes n_kind n_pay n_name n_ways n_held n_targets n_weights), (wI g n_kind 0 12 n_fkind), (wI g n_ways 0 12 n_fways), (wI g n_weights 0 36 n_fweights), (wO4 rd tp n rd_kindWords ww 2 tpl nx tk tpl tv)] H := hP
      have hD : va_D A [(wO2 n n_nodes n_kind n_pay n_name n_ways n_held n_targets n_weights), (wI g n_kind 0 12 n_fkind), (wI g n_ways 0 12 n_fways), (wI g n_weights 0 36 n_fweights), (wO4 rd tp n rd_kindWords ww 2 tpl nx tk tpl tv)] := hD
      refine lv_goto (tgt := 67) hx hb dX4_isWeightFor_42 (by decide) ?_
      refine lv_aload_n hx hb dX4_isWeightFor_67 rfl (lv_at hl 0 rfl) ?_
      refine va_get (D := D) (ci := 4) (v := .int 2) (C := RX4) (T := TX4) (N := 10) hx hb hts inlX4 hown hK hP 4 rfl rfl 4 (by decide) (hts (Cond.fieldLink RX4 41 "ChanceRings$Reader" "faultKind" "I") qw_358) (fun _ h9 => h9) rfl dX4_isWeightFor_68 ?_
      refine lv_if_ne (tgt := 78) hx hb dX4_isWeightFor_71 (by decide) (fun _ => ?_) (fun h9 => absurd h9 (by decide))
      refine lv_iconst (v := 0) hx hb dX4_isWeightFor_78 (by decide) ?_
      have hP9 := hP.sub (ws' := [(wO4 rd tp n rd_kindWords ww 2 tpl nx tk tpl tv), (wO2 n n_nodes n_kind n_pay n_name n_ways n_held n_targets n_weights), (wI g n_kind 0 12 n_fkind), (wI g n_ways 0 12 n_fways), (wI g n_weights 0 36 n_fweights)]) [4, 0, 1, 2, 3] rfl
      have hD9 := hD.sub (ws' := [(wO4 rd tp n rd_kindWords ww 2 tpl nx tk tpl tv), (wO2 n n_nodes n_kind n_pay n_name n_ways n_held n_targets n_weights), (wI g n_kind 0 12 n_fkind), (wI g n_ways 0 12 n_fways), (wI g n_weights 0 36 n_fweights)]) [4, 0, 1, 2, 3] (by decide) rfl
      exact W.zret (v := 0) hx hb hr (by decide) (fun t ht hW => ⟨⟨0, 0, rfl, ⟨rfl, (⟨by decide, by decide⟩ : 0 ≤ (0 : Int32).toInt ∧ (0 : Int32).toInt ≤ 1)⟩, 2, tpl, (⟨by decide, by decide⟩ : 0 ≤ (2 : Int32).toInt ∧ (2 : Int32).toInt ≤ 5), (tr_w h_tpl (by decide) (by decide)), (fun h9 => absurd (by decide) h9), (fun _ => ⟨(Or.inr ⟨(by have z_0 := tk_0; have z_1 := tk_1; have z_2 := tk_2; have z_3 := tk_3; have z_m := tk_m1; have z_9 := tk_9; have z_4 := tk_4; have q8 := gi_v_60802; (first | (clear h_fk h_fp h_nx h_tk h_n_nodes hfk h_60801 c_60806_i h_60807; omega) | omega)), fun h9 => by have z_0 := tk_0; have z_1 := tk_1; have z_2 := tk_2; have z_3 := tk_3; have z_m := tk_m1; have z_9 := tk_9; have z_4 := tk_4; (first | (clear h_fk h_fp h_nx h_tk h_n_nodes hfk h_60801 c_60806_i h_60807; omega) | omega)⟩), by decide, rfl⟩), by rw [ht]; exact hP9, hD9⟩, hS.F ht⟩) hS.2.2 dX4_isWeightFor_79
    · skip
      have kk_1 := tk_1
      have c_60806_i := Int32.le_iff_toInt_le.mp (Int32.not_lt.mp c_60806)
      have h_60808 : 1 ≤ (tv : Int32).toInt ∧ (tv : Int32).toInt ≤ 2147483647 := nr_le_r (⟨by decide, by decide⟩ : 1 ≤ (1 : Int32).toInt ∧ (1 : Int32).toInt ≤ 1) (tr_any tv) c_60806_i (by decide) (by decide)
      refine lv_aload_n hx hb dX4_isWeightFor_29 rfl (lv_at hl 0 rfl) ?_
      refine va_get (D := D) (ci := 4) (v := .int tv) (C := RX4) (T := TX4) (N := 10) hx hb hts inlX4 hown hK hP 0 rfl rfl 9 (by decide) (hts (Cond.fieldLink RX4 86 "ChanceRings$Reader" "tokenValue" "I") qw_374) (fun _ h9 => h9) rfl dX4_isWeightFor_30 ?_
      refine lv_iconst (v := 3) hx hb dX4_isWeightFor_33 (by decide) ?_
      refine lv_icmp_le (tgt := 45) hx hb dX4_isWeightFor_34 (by decide) (fun c_60810 => ?_) (fun c_60810 => ?_)
      · skip
        have c_60810_i := Int32.le_iff_toInt_le.mp c_60810
        have h_60811 : 1 ≤ (tv : Int32).toInt ∧ (tv : Int32).toInt ≤ 3 := nr_le_l h_60808 (⟨by decide, by decide⟩ : 3 ≤ (3 : Int32).toInt ∧ (3 : Int32).toInt ≤ 3) c_60810_i (by decide) (by decide)
        refine lv_aload_n hx hb dX4_isWeightFor_45 rfl (lv_at hl 0 rfl) ?_
        refine va_get (D := D) (ci := 4) (v := .ref n) (C := RX4) (T := TX4) (N := 10) hx hb hts inlX4 hown hK hP 0 rfl rfl 1 (by decide) (hts (Cond.fieldLink RX4 15 "ChanceRings$Reader" "net" "LChanceRings$Net;") qw_388) (fun _ h9 => h9) rfl dX4_isWeightFor_46 ?_
        refine lv_iload_n hx hb dX4_isWeightFor_49 rfl (lv_at hl 1 rfl) ?_
        have hPc := hP.sub (ws' := [(wO2 n n_nodes n_kind n_pay n_name n_ways n_held n_targets n_weights), (wI g n_kind 0 12 n_fkind), (wI g n_ways 0 12 n_fways), (wI g n_weights 0 36 n_fweights)]) [1, 2, 3, 4] rfl
        refine vp_callSi (va_Run.run (va_runV (As := [.int p0]) (rest := []) ⟨hx, hb, hml, hown, hts⟩ (c_X2_togetherR l D g n p0 n_nodes n_kind n_pay n_name n_ways n_held n_targets n_weights n_fkind n_fways n_fweights (tr_w h_p0 (by decide) (by decide)) (tr_w h_n_nodes (by decide) (by decide)) (tr_wa h_n_fkind (by decide) (by decide)) (tr_wa h_n_fways (by decide) (by decide)) hwr) (cwV 1 hts (tz_gV qw_424 qw_425 qw_426 qw_322 qw_427) rfl rfl rfl (by decide +kernel) ⟨Nat.le_of_ble_eq_true rfl, Nat.le_of_ble_eq_true rfl⟩) ⟨tz_blS, va_recv hK hPc (ci := 2) (q0 := 0) rfl rfl, tz_preS hPc hK⟩ rfl rfl hl.1 rfl (lv_room (Nat.le_of_ble_eq_true rfl)) dX4_isWeightFor_50 ⟨Nat.le_of_ble_eq_true rfl, Nat.le_of_ble_eq_true rfl⟩)) (fun r_60813 hw => ?_)
        have hw_60814 : 0 ≤ (r_60813 : Int32).toInt ∧ (r_60813 : Int32).toInt ≤ 9 := hw.1
        have hw_60814_p0 : Hide ((n_fkind (p0 : Int32).toInt.toNat).toInt = 3 → (r_60813 : Int32).toInt = wsf (fun i => (n_fweights (3 * (p0 : Int32).toInt.toNat + i)).toInt) (n_fways (p0 : Int32).toInt.toNat).toInt.toNat) := hw.2
        have tg_9 := (hw_60814_p0).get (by have q8 := gi_v_60802; have z_0 := tk_0; have z_1 := tk_1; have z_2 := tk_2; have z_3 := tk_3; have z_m := tk_m1; have z_9 := tk_9; have z_4 := tk_4; (first | (clear h_fk h_fp h_nx h_tk h_tpl h_n_nodes hfk h_60801 c_60806_i h_60808 c_60810_i h_60811 hw_60814; omega) | omega))
        refine lv_aload_n hx hb dX4_isWeightFor_53 rfl (lv_at hl 0 rfl) ?_
        refine va_get (D := D) (ci := 4) (v := .int tv) (C := RX4) (T := TX4) (N := 10) hx hb hts inlX4 hown hK hP 0 rfl rfl 9 (by decide) (hts (Cond.fieldLink RX4 86 "ChanceRings$Reader" "tokenValue" "I") qw_374) (fun _ h9 => h9) rfl dX4_isWeightFor_54 ?_
        refine lv_iadd hx hb dX4_isWeightFor_57 ?_
        refine lv_topi (fun v_60815 v_60815_e => ?_)
        have h_v_60815 : 1 ≤ (v_60815 : Int32).toInt ∧ (v_60815 : Int32).toInt ≤ 12 := by rw [v_60815_e]; exact tr_add hw_60814 h_60811 (by decide) (by decide) (by decide) (by decide)
        have q_v_60815 : v_60815.toInt = r_60813.toInt + tv.toInt := by rw [v_60815_e]; exact tr_addX hw_60814 h_60811 (by decide) (by decide)
        refine lv_iconst (v := 4) hx hb dX4_isWeightFor_58 (by decide) ?_
        refine lv_icmp_le (tgt := 67) hx hb dX4_isWeightFor_59 (by decide) (fun c_60816 => ?_) (fun c_60816 => ?_)
        · skip
          have kk_4 := tk_4
          have c_60816_i := Int32.le_iff_toInt_le.mp c_60816
          have h_60817 : 1 ≤ (v_60815 : Int32).toInt ∧ (v_60815 : Int32).toInt ≤ 4 := nr_le_l h_v_60815 (⟨by decide, by decide⟩ : 4 ≤ (4 : Int32).toInt ∧ (4 : Int32).toInt ≤ 4) c_60816_i (by decide) (by decide)
          refine lv_aload_n hx hb dX4_isWeightFor_67 rfl (lv_at hl 0 rfl) ?_
          refine va_get (D := D) (ci := 4) (v := .int fk) (C := RX4) (T := TX4) (N := 10) hx hb hts inlX4 hown hK hP 0 rfl rfl 4 (by decide) (hts (Cond.fieldLink RX4 41 "ChanceRings$Reader" "faultKind" "I") qw_358) (fun _ h9 => h9) rfl dX4_isWeightFor_68 ?_
          refine lv_if_ne (tgt := 78) hx hb dX4_isWeightFor_71 (by decide) (fun h9 => (nr_x_ne h_60801 (⟨by decide, by decide⟩ : 0 ≤ (0 : Int32).toInt ∧ (0 : Int32).toInt ≤ 0) (fun q => h9 (Int32.toInt_inj.mp q)) (by decide)).elim) (fun c_60819 => ?_)
          have kk_0 := tk_0
          have c_60819_i : (fk : Int32).toInt = (0 : Int32).toInt := congrArg Int32.toInt c_60819
          refine lv_iconst (v := 1) hx hb dX4_isWeightFor_74 (by decide) ?_
          refine lv_goto (tgt := 79) hx hb dX4_isWeightFor_75 (by decide) ?_
          have hP9 := hP.sub (ws' := [(wO4 rd tp n rd_kindWords ww fk fp nx tk tpl tv), (wO2 n n_nodes n_kind n_pay n_name n_ways n_held n_targets n_weights), (wI g n_kind 0 12 n_fkind), (wI g n_ways 0 12 n_fways), (wI g n_weights 0 36 n_fweights)]) [0, 1, 2, 3, 4] rfl
          have hD9 := hD.sub (ws' := [(wO4 rd tp n rd_kindWords ww fk fp nx tk tpl tv), (wO2 n n_nodes n_kind n_pay n_name n_ways n_held n_targets n_weights), (wI g n_kind 0 12 n_fkind), (wI g n_ways 0 12 n_fways), (wI g n_weights 0 36 n_fweights)]) [0, 1, 2, 3, 4] (by decide) rfl
          exact W.zret (v := 1) hx hb hr (by decide) (fun t ht hW => ⟨⟨1, 1, rfl, ⟨rfl, (⟨by decide, by decide⟩ : 0 ≤ (1 : Int32).toInt ∧ (1 : Int32).toInt ≤ 1)⟩, fk, fp, (tr_w h_60801 (by decide) (by decide)), (tr_w h_fp (by decide) (by decide)), (fun _ => ⟨(by have z_0 := tk_0; have z_1 := tk_1; have z_2 := tk_2; have z_3 := tk_3; have z_m := tk_m1; have z_9 := tk_9; have z_4 := tk_4; have q8 := gi_v_60802; (first | (clear h_nx h_tk h_tpl h_n_nodes c_60806_i h_60808 c_60810_i h_60811 hw_60814 h_v_60815 q_v_60815 c_60816_i h_60817; omega) | omega)), (by have z_0 := tk_0; have z_1 := tk_1; have z_2 := tk_2; have z_3 := tk_3; have z_m := tk_m1; have z_9 := tk_9; have z_4 := tk_4; (first | (clear h_nx h_tk h_tpl h_n_nodes c_60806_i h_60808 c_60810_i h_60811 hw_60814 h_v_60815 q_v_60815 c_60816_i h_60817; omega) | omega)), (by have z_0 := tk_0; have z_1 := tk_1; have z_2 := tk_2; have z_3 := tk_3; have z_m := tk_m1; have z_9 := tk_9; have z_4 := tk_4; (first | (clear h_nx h_tk h_tpl h_n_nodes c_60806_i h_60808 c_60810_i h_60811 hw_60814 h_v_60815 q_v_60815 c_60816_i h_60817; omega) | omega)), by rw [← tg_9]; have z_0 := tk_0; have z_1 := tk_1; have z_2 := tk_2; have z_3 := tk_3; have z_m := tk_m1; have z_9 := tk_9; have z_4 := tk_4; (first | (clear h_nx h_tk h_tpl h_n_nodes c_60806_i h_60808 c_60810_i h_60811 hw_60814 h_v_60815 q_v_60815 c_60816_i h_60817; omega) | omega), hfk⟩), (fun h9 => absurd h9 (by decide)), by rw [ht]; exact hP9, hD9⟩, hS.F ht⟩) hS.2.2 dX4_isWeightFor_79
        · skip
          have kk_4 := tk_4
          have c_60816_i := Int32.lt_iff_toInt_lt.mp (Int32.not_le.mp c_60816)
          have h_60818 : 5 ≤ (v_60815 : Int32).toInt ∧ (v_60815 : Int32).toInt ≤ 12 := nr_lt_r (⟨by decide, by decide⟩ : 4 ≤ (4 : Int32).toInt ∧ (4 : Int32).toInt ≤ 4) h_v_60815 c_60816_i (by decide) (by decide)
          refine lv_aload_n hx hb dX4_isWeightFor_62 rfl (lv_at hl 0 rfl) ?_
          refine lv_iconst (v := 2) hx hb dX4_isWeightFor_63 (by decide) ?_
          have hPc := hP.sub (ws' := [(wO4 rd tp n rd_kindWords ww fk fp nx tk tpl tv)]) [0] rfl
          have hDc := hD.sub (ws' := [(wO4 rd tp n rd_kindWords ww fk fp nx tk tpl tv)]) [0] (by decide) rfl
          have hFc := va_free (wc := [(wO4 rd tp n rd_kindWords ww fk fp nx tk tpl tv)]) hD hS hA [0] rfl
          refine va_callv (va_runV (As := [.int 2]) (rest := []) ⟨hx, hb, hml, hown, hts⟩ (c_X4_fail l D g s.heap.size rd 2 tp n rd_kindWords ww fk fp nx tk tpl tv (⟨by decide, by decide⟩ : 0 ≤ (2 : Int32).toInt ∧ (2 : Int32).toInt ≤ 5) (tr_w h_60801 (by decide) (by decide)) (tr_w h_fp (by decide) (by decide)) (tr_w h_nx (by decide) (by decide)) (tr_w h_tk (by decide) (by decide)) (tr_w h_tpl (by decide) (by decide))) (cwV 1 hts (tz_gV qw_394 qw_395 qw_396 qw_364 qw_397) rfl rfl rfl (by decide +kernel) ⟨Nat.le_of_ble_eq_true rfl, Nat.le_of_ble_eq_true rfl⟩) ⟨tz_blQ, va_recv hK hPc (ci := 4) (q0 := 0) rfl rfl, tz_preQ hPc hK hDc⟩ rfl rfl hl.1 rfl (lv_room (Nat.le_of_ble_eq_true rfl)) dX4_isWeightFor_64 ⟨Nat.le_of_ble_eq_true rfl, Nat.le_of_ble_eq_true rfl⟩) hS (fun q _ h => hFc q h) hFc (fun u t H1 locs ht hvm hw hB hz1 hk1 hS => ?_)
          obtain ⟨hP1, hD1⟩ := hB
          rw [ht] at hP1
          obtain ⟨hP, hD⟩ := va_join (wr := [(wO2 n n_nodes n_kind n_pay n_name n_ways n_held n_targets n_weights), (wI g n_kind 0 12 n_fkind), (wI g n_ways 0 12 n_fways), (wI g n_weights 0 36 n_fweights)]) (w1 := [(wO4 rd tp n rd_kindWords ww 2 tpl nx tk tpl tv)]) hP hD [0] [1, 2, 3, 4] rfl rfl (by decide) (by decide) hk1 hFc hP1 hD1
          generalize H1 = H at hP hS ⊢
          have hP : va_P D vwCl [(wO2 n n_nodes n_kind n_pay n_name n_ways n_held n_targets n_weights), (wI g n_kind 0 12 n_fkind), (wI g n_ways 0 12 n_fways), (wI g n_weights 0 36 n_fweights), (wO4 rd tp n rd_kindWords ww 2 tpl nx tk tpl tv)] H := hP
          have hD : va_D A [(wO2 n n_nodes n_kind n_pay n_name n_ways n_held n_targets n_weights), (wI g n_kind 0 12 n_fkind), (wI g n_ways 0 12 n_fways), (wI g n_weights 0 36 n_fweights), (wO4 rd tp n rd_kindWords ww 2 tpl nx tk tpl tv)] := hD
          refine lv_aload_n hx hb dX4_isWeightFor_67 rfl (lv_at hl 0 rfl) ?_
          refine va_get (D := D) (ci := 4) (v := .int 2) (C := RX4) (T := TX4) (N := 10) hx hb hts inlX4 hown hK hP 4 rfl rfl 4 (by decide) (hts (Cond.fieldLink RX4 41 "ChanceRings$Reader" "faultKind" "I") qw_358) (fun _ h9 => h9) rfl dX4_isWeightFor_68 ?_
          refine lv_if_ne (tgt := 78) hx hb dX4_isWeightFor_71 (by decide) (fun _ => ?_) (fun h9 => absurd h9 (by decide))
          refine lv_iconst (v := 0) hx hb dX4_isWeightFor_78 (by decide) ?_
          have hP9 := hP.sub (ws' := [(wO4 rd tp n rd_kindWords ww 2 tpl nx tk tpl tv), (wO2 n n_nodes n_kind n_pay n_name n_ways n_held n_targets n_weights), (wI g n_kind 0 12 n_fkind), (wI g n_ways 0 12 n_fways), (wI g n_weights 0 36 n_fweights)]) [4, 0, 1, 2, 3] rfl
          have hD9 := hD.sub (ws' := [(wO4 rd tp n rd_kindWords ww 2 tpl nx tk tpl tv), (wO2 n n_nodes n_kind n_pay n_name n_ways n_held n_targets n_weights), (wI g n_kind 0 12 n_fkind), (wI g n_ways 0 12 n_fways), (wI g n_weights 0 36 n_fweights)]) [4, 0, 1, 2, 3] (by decide) rfl
          exact W.zret (v := 0) hx hb hr (by decide) (fun t ht hW => ⟨⟨0, 0, rfl, ⟨rfl, (⟨by decide, by decide⟩ : 0 ≤ (0 : Int32).toInt ∧ (0 : Int32).toInt ≤ 1)⟩, 2, tpl, (⟨by decide, by decide⟩ : 0 ≤ (2 : Int32).toInt ∧ (2 : Int32).toInt ≤ 5), (tr_w h_tpl (by decide) (by decide)), (fun h9 => absurd (by decide) h9), (fun _ => ⟨(Or.inr ⟨(by have z_0 := tk_0; have z_1 := tk_1; have z_2 := tk_2; have z_3 := tk_3; have z_m := tk_m1; have z_9 := tk_9; have z_4 := tk_4; have q8 := gi_v_60802; (first | (clear h_fk h_fp h_nx h_tk h_n_nodes hfk h_60801 c_60806_i h_60808 c_60810_i h_60811 hw_60814 h_v_60815 q_v_60815 c_60816_i h_60818; omega) | omega)), fun h9 => by have q7 := h9.2.2; rw [← tg_9] at q7; have z_0 := tk_0; have z_1 := tk_1; have z_2 := tk_2; have z_3 := tk_3; have z_m := tk_m1; have z_9 := tk_9; have z_4 := tk_4; (first | (clear h_fk h_fp h_nx h_tk h_n_nodes hfk h_60801 c_60806_i h_60808 c_60810_i h_60811 hw_60814 h_v_60815 q_v_60815 c_60816_i h_60818; omega) | omega)⟩), by decide, rfl⟩), by rw [ht]; exact hP9, hD9⟩, hS.F ht⟩) hS.2.2 dX4_isWeightFor_79
      · skip
        have c_60810_i := Int32.lt_iff_toInt_lt.mp (Int32.not_le.mp c_60810)
        have h_60812 : 4 ≤ (tv : Int32).toInt ∧ (tv : Int32).toInt ≤ 2147483647 := nr_lt_r (⟨by decide, by decide⟩ : 3 ≤ (3 : Int32).toInt ∧ (3 : Int32).toInt ≤ 3) h_60808 c_60810_i (by decide) (by decide)
        refine lv_aload_n hx hb dX4_isWeightFor_37 rfl (lv_at hl 0 rfl) ?_
        refine lv_iconst (v := 2) hx hb dX4_isWeightFor_38 (by decide) ?_
        have hPc := hP.sub (ws' := [(wO4 rd tp n rd_kindWords ww fk fp nx tk tpl tv)]) [0] rfl
        have hDc := hD.sub (ws' := [(wO4 rd tp n rd_kindWords ww fk fp nx tk tpl tv)]) [0] (by decide) rfl
        have hFc := va_free (wc := [(wO4 rd tp n rd_kindWords ww fk fp nx tk tpl tv)]) hD hS hA [0] rfl
        refine va_callv (va_runV (As := [.int 2]) (rest := []) ⟨hx, hb, hml, hown, hts⟩ (c_X4_fail l D g s.heap.size rd 2 tp n rd_kindWords ww fk fp nx tk tpl tv (⟨by decide, by decide⟩ : 0 ≤ (2 : Int32).toInt ∧ (2 : Int32).toInt ≤ 5) (tr_w h_60801 (by decide) (by decide)) (tr_w h_fp (by decide) (by decide)) (tr_w h_nx (by decide) (by decide)) (tr_w h_tk (by decide) (by decide)) (tr_w h_tpl (by decide) (by decide))) (cwV 1 hts (tz_gV qw_394 qw_395 qw_396 qw_364 qw_397) rfl rfl rfl (by decide +kernel) ⟨Nat.le_of_ble_eq_true rfl, Nat.le_of_ble_eq_true rfl⟩) ⟨tz_blQ, va_recv hK hPc (ci := 4) (q0 := 0) rfl rfl, tz_preQ hPc hK hDc⟩ rfl rfl hl.1 rfl (lv_room (Nat.le_of_ble_eq_true rfl)) dX4_isWeightFor_39 ⟨Nat.le_of_ble_eq_true rfl, Nat.le_of_ble_eq_true rfl⟩) hS (fun q _ h => hFc q h) hFc (fun u t H1 locs ht hvm hw hB hz1 hk1 hS => ?_)
        obtain ⟨hP1, hD1⟩ := hB
        rw [ht] at hP1
        obtain ⟨hP, hD⟩ := va_join (wr := [(wO2 n n_nodes n_kind n_pay n_name n_ways n_held n_targets n_weights), (wI g n_kind 0 12 n_fkind), (wI g n_ways 0 12 n_fways), (wI g n_weights 0 36 n_fweights)]) (w1 := [(wO4 rd tp n rd_kindWords ww 2 tpl nx tk tpl tv)]) hP hD [0] [1, 2, 3, 4] rfl rfl (by decide) (by decide) hk1 hFc hP1 hD1
        generalize H1 = H at hP hS ⊢
        have hP : va_P D vwCl [(wO2 n n_nodes n_kind n_pay n_name n_ways n_held n_targets n_weights), (wI g n_kind 0 12 n_fkind), (wI g n_ways 0 12 n_fways), (wI g n_weights 0 36 n_fweights), (wO4 rd tp n rd_kindWords ww 2 tpl nx tk tpl tv)] H := hP
        have hD : va_D A [(wO2 n n_nodes n_kind n_pay n_name n_ways n_held n_targets n_weights), (wI g n_kind 0 12 n_fkind), (wI g n_ways 0 12 n_fways), (wI g n_weights 0 36 n_fweights), (wO4 rd tp n rd_kindWords ww 2 tpl nx tk tpl tv)] := hD
        refine lv_goto (tgt := 67) hx hb dX4_isWeightFor_42 (by decide) ?_
        refine lv_aload_n hx hb dX4_isWeightFor_67 rfl (lv_at hl 0 rfl) ?_
        refine va_get (D := D) (ci := 4) (v := .int 2) (C := RX4) (T := TX4) (N := 10) hx hb hts inlX4 hown hK hP 4 rfl rfl 4 (by decide) (hts (Cond.fieldLink RX4 41 "ChanceRings$Reader" "faultKind" "I") qw_358) (fun _ h9 => h9) rfl dX4_isWeightFor_68 ?_
        refine lv_if_ne (tgt := 78) hx hb dX4_isWeightFor_71 (by decide) (fun _ => ?_) (fun h9 => absurd h9 (by decide))
        refine lv_iconst (v := 0) hx hb dX4_isWeightFor_78 (by decide) ?_
        have hP9 := hP.sub (ws' := [(wO4 rd tp n rd_kindWords ww 2 tpl nx tk tpl tv), (wO2 n n_nodes n_kind n_pay n_name n_ways n_held n_targets n_weights), (wI g n_kind 0 12 n_fkind), (wI g n_ways 0 12 n_fways), (wI g n_weights 0 36 n_fweights)]) [4, 0, 1, 2, 3] rfl
        have hD9 := hD.sub (ws' := [(wO4 rd tp n rd_kindWords ww 2 tpl nx tk tpl tv), (wO2 n n_nodes n_kind n_pay n_name n_ways n_held n_targets n_weights), (wI g n_kind 0 12 n_fkind), (wI g n_ways 0 12 n_fways), (wI g n_weights 0 36 n_fweights)]) [4, 0, 1, 2, 3] (by decide) rfl
        exact W.zret (v := 0) hx hb hr (by decide) (fun t ht hW => ⟨⟨0, 0, rfl, ⟨rfl, (⟨by decide, by decide⟩ : 0 ≤ (0 : Int32).toInt ∧ (0 : Int32).toInt ≤ 1)⟩, 2, tpl, (⟨by decide, by decide⟩ : 0 ≤ (2 : Int32).toInt ∧ (2 : Int32).toInt ≤ 5), (tr_w h_tpl (by decide) (by decide)), (fun h9 => absurd (by decide) h9), (fun _ => ⟨(Or.inr ⟨(by have z_0 := tk_0; have z_1 := tk_1; have z_2 := tk_2; have z_3 := tk_3; have z_m := tk_m1; have z_9 := tk_9; have z_4 := tk_4; have q8 := gi_v_60802; (first | (clear h_fk h_fp h_nx h_tk h_n_nodes hfk h_60801 c_60806_i h_60808 c_60810_i h_60812; omega) | omega)), fun h9 => by have z_0 := tk_0; have z_1 := tk_1; have z_2 := tk_2; have z_3 := tk_3; have z_m := tk_m1; have z_9 := tk_9; have z_4 := tk_4; (first | (clear h_fk h_fp h_nx h_tk h_n_nodes hfk h_60801 c_60806_i h_60808 c_60810_i h_60812; omega) | omega)⟩), by decide, rfl⟩), by rw [ht]; exact hP9, hD9⟩, hS.F ht⟩) hS.2.2 dX4_isWeightFor_79
  · skip
    have kk_3 := tk_3
    have c_60803_i : ¬ (v_60802 : Int32).toInt = (3 : Int32).toInt := (fun q => c_60803 (Int32.toInt_inj.mp q))
    have h_60805 : 0 ≤ (v_60802 : Int32).toInt ∧ (v_60802 : Int32).toInt ≤ 2 := nr_ne_l h_v_60802 (⟨by decide, by decide⟩ : 3 ≤ (3 : Int32).toInt ∧ (3 : Int32).toInt ≤ 3) c_60803_i (by decide) (by decide)
    refine lv_aload_n hx hb dX4_isWeightFor_13 rfl (lv_at hl 0 rfl) ?_
    refine lv_iconst (v := 1) hx hb dX4_isWeightFor_14 (by decide) ?_
    have hPc := hP.sub (ws' := [(wO4 rd tp n rd_kindWords ww fk fp nx tk tpl tv)]) [0] rfl
    have hDc := hD.sub (ws' := [(wO4 rd tp n rd_kindWords ww fk fp nx tk tpl tv)]) [0] (by decide) rfl
    have hFc := va_free (wc := [(wO4 rd tp n rd_kindWords ww fk fp nx tk tpl tv)]) hD hS hA [0] rfl
    refine va_callv (va_runV (As := [.int 1]) (rest := []) ⟨hx, hb, hml, hown, hts⟩ (c_X4_fail l D g s.heap.size rd 1 tp n rd_kindWords ww fk fp nx tk tpl tv (⟨by decide, by decide⟩ : 0 ≤ (1 : Int32).toInt ∧ (1 : Int32).toInt ≤ 5) (tr_w h_60801 (by decide) (by decide)) (tr_w h_fp (by decide) (by decide)) (tr_w h_nx (by decide) (by decide)) (tr_w h_tk (by decide) (by decide)) (tr_w h_tpl (by decide) (by decide))) (cwV 1 hts (tz_gV qw_394 qw_395 qw_396 qw_364 qw_397) rfl rfl rfl (by decide +kernel) ⟨Nat.le_of_ble_eq_true rfl, Nat.le_of_ble_eq_true rfl⟩) ⟨tz_blQ, va_recv hK hPc (ci := 4) (q0 := 0) rfl rfl, tz_preQ hPc hK hDc⟩ rfl rfl hl.1 rfl (lv_room (Nat.le_of_ble_eq_true rfl)) dX4_isWeightFor_15 ⟨Nat.le_of_ble_eq_true rfl, Nat.le_of_ble_eq_true rfl⟩) hS (fun q _ h => hFc q h) hFc (fun u t H1 locs ht hvm hw hB hz1 hk1 hS => ?_)
    obtain ⟨hP1, hD1⟩ := hB
    rw [ht] at hP1
    obtain ⟨hP, hD⟩ := va_join (wr := [(wO2 n n_nodes n_kind n_pay n_name n_ways n_held n_targets n_weights), (wI g n_kind 0 12 n_fkind), (wI g n_ways 0 12 n_fways), (wI g n_weights 0 36 n_fweights)]) (w1 := [(wO4 rd tp n rd_kindWords ww 1 tpl nx tk tpl tv)]) hP hD [0] [1, 2, 3, 4] rfl rfl (by decide) (by decide) hk1 hFc hP1 hD1
    generalize H1 = H at hP hS ⊢
    have hP : va_P D vwCl [(wO2 n n_nodes n_kind n_pay n_name n_ways n_held n_targets n_weights), (wI g n_kind 0 12 n_fkind), (wI g n_ways 0 12 n_fways), (wI g n_weights 0 36 n_fweights), (wO4 rd tp n rd_kindWords ww 1 tpl nx tk tpl tv)] H := hP
    have hD : va_D A [(wO2 n n_nodes n_kind n_pay n_name n_ways n_held n_targets n_weights), (wI g n_kind 0 12 n_fkind), (wI g n_ways 0 12 n_fways), (wI g n_weights 0 36 n_fweights), (wO4 rd tp n rd_kindWords ww 1 tpl nx tk tpl tv)] := hD
    refine lv_goto (tgt := 67) hx hb dX4_isWeightFor_18 (by decide) ?_
    refine lv_aload_n hx hb dX4_isWeightFor_67 rfl (lv_at hl 0 rfl) ?_
    refine va_get (D := D) (ci := 4) (v := .int 1) (C := RX4) (T := TX4) (N := 10) hx hb hts inlX4 hown hK hP 4 rfl rfl 4 (by decide) (hts (Cond.fieldLink RX4 41 "ChanceRings$Reader" "faultKind" "I") qw_358) (fun _ h9 => h9) rfl dX4_isWeightFor_68 ?_
    refine lv_if_ne (tgt := 78) hx hb dX4_isWeightFor_71 (by decide) (fun _ => ?_) (fun h9 => absurd h9 (by decide))
    refine lv_iconst (v := 0) hx hb dX4_isWeightFor_78 (by decide) ?_
    have hP9 := hP.sub (ws' := [(wO4 rd tp n rd_kindWords ww 1 tpl nx tk tpl tv), (wO2 n n_nodes n_kind n_pay n_name n_ways n_held n_targets n_weights), (wI g n_kind 0 12 n_fkind), (wI g n_ways 0 12 n_fways), (wI g n_weights 0 36 n_fweights)]) [4, 0, 1, 2, 3] rfl
    have hD9 := hD.sub (ws' := [(wO4 rd tp n rd_kindWords ww 1 tpl nx tk tpl tv), (wO2 n n_nodes n_kind n_pay n_name n_ways n_held n_targets n_weights), (wI g n_kind 0 12 n_fkind), (wI g n_ways 0 12 n_fways), (wI g n_weights 0 36 n_fweights)]) [4, 0, 1, 2, 3] (by decide) rfl
    exact W.zret (v := 0) hx hb hr (by decide) (fun t ht hW => ⟨⟨0, 0, rfl, ⟨rfl, (⟨by decide, by decide⟩ : 0 ≤ (0 : Int32).toInt ∧ (0 : Int32).toInt ≤ 1)⟩, 1, tpl, (⟨by decide, by decide⟩ : 0 ≤ (1 : Int32).toInt ∧ (1 : Int32).toInt ≤ 5), (tr_w h_tpl (by decide) (by decide)), (fun h9 => absurd (by decide) h9), (fun _ => ⟨(Or.inl (by have z_0 := tk_0; have z_1 := tk_1; have z_2 := tk_2; have z_3 := tk_3; have z_m := tk_m1; have z_9 := tk_9; have z_4 := tk_4; have q8 := gi_v_60802; (first | (clear h_fk h_fp h_nx h_tk h_n_nodes hfk h_60801; omega) | omega))), by decide, rfl⟩), by rw [ht]; exact hP9, hD9⟩, hS.F ht⟩) hS.2.2 dX4_isWeightFor_79
