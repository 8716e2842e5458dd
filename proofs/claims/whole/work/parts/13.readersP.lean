theorem t_183 : (.fieldLink R_Reader 111 "SymbolDictionaries$Reader" "why" "I" : Cond) ∈ tb := List.mem_filter.mpr ⟨List.mem_of_getElem? (i := 183) (by decide +kernel), by decide +kernel⟩
theorem t_185 : (.fieldLink R_Reader 9 "SymbolDictionaries$Reader" "bits" "LSymbolDictionaries$Bits;" : Cond) ∈ tb := List.mem_filter.mpr ⟨List.mem_of_getElem? (i := 185) (by decide +kernel), by decide +kernel⟩
theorem t_467 : (.selects R_PlainBits y_Bits_takeNumber y_Bits_takeNumber : Cond) ∈ tb := List.mem_filter.mpr ⟨List.mem_of_getElem? (i := 467) (by decide +kernel), by decide +kernel⟩
theorem t_463 : (.methodLink R_Reader 24 y_Bits_takeNumber : Cond) ∈ tb := List.mem_filter.mpr ⟨List.mem_of_getElem? (i := 463) (by decide +kernel), by decide +kernel⟩
theorem t_465 : (.sameMethod R_Bits R_Bits "takeNumber" "()I" : Cond) ∈ tb := List.mem_filter.mpr ⟨List.mem_of_getElem? (i := 465) (by decide +kernel), by decide +kernel⟩
theorem t_464 : (.instanceMethod y_Bits_takeNumber : Cond) ∈ tb := List.mem_filter.mpr ⟨List.mem_of_getElem? (i := 464) (by decide +kernel), by decide +kernel⟩
theorem t_468 : (.code y_Bits_takeNumber c_Bits_takeNumber 2 (some .int) : Cond) ∈ tb := List.mem_filter.mpr ⟨List.mem_of_getElem? (i := 468) (by decide +kernel), by decide +kernel⟩
theorem t_187 : (.fieldLink R_Reader 32 "SymbolDictionaries$Reader" "height" "I" : Cond) ∈ tb := List.mem_filter.mpr ⟨List.mem_of_getElem? (i := 187) (by decide +kernel), by decide +kernel⟩
theorem t_188 : (.fieldLink R_Reader 36 "SymbolDictionaries$Reader" "width" "I" : Cond) ∈ tb := List.mem_filter.mpr ⟨List.mem_of_getElem? (i := 188) (by decide +kernel), by decide +kernel⟩
theorem t_493 : (.methodLink R_Reader 54 y_Bits_takeBit : Cond) ∈ tb := List.mem_filter.mpr ⟨List.mem_of_getElem? (i := 493) (by decide +kernel), by decide +kernel⟩
theorem t_485 : (.methodLink R_Reader 28 y_Reader_refuse : Cond) ∈ tb := List.mem_filter.mpr ⟨List.mem_of_getElem? (i := 485) (by decide +kernel), by decide +kernel⟩
theorem t_487 : (.instanceMethod y_Reader_refuse : Cond) ∈ tb := List.mem_filter.mpr ⟨List.mem_of_getElem? (i := 487) (by decide +kernel), by decide +kernel⟩
theorem t_12 : (.selects R_Reader y_Reader_refuse y_Reader_refuse : Cond) ∈ tb := List.mem_filter.mpr ⟨List.mem_of_getElem? (i := 12) (by decide +kernel), by decide +kernel⟩
theorem t_61 : (.initialized R_Reader : Cond) ∈ tb := List.mem_filter.mpr ⟨List.mem_of_getElem? (i := 61) (by decide +kernel), by decide +kernel⟩
theorem t_488 : (.code y_Reader_refuse c_Reader_refuse 2 (some .boolean) : Cond) ∈ tb := List.mem_filter.mpr ⟨List.mem_of_getElem? (i := 488) (by decide +kernel), by decide +kernel⟩
theorem t_233 : (.fieldLink R_Reader 58 "SymbolDictionaries$Symbols" "size" "I" : Cond) ∈ tb := List.mem_filter.mpr ⟨List.mem_of_getElem? (i := 233) (by decide +kernel), by decide +kernel⟩
theorem t_494 : (.methodLink R_Reader 67 y_Reader_takeHeight : Cond) ∈ tb := List.mem_filter.mpr ⟨List.mem_of_getElem? (i := 494) (by decide +kernel), by decide +kernel⟩
theorem t_496 : (.instanceMethod y_Reader_takeHeight : Cond) ∈ tb := List.mem_filter.mpr ⟨List.mem_of_getElem? (i := 496) (by decide +kernel), by decide +kernel⟩
theorem t_14 : (.selects R_Reader y_Reader_takeHeight y_Reader_takeHeight : Cond) ∈ tb := List.mem_filter.mpr ⟨List.mem_of_getElem? (i := 14) (by decide +kernel), by decide +kernel⟩
theorem t_497 : (.code y_Reader_takeHeight c_Reader_takeHeight 2 (some .boolean) : Cond) ∈ tb := List.mem_filter.mpr ⟨List.mem_of_getElem? (i := 497) (by decide +kernel), by decide +kernel⟩
theorem t_498 : (.methodLink R_Reader 71 y_Symbols_add : Cond) ∈ tb := List.mem_filter.mpr ⟨List.mem_of_getElem? (i := 498) (by decide +kernel), by decide +kernel⟩
theorem t_499 : (.instanceMethod y_Symbols_add : Cond) ∈ tb := List.mem_filter.mpr ⟨List.mem_of_getElem? (i := 499) (by decide +kernel), by decide +kernel⟩
theorem t_500 : (.selects R_Symbols y_Symbols_add y_Symbols_add : Cond) ∈ tb := List.mem_filter.mpr ⟨List.mem_of_getElem? (i := 500) (by decide +kernel), by decide +kernel⟩
theorem t_501 : (.code y_Symbols_add c_Symbols_add 5 (some .int) : Cond) ∈ tb := List.mem_filter.mpr ⟨List.mem_of_getElem? (i := 501) (by decide +kernel), by decide +kernel⟩
theorem t_520 : (.methodLink R_Reader 75 y_Bits_takeBits : Cond) ∈ tb := List.mem_filter.mpr ⟨List.mem_of_getElem? (i := 520) (by decide +kernel), by decide +kernel⟩
theorem t_521 : (.methodLink R_Reader 78 y_Symbols_refine : Cond) ∈ tb := List.mem_filter.mpr ⟨List.mem_of_getElem? (i := 521) (by decide +kernel), by decide +kernel⟩
theorem t_221 : (.fieldLink R_Reader 82 "SymbolDictionaries$Symbols" "bases" "[I" : Cond) ∈ tb := List.mem_filter.mpr ⟨List.mem_of_getElem? (i := 221) (by decide +kernel), by decide +kernel⟩
theorem t_212 : (.fieldLink R_Reader 86 "SymbolDictionaries$Symbols" "heights" "[I" : Cond) ∈ tb := List.mem_filter.mpr ⟨List.mem_of_getElem? (i := 212) (by decide +kernel), by decide +kernel⟩
theorem t_208 : (.fieldLink R_Reader 89 "SymbolDictionaries$Symbols" "widths" "[I" : Cond) ∈ tb := List.mem_filter.mpr ⟨List.mem_of_getElem? (i := 208) (by decide +kernel), by decide +kernel⟩
theorem t_418 : (.code y_SD_contextAt c_SD_contextAt 8 (some .int) : Cond) ∈ tb := List.mem_filter.mpr ⟨List.mem_of_getElem? (i := 418) (by decide +kernel), by decide +kernel⟩
theorem t_54 : (.initialized R_SD : Cond) ∈ tb := List.mem_filter.mpr ⟨List.mem_of_getElem? (i := 54) (by decide +kernel), by decide +kernel⟩
theorem t_417 : (.static y_SD_contextAt : Cond) ∈ tb := List.mem_filter.mpr ⟨List.mem_of_getElem? (i := 417) (by decide +kernel), by decide +kernel⟩
theorem t_527 : (.methodLink R_Reader 96 y_Symbols_foretoldRow : Cond) ∈ tb := List.mem_filter.mpr ⟨List.mem_of_getElem? (i := 527) (by decide +kernel), by decide +kernel⟩
theorem t_400 : (.instanceMethod y_Symbols_foretoldRow : Cond) ∈ tb := List.mem_filter.mpr ⟨List.mem_of_getElem? (i := 400) (by decide +kernel), by decide +kernel⟩
theorem t_401 : (.selects R_Symbols y_Symbols_foretoldRow y_Symbols_foretoldRow : Cond) ∈ tb := List.mem_filter.mpr ⟨List.mem_of_getElem? (i := 401) (by decide +kernel), by decide +kernel⟩
theorem t_402 : (.code y_Symbols_foretoldRow c_Symbols_foretoldRow 8 (some .int) : Cond) ∈ tb := List.mem_filter.mpr ⟨List.mem_of_getElem? (i := 402) (by decide +kernel), by decide +kernel⟩
theorem t_528 : (.methodLink R_Reader 99 y_Symbols_setRow : Cond) ∈ tb := List.mem_filter.mpr ⟨List.mem_of_getElem? (i := 528) (by decide +kernel), by decide +kernel⟩
theorem t_537 : (.methodLink R_Reader 107 y_Symbols_turn : Cond) ∈ tb := List.mem_filter.mpr ⟨List.mem_of_getElem? (i := 537) (by decide +kernel), by decide +kernel⟩
theorem t_538 : (.instanceMethod y_Symbols_turn : Cond) ∈ tb := List.mem_filter.mpr ⟨List.mem_of_getElem? (i := 538) (by decide +kernel), by decide +kernel⟩
theorem t_539 : (.selects R_Symbols y_Symbols_turn y_Symbols_turn : Cond) ∈ tb := List.mem_filter.mpr ⟨List.mem_of_getElem? (i := 539) (by decide +kernel), by decide +kernel⟩
theorem t_540 : (.code y_Symbols_turn c_Symbols_turn 4 none : Cond) ∈ tb := List.mem_filter.mpr ⟨List.mem_of_getElem? (i := 540) (by decide +kernel), by decide +kernel⟩
theorem t_533 : (.methodLink R_Reader 103 y_Reader_turnRun : Cond) ∈ tb := List.mem_filter.mpr ⟨List.mem_of_getElem? (i := 533) (by decide +kernel), by decide +kernel⟩
theorem t_535 : (.instanceMethod y_Reader_turnRun : Cond) ∈ tb := List.mem_filter.mpr ⟨List.mem_of_getElem? (i := 535) (by decide +kernel), by decide +kernel⟩
theorem t_18 : (.selects R_Reader y_Reader_turnRun y_Reader_turnRun : Cond) ∈ tb := List.mem_filter.mpr ⟨List.mem_of_getElem? (i := 18) (by decide +kernel), by decide +kernel⟩
theorem t_536 : (.code y_Reader_turnRun c_Reader_turnRun 6 none : Cond) ∈ tb := List.mem_filter.mpr ⟨List.mem_of_getElem? (i := 536) (by decide +kernel), by decide +kernel⟩
theorem t_459 : (.selects R_PlainBits y_Bits_startReading y_PlainBits_startReading : Cond) ∈ tb := List.mem_filter.mpr ⟨List.mem_of_getElem? (i := 459) (by decide +kernel), by decide +kernel⟩
theorem t_445 : (.methodLink R_Reader 19 y_Bits_startReading : Cond) ∈ tb := List.mem_filter.mpr ⟨List.mem_of_getElem? (i := 445) (by decide +kernel), by decide +kernel⟩
theorem t_447 : (.sameMethod R_Bits R_Bits "startReading" "()V" : Cond) ∈ tb := List.mem_filter.mpr ⟨List.mem_of_getElem? (i := 447) (by decide +kernel), by decide +kernel⟩
theorem t_460 : (.instanceMethod y_PlainBits_startReading : Cond) ∈ tb := List.mem_filter.mpr ⟨List.mem_of_getElem? (i := 460) (by decide +kernel), by decide +kernel⟩
theorem t_461 : (.code y_PlainBits_startReading c_PlainBits_startReading 1 none : Cond) ∈ tb := List.mem_filter.mpr ⟨List.mem_of_getElem? (i := 461) (by decide +kernel), by decide +kernel⟩
theorem t_489 : (.methodLink R_Reader 39 y_Reader_takeSize : Cond) ∈ tb := List.mem_filter.mpr ⟨List.mem_of_getElem? (i := 489) (by decide +kernel), by decide +kernel⟩
theorem t_491 : (.instanceMethod y_Reader_takeSize : Cond) ∈ tb := List.mem_filter.mpr ⟨List.mem_of_getElem? (i := 491) (by decide +kernel), by decide +kernel⟩
theorem t_13 : (.selects R_Reader y_Reader_takeSize y_Reader_takeSize : Cond) ∈ tb := List.mem_filter.mpr ⟨List.mem_of_getElem? (i := 13) (by decide +kernel), by decide +kernel⟩
theorem t_492 : (.code y_Reader_takeSize c_Reader_takeSize 4 (some .boolean) : Cond) ∈ tb := List.mem_filter.mpr ⟨List.mem_of_getElem? (i := 492) (by decide +kernel), by decide +kernel⟩
theorem t_516 : (.methodLink R_Reader 43 y_Reader_takeBase : Cond) ∈ tb := List.mem_filter.mpr ⟨List.mem_of_getElem? (i := 516) (by decide +kernel), by decide +kernel⟩
theorem t_518 : (.instanceMethod y_Reader_takeBase : Cond) ∈ tb := List.mem_filter.mpr ⟨List.mem_of_getElem? (i := 518) (by decide +kernel), by decide +kernel⟩
theorem t_15 : (.selects R_Reader y_Reader_takeBase y_Reader_takeBase : Cond) ∈ tb := List.mem_filter.mpr ⟨List.mem_of_getElem? (i := 15) (by decide +kernel), by decide +kernel⟩
theorem t_519 : (.code y_Reader_takeBase c_Reader_takeBase 7 (some .boolean) : Cond) ∈ tb := List.mem_filter.mpr ⟨List.mem_of_getElem? (i := 519) (by decide +kernel), by decide +kernel⟩
theorem t_186 : (.fieldLink R_Reader 15 "SymbolDictionaries$Reader" "byRuns" "Z" : Cond) ∈ tb := List.mem_filter.mpr ⟨List.mem_of_getElem? (i := 186) (by decide +kernel), by decide +kernel⟩
theorem t_529 : (.methodLink R_Reader 51 y_Reader_takeRuns : Cond) ∈ tb := List.mem_filter.mpr ⟨List.mem_of_getElem? (i := 529) (by decide +kernel), by decide +kernel⟩
theorem t_531 : (.instanceMethod y_Reader_takeRuns : Cond) ∈ tb := List.mem_filter.mpr ⟨List.mem_of_getElem? (i := 531) (by decide +kernel), by decide +kernel⟩
theorem t_17 : (.selects R_Reader y_Reader_takeRuns y_Reader_takeRuns : Cond) ∈ tb := List.mem_filter.mpr ⟨List.mem_of_getElem? (i := 17) (by decide +kernel), by decide +kernel⟩
theorem t_532 : (.code y_Reader_takeRuns c_Reader_takeRuns 8 (some .boolean) : Cond) ∈ tb := List.mem_filter.mpr ⟨List.mem_of_getElem? (i := 532) (by decide +kernel), by decide +kernel⟩
theorem t_522 : (.methodLink R_Reader 47 y_Reader_takeSamples : Cond) ∈ tb := List.mem_filter.mpr ⟨List.mem_of_getElem? (i := 522) (by decide +kernel), by decide +kernel⟩
theorem t_524 : (.instanceMethod y_Reader_takeSamples : Cond) ∈ tb := List.mem_filter.mpr ⟨List.mem_of_getElem? (i := 524) (by decide +kernel), by decide +kernel⟩
theorem t_16 : (.selects R_Reader y_Reader_takeSamples y_Reader_takeSamples : Cond) ∈ tb := List.mem_filter.mpr ⟨List.mem_of_getElem? (i := 16) (by decide +kernel), by decide +kernel⟩
theorem t_525 : (.code y_Reader_takeSamples c_Reader_takeSamples 8 none : Cond) ∈ tb := List.mem_filter.mpr ⟨List.mem_of_getElem? (i := 525) (by decide +kernel), by decide +kernel⟩
theorem t_215 : (.fieldLink R_Reader 63 "SymbolDictionaries$Symbols" "exported" "[Z" : Cond) ∈ tb := List.mem_filter.mpr ⟨List.mem_of_getElem? (i := 215) (by decide +kernel), by decide +kernel⟩
abbrev ws_SD_contextAt : List Cond := .code y_SD_contextAt c_SD_contextAt 8 (some .int) :: tb
theorem hd_SD_contextAt : y_SD_contextAt.cls = R_SD ∧ y_SD_contextAt.cls ≠ "java/lang/invoke/MethodHandle" ∧ y_SD_contextAt.cls ≠ "java/lang/invoke/VarHandle" ∧ (parseMethodDescriptor y_SD_contextAt.desc).map (fun d => d.parameters.length) = some 4 := by decide +kernel
theorem d_SD_contextAt_0 : decode c_SD_contextAt 0 = .ok (.iload_n 0, 1) := by decide +kernel
theorem d_SD_contextAt_1 : decode c_SD_contextAt 1 = .ok (.iconst 1, 1) := by decide +kernel
theorem d_SD_contextAt_2 : decode c_SD_contextAt 2 = .ok (.ishl, 1) := by decide +kernel
theorem d_SD_contextAt_3 : decode c_SD_contextAt 3 = .ok (.iload_n 2, 1) := by decide +kernel
theorem d_SD_contextAt_4 : decode c_SD_contextAt 4 = .ok (.ishr, 1) := by decide +kernel
theorem d_SD_contextAt_5 : decode c_SD_contextAt 5 = .ok (.iconst 1, 1) := by decide +kernel
theorem d_SD_contextAt_6 : decode c_SD_contextAt 6 = .ok (.iand, 1) := by decide +kernel
theorem d_SD_contextAt_7 : decode c_SD_contextAt 7 = .ok (.istore 4, 2) := by decide +kernel
theorem d_SD_contextAt_9 : decode c_SD_contextAt 9 = .ok (.iload_n 1, 1) := by decide +kernel
theorem d_SD_contextAt_10 : decode c_SD_contextAt 10 = .ok (.iconst 1, 1) := by decide +kernel
theorem d_SD_contextAt_11 : decode c_SD_contextAt 11 = .ok (.ishl, 1) := by decide +kernel
theorem d_SD_contextAt_12 : decode c_SD_contextAt 12 = .ok (.iload_n 2, 1) := by decide +kernel
theorem d_SD_contextAt_13 : decode c_SD_contextAt 13 = .ok (.ishr, 1) := by decide +kernel
theorem d_SD_contextAt_14 : decode c_SD_contextAt 14 = .ok (.iconst 1, 1) := by decide +kernel
theorem d_SD_contextAt_15 : decode c_SD_contextAt 15 = .ok (.iand, 1) := by decide +kernel
theorem d_SD_contextAt_16 : decode c_SD_contextAt 16 = .ok (.istore 5, 2) := by decide +kernel
theorem d_SD_contextAt_18 : decode c_SD_contextAt 18 = .ok (.iload_n 1, 1) := by decide +kernel
theorem d_SD_contextAt_19 : decode c_SD_contextAt 19 = .ok (.iload_n 2, 1) := by decide +kernel
theorem d_SD_contextAt_20 : decode c_SD_contextAt 20 = .ok (.ishr, 1) := by decide +kernel
theorem d_SD_contextAt_21 : decode c_SD_contextAt 21 = .ok (.iconst 1, 1) := by decide +kernel
theorem d_SD_contextAt_22 : decode c_SD_contextAt 22 = .ok (.iand, 1) := by decide +kernel
theorem d_SD_contextAt_23 : decode c_SD_contextAt 23 = .ok (.istore 6, 2) := by decide +kernel
theorem d_SD_contextAt_25 : decode c_SD_contextAt 25 = .ok (.iload_n 1, 1) := by decide +kernel
theorem d_SD_contextAt_26 : decode c_SD_contextAt 26 = .ok (.iload_n 2, 1) := by decide +kernel
theorem d_SD_contextAt_27 : decode c_SD_contextAt 27 = .ok (.iconst 1, 1) := by decide +kernel
theorem d_SD_contextAt_28 : decode c_SD_contextAt 28 = .ok (.iadd, 1) := by decide +kernel
theorem d_SD_contextAt_29 : decode c_SD_contextAt 29 = .ok (.ishr, 1) := by decide +kernel
theorem d_SD_contextAt_30 : decode c_SD_contextAt 30 = .ok (.iconst 1, 1) := by decide +kernel
theorem d_SD_contextAt_31 : decode c_SD_contextAt 31 = .ok (.iand, 1) := by decide +kernel
theorem d_SD_contextAt_32 : decode c_SD_contextAt 32 = .ok (.istore 7, 2) := by decide +kernel
theorem d_SD_contextAt_34 : decode c_SD_contextAt 34 = .ok (.iload_n 3, 1) := by decide +kernel
theorem d_SD_contextAt_35 : decode c_SD_contextAt 35 = .ok (.bipush 8, 2) := by decide +kernel
theorem d_SD_contextAt_37 : decode c_SD_contextAt 37 = .ok (.iload 4, 2) := by decide +kernel
theorem d_SD_contextAt_39 : decode c_SD_contextAt 39 = .ok (.imul, 1) := by decide +kernel
theorem d_SD_contextAt_40 : decode c_SD_contextAt 40 = .ok (.iadd, 1) := by decide +kernel
theorem d_SD_contextAt_41 : decode c_SD_contextAt 41 = .ok (.iconst 4, 1) := by decide +kernel
theorem d_SD_contextAt_42 : decode c_SD_contextAt 42 = .ok (.iload 5, 2) := by decide +kernel
theorem d_SD_contextAt_44 : decode c_SD_contextAt 44 = .ok (.imul, 1) := by decide +kernel
theorem d_SD_contextAt_45 : decode c_SD_contextAt 45 = .ok (.iadd, 1) := by decide +kernel
theorem d_SD_contextAt_46 : decode c_SD_contextAt 46 = .ok (.iconst 2, 1) := by decide +kernel
theorem d_SD_contextAt_47 : decode c_SD_contextAt 47 = .ok (.iload 6, 2) := by decide +kernel
theorem d_SD_contextAt_49 : decode c_SD_contextAt 49 = .ok (.imul, 1) := by decide +kernel
theorem d_SD_contextAt_50 : decode c_SD_contextAt 50 = .ok (.iadd, 1) := by decide +kernel
theorem d_SD_contextAt_51 : decode c_SD_contextAt 51 = .ok (.iload 7, 2) := by decide +kernel
theorem d_SD_contextAt_53 : decode c_SD_contextAt 53 = .ok (.iadd, 1) := by decide +kernel
theorem d_SD_contextAt_54 : decode c_SD_contextAt 54 = .ok (.ireturn, 1) := by decide +kernel
abbrev ws_Reader_refuse : List Cond := .code y_Reader_refuse c_Reader_refuse 2 (some .boolean) :: tb
theorem hd_Reader_refuse : y_Reader_refuse.cls = R_Reader ∧ y_Reader_refuse.cls ≠ "java/lang/invoke/MethodHandle" ∧ y_Reader_refuse.cls ≠ "java/lang/invoke/VarHandle" ∧ (parseMethodDescriptor y_Reader_refuse.desc).map (fun d => d.parameters.length) = some 1 := by decide +kernel
theorem d_Reader_refuse_0 : decode c_Reader_refuse 0 = .ok (.aload_n 0, 1) := by decide +kernel
theorem d_Reader_refuse_1 : decode c_Reader_refuse 1 = .ok (.iload_n 1, 1) := by decide +kernel
theorem d_Reader_refuse_2 : decode c_Reader_refuse 2 = .ok (.putfield 111, 3) := by decide +kernel
theorem d_Reader_refuse_5 : decode c_Reader_refuse 5 = .ok (.iconst 0, 1) := by decide +kernel
theorem d_Reader_refuse_6 : decode c_Reader_refuse 6 = .ok (.ireturn, 1) := by decide +kernel
abbrev ws_Reader_takeHeight : List Cond := .code y_Reader_takeHeight c_Reader_takeHeight 2 (some .boolean) :: tb
theorem hd_Reader_takeHeight : y_Reader_takeHeight.cls = R_Reader ∧ y_Reader_takeHeight.cls ≠ "java/lang/invoke/MethodHandle" ∧ y_Reader_takeHeight.cls ≠ "java/lang/invoke/VarHandle" ∧ (parseMethodDescriptor y_Reader_takeHeight.desc).map (fun d => d.parameters.length) = some 0 := by decide +kernel
theorem d_Reader_takeHeight_0 : decode c_Reader_takeHeight 0 = .ok (.aload_n 0, 1) := by decide +kernel
theorem d_Reader_takeHeight_1 : decode c_Reader_takeHeight 1 = .ok (.getfield 9, 3) := by decide +kernel
theorem d_Reader_takeHeight_4 : decode c_Reader_takeHeight 4 = .ok (.invokevirtual 24, 3) := by decide +kernel
theorem d_Reader_takeHeight_7 : decode c_Reader_takeHeight 7 = .ok (.istore_n 1, 1) := by decide +kernel
theorem d_Reader_takeHeight_8 : decode c_Reader_takeHeight 8 = .ok (.iload_n 1, 1) := by decide +kernel
theorem d_Reader_takeHeight_9 : decode c_Reader_takeHeight 9 = .ok (.iconst (-1), 1) := by decide +kernel
theorem d_Reader_takeHeight_10 : decode c_Reader_takeHeight 10 = .ok (.if_icmp .ne 10, 3) := by decide +kernel
theorem d_Reader_takeHeight_13 : decode c_Reader_takeHeight 13 = .ok (.aload_n 0, 1) := by decide +kernel
theorem d_Reader_takeHeight_14 : decode c_Reader_takeHeight 14 = .ok (.bipush 7, 2) := by decide +kernel
theorem d_Reader_takeHeight_16 : decode c_Reader_takeHeight 16 = .ok (.invokevirtual 28, 3) := by decide +kernel
theorem d_Reader_takeHeight_19 : decode c_Reader_takeHeight 19 = .ok (.ireturn, 1) := by decide +kernel
theorem d_Reader_takeHeight_20 : decode c_Reader_takeHeight 20 = .ok (.aload_n 0, 1) := by decide +kernel
theorem d_Reader_takeHeight_21 : decode c_Reader_takeHeight 21 = .ok (.dup, 1) := by decide +kernel
theorem d_Reader_takeHeight_22 : decode c_Reader_takeHeight 22 = .ok (.getfield 32, 3) := by decide +kernel
theorem d_Reader_takeHeight_25 : decode c_Reader_takeHeight 25 = .ok (.iload_n 1, 1) := by decide +kernel
theorem d_Reader_takeHeight_26 : decode c_Reader_takeHeight 26 = .ok (.iconst 1, 1) := by decide +kernel
theorem d_Reader_takeHeight_27 : decode c_Reader_takeHeight 27 = .ok (.iadd, 1) := by decide +kernel
theorem d_Reader_takeHeight_28 : decode c_Reader_takeHeight 28 = .ok (.iadd, 1) := by decide +kernel
theorem d_Reader_takeHeight_29 : decode c_Reader_takeHeight 29 = .ok (.putfield 32, 3) := by decide +kernel
theorem d_Reader_takeHeight_32 : decode c_Reader_takeHeight 32 = .ok (.aload_n 0, 1) := by decide +kernel
theorem d_Reader_takeHeight_33 : decode c_Reader_takeHeight 33 = .ok (.getfield 32, 3) := by decide +kernel
theorem d_Reader_takeHeight_36 : decode c_Reader_takeHeight 36 = .ok (.bipush 16, 2) := by decide +kernel
theorem d_Reader_takeHeight_38 : decode c_Reader_takeHeight 38 = .ok (.if_icmp .le 9, 3) := by decide +kernel
theorem d_Reader_takeHeight_41 : decode c_Reader_takeHeight 41 = .ok (.aload_n 0, 1) := by decide +kernel
theorem d_Reader_takeHeight_42 : decode c_Reader_takeHeight 42 = .ok (.iconst 1, 1) := by decide +kernel
theorem d_Reader_takeHeight_43 : decode c_Reader_takeHeight 43 = .ok (.invokevirtual 28, 3) := by decide +kernel
theorem d_Reader_takeHeight_46 : decode c_Reader_takeHeight 46 = .ok (.ireturn, 1) := by decide +kernel
theorem d_Reader_takeHeight_47 : decode c_Reader_takeHeight 47 = .ok (.aload_n 0, 1) := by decide +kernel
theorem d_Reader_takeHeight_48 : decode c_Reader_takeHeight 48 = .ok (.iconst 0, 1) := by decide +kernel
theorem d_Reader_takeHeight_49 : decode c_Reader_takeHeight 49 = .ok (.putfield 36, 3) := by decide +kernel
theorem d_Reader_takeHeight_52 : decode c_Reader_takeHeight 52 = .ok (.aload_n 0, 1) := by decide +kernel
theorem d_Reader_takeHeight_53 : decode c_Reader_takeHeight 53 = .ok (.getfield 9, 3) := by decide +kernel
theorem d_Reader_takeHeight_56 : decode c_Reader_takeHeight 56 = .ok (.iconst (-1), 1) := by decide +kernel
theorem d_Reader_takeHeight_57 : decode c_Reader_takeHeight 57 = .ok (.invokevirtual 54, 3) := by decide +kernel
theorem d_Reader_takeHeight_60 : decode c_Reader_takeHeight 60 = .ok (.iconst 1, 1) := by decide +kernel
theorem d_Reader_takeHeight_61 : decode c_Reader_takeHeight 61 = .ok (.if_icmp .eq 11, 3) := by decide +kernel
theorem d_Reader_takeHeight_64 : decode c_Reader_takeHeight 64 = .ok (.aload_n 0, 1) := by decide +kernel
theorem d_Reader_takeHeight_65 : decode c_Reader_takeHeight 65 = .ok (.iconst 1, 1) := by decide +kernel
theorem d_Reader_takeHeight_66 : decode c_Reader_takeHeight 66 = .ok (.invokevirtual 28, 3) := by decide +kernel
theorem d_Reader_takeHeight_69 : decode c_Reader_takeHeight 69 = .ok (.ifCond .eq 7, 3) := by decide +kernel
theorem d_Reader_takeHeight_72 : decode c_Reader_takeHeight 72 = .ok (.iconst 1, 1) := by decide +kernel
theorem d_Reader_takeHeight_73 : decode c_Reader_takeHeight 73 = .ok (.goto 4, 3) := by decide +kernel
theorem d_Reader_takeHeight_76 : decode c_Reader_takeHeight 76 = .ok (.iconst 0, 1) := by decide +kernel
theorem d_Reader_takeHeight_77 : decode c_Reader_takeHeight 77 = .ok (.ireturn, 1) := by decide +kernel
abbrev ws_Reader_takeSize : List Cond := .code y_Reader_takeSize c_Reader_takeSize 4 (some .boolean) :: tb
theorem hd_Reader_takeSize : y_Reader_takeSize.cls = R_Reader ∧ y_Reader_takeSize.cls ≠ "java/lang/invoke/MethodHandle" ∧ y_Reader_takeSize.cls ≠ "java/lang/invoke/VarHandle" ∧ (parseMethodDescriptor y_Reader_takeSize.desc).map (fun d => d.parameters.length) = some 1 := by decide +kernel
theorem d_Reader_takeSize_0 : decode c_Reader_takeSize 0 = .ok (.aload_n 1, 1) := by decide +kernel
theorem d_Reader_takeSize_1 : decode c_Reader_takeSize 1 = .ok (.getfield 58, 3) := by decide +kernel
theorem d_Reader_takeSize_4 : decode c_Reader_takeSize 4 = .ok (.ifCond .eq 14, 3) := by decide +kernel
theorem d_Reader_takeSize_7 : decode c_Reader_takeSize 7 = .ok (.aload_n 0, 1) := by decide +kernel
theorem d_Reader_takeSize_8 : decode c_Reader_takeSize 8 = .ok (.getfield 9, 3) := by decide +kernel
theorem d_Reader_takeSize_11 : decode c_Reader_takeSize 11 = .ok (.iconst (-1), 1) := by decide +kernel
theorem d_Reader_takeSize_12 : decode c_Reader_takeSize 12 = .ok (.invokevirtual 54, 3) := by decide +kernel
theorem d_Reader_takeSize_15 : decode c_Reader_takeSize 15 = .ok (.ifCond .ne 7, 3) := by decide +kernel
theorem d_Reader_takeSize_18 : decode c_Reader_takeSize 18 = .ok (.iconst 1, 1) := by decide +kernel
theorem d_Reader_takeSize_19 : decode c_Reader_takeSize 19 = .ok (.goto 4, 3) := by decide +kernel
theorem d_Reader_takeSize_22 : decode c_Reader_takeSize 22 = .ok (.iconst 0, 1) := by decide +kernel
theorem d_Reader_takeSize_23 : decode c_Reader_takeSize 23 = .ok (.istore_n 2, 1) := by decide +kernel
theorem d_Reader_takeSize_24 : decode c_Reader_takeSize 24 = .ok (.iload_n 2, 1) := by decide +kernel
theorem d_Reader_takeSize_25 : decode c_Reader_takeSize 25 = .ok (.ifCond .eq 12, 3) := by decide +kernel
theorem d_Reader_takeSize_28 : decode c_Reader_takeSize 28 = .ok (.aload_n 0, 1) := by decide +kernel
theorem d_Reader_takeSize_29 : decode c_Reader_takeSize 29 = .ok (.invokevirtual 67, 3) := by decide +kernel
theorem d_Reader_takeSize_32 : decode c_Reader_takeSize 32 = .ok (.ifCond .ne 5, 3) := by decide +kernel
theorem d_Reader_takeSize_35 : decode c_Reader_takeSize 35 = .ok (.iconst 0, 1) := by decide +kernel
theorem d_Reader_takeSize_36 : decode c_Reader_takeSize 36 = .ok (.ireturn, 1) := by decide +kernel
theorem d_Reader_takeSize_37 : decode c_Reader_takeSize 37 = .ok (.aload_n 0, 1) := by decide +kernel
theorem d_Reader_takeSize_38 : decode c_Reader_takeSize 38 = .ok (.getfield 9, 3) := by decide +kernel
theorem d_Reader_takeSize_41 : decode c_Reader_takeSize 41 = .ok (.invokevirtual 24, 3) := by decide +kernel
theorem d_Reader_takeSize_44 : decode c_Reader_takeSize 44 = .ok (.istore_n 3, 1) := by decide +kernel
theorem d_Reader_takeSize_45 : decode c_Reader_takeSize 45 = .ok (.iload_n 3, 1) := by decide +kernel
theorem d_Reader_takeSize_46 : decode c_Reader_takeSize 46 = .ok (.iconst (-1), 1) := by decide +kernel
theorem d_Reader_takeSize_47 : decode c_Reader_takeSize 47 = .ok (.if_icmp .ne 10, 3) := by decide +kernel
theorem d_Reader_takeSize_50 : decode c_Reader_takeSize 50 = .ok (.aload_n 0, 1) := by decide +kernel
theorem d_Reader_takeSize_51 : decode c_Reader_takeSize 51 = .ok (.bipush 7, 2) := by decide +kernel
theorem d_Reader_takeSize_53 : decode c_Reader_takeSize 53 = .ok (.invokevirtual 28, 3) := by decide +kernel
theorem d_Reader_takeSize_56 : decode c_Reader_takeSize 56 = .ok (.ireturn, 1) := by decide +kernel
theorem d_Reader_takeSize_57 : decode c_Reader_takeSize 57 = .ok (.aload_n 0, 1) := by decide +kernel
theorem d_Reader_takeSize_58 : decode c_Reader_takeSize 58 = .ok (.dup, 1) := by decide +kernel
theorem d_Reader_takeSize_59 : decode c_Reader_takeSize 59 = .ok (.getfield 36, 3) := by decide +kernel
theorem d_Reader_takeSize_62 : decode c_Reader_takeSize 62 = .ok (.iload_n 3, 1) := by decide +kernel
theorem d_Reader_takeSize_63 : decode c_Reader_takeSize 63 = .ok (.iadd, 1) := by decide +kernel
theorem d_Reader_takeSize_64 : decode c_Reader_takeSize 64 = .ok (.putfield 36, 3) := by decide +kernel
theorem d_Reader_takeSize_67 : decode c_Reader_takeSize 67 = .ok (.aload_n 0, 1) := by decide +kernel
theorem d_Reader_takeSize_68 : decode c_Reader_takeSize 68 = .ok (.getfield 36, 3) := by decide +kernel
theorem d_Reader_takeSize_71 : decode c_Reader_takeSize 71 = .ok (.ifCond .eq 12, 3) := by decide +kernel
theorem d_Reader_takeSize_74 : decode c_Reader_takeSize 74 = .ok (.aload_n 0, 1) := by decide +kernel
theorem d_Reader_takeSize_75 : decode c_Reader_takeSize 75 = .ok (.getfield 36, 3) := by decide +kernel
theorem d_Reader_takeSize_78 : decode c_Reader_takeSize 78 = .ok (.bipush 16, 2) := by decide +kernel
theorem d_Reader_takeSize_80 : decode c_Reader_takeSize 80 = .ok (.if_icmp .le 9, 3) := by decide +kernel
theorem d_Reader_takeSize_83 : decode c_Reader_takeSize 83 = .ok (.aload_n 0, 1) := by decide +kernel
theorem d_Reader_takeSize_84 : decode c_Reader_takeSize 84 = .ok (.iconst 2, 1) := by decide +kernel
theorem d_Reader_takeSize_85 : decode c_Reader_takeSize 85 = .ok (.invokevirtual 28, 3) := by decide +kernel
theorem d_Reader_takeSize_88 : decode c_Reader_takeSize 88 = .ok (.ireturn, 1) := by decide +kernel
theorem d_Reader_takeSize_89 : decode c_Reader_takeSize 89 = .ok (.aload_n 1, 1) := by decide +kernel
theorem d_Reader_takeSize_90 : decode c_Reader_takeSize 90 = .ok (.aload_n 0, 1) := by decide +kernel
theorem d_Reader_takeSize_91 : decode c_Reader_takeSize 91 = .ok (.getfield 36, 3) := by decide +kernel
theorem d_Reader_takeSize_94 : decode c_Reader_takeSize 94 = .ok (.aload_n 0, 1) := by decide +kernel
theorem d_Reader_takeSize_95 : decode c_Reader_takeSize 95 = .ok (.getfield 32, 3) := by decide +kernel
theorem d_Reader_takeSize_98 : decode c_Reader_takeSize 98 = .ok (.invokevirtual 71, 3) := by decide +kernel
theorem d_Reader_takeSize_101 : decode c_Reader_takeSize 101 = .ok (.pop, 1) := by decide +kernel
theorem d_Reader_takeSize_102 : decode c_Reader_takeSize 102 = .ok (.iconst 1, 1) := by decide +kernel
theorem d_Reader_takeSize_103 : decode c_Reader_takeSize 103 = .ok (.ireturn, 1) := by decide +kernel
abbrev ws_Reader_takeBase : List Cond := .code y_Reader_takeBase c_Reader_takeBase 7 (some .boolean) :: tb
theorem hd_Reader_takeBase : y_Reader_takeBase.cls = R_Reader ∧ y_Reader_takeBase.cls ≠ "java/lang/invoke/MethodHandle" ∧ y_Reader_takeBase.cls ≠ "java/lang/invoke/VarHandle" ∧ (parseMethodDescriptor y_Reader_takeBase.desc).map (fun d => d.parameters.length) = some 2 := by decide +kernel
theorem d_Reader_takeBase_0 : decode c_Reader_takeBase 0 = .ok (.aload_n 0, 1) := by decide +kernel
theorem d_Reader_takeBase_1 : decode c_Reader_takeBase 1 = .ok (.getfield 9, 3) := by decide +kernel
theorem d_Reader_takeBase_4 : decode c_Reader_takeBase 4 = .ok (.iconst (-1), 1) := by decide +kernel
theorem d_Reader_takeBase_5 : decode c_Reader_takeBase 5 = .ok (.invokevirtual 54, 3) := by decide +kernel
theorem d_Reader_takeBase_8 : decode c_Reader_takeBase 8 = .ok (.ifCond .ne 5, 3) := by decide +kernel
theorem d_Reader_takeBase_11 : decode c_Reader_takeBase 11 = .ok (.iconst 1, 1) := by decide +kernel
theorem d_Reader_takeBase_12 : decode c_Reader_takeBase 12 = .ok (.ireturn, 1) := by decide +kernel
theorem d_Reader_takeBase_13 : decode c_Reader_takeBase 13 = .ok (.aload_n 0, 1) := by decide +kernel
theorem d_Reader_takeBase_14 : decode c_Reader_takeBase 14 = .ok (.getfield 9, 3) := by decide +kernel
theorem d_Reader_takeBase_17 : decode c_Reader_takeBase 17 = .ok (.invokevirtual 24, 3) := by decide +kernel
theorem d_Reader_takeBase_20 : decode c_Reader_takeBase 20 = .ok (.istore_n 3, 1) := by decide +kernel
theorem d_Reader_takeBase_21 : decode c_Reader_takeBase 21 = .ok (.iload_n 3, 1) := by decide +kernel
theorem d_Reader_takeBase_22 : decode c_Reader_takeBase 22 = .ok (.iconst (-1), 1) := by decide +kernel
theorem d_Reader_takeBase_23 : decode c_Reader_takeBase 23 = .ok (.if_icmp .ne 10, 3) := by decide +kernel
theorem d_Reader_takeBase_26 : decode c_Reader_takeBase 26 = .ok (.aload_n 0, 1) := by decide +kernel
theorem d_Reader_takeBase_27 : decode c_Reader_takeBase 27 = .ok (.bipush 7, 2) := by decide +kernel
theorem d_Reader_takeBase_29 : decode c_Reader_takeBase 29 = .ok (.invokevirtual 28, 3) := by decide +kernel
theorem d_Reader_takeBase_32 : decode c_Reader_takeBase 32 = .ok (.ireturn, 1) := by decide +kernel
theorem d_Reader_takeBase_33 : decode c_Reader_takeBase 33 = .ok (.iload_n 2, 1) := by decide +kernel
theorem d_Reader_takeBase_34 : decode c_Reader_takeBase 34 = .ok (.iconst 1, 1) := by decide +kernel
theorem d_Reader_takeBase_35 : decode c_Reader_takeBase 35 = .ok (.isub, 1) := by decide +kernel
theorem d_Reader_takeBase_36 : decode c_Reader_takeBase 36 = .ok (.iload_n 3, 1) := by decide +kernel
theorem d_Reader_takeBase_37 : decode c_Reader_takeBase 37 = .ok (.isub, 1) := by decide +kernel
theorem d_Reader_takeBase_38 : decode c_Reader_takeBase 38 = .ok (.istore 4, 2) := by decide +kernel
theorem d_Reader_takeBase_40 : decode c_Reader_takeBase 40 = .ok (.iload 4, 2) := by decide +kernel
theorem d_Reader_takeBase_42 : decode c_Reader_takeBase 42 = .ok (.ifCond .ge 9, 3) := by decide +kernel
theorem d_Reader_takeBase_45 : decode c_Reader_takeBase 45 = .ok (.aload_n 0, 1) := by decide +kernel
theorem d_Reader_takeBase_46 : decode c_Reader_takeBase 46 = .ok (.iconst 3, 1) := by decide +kernel
theorem d_Reader_takeBase_47 : decode c_Reader_takeBase 47 = .ok (.invokevirtual 28, 3) := by decide +kernel
theorem d_Reader_takeBase_50 : decode c_Reader_takeBase 50 = .ok (.ireturn, 1) := by decide +kernel
theorem d_Reader_takeBase_51 : decode c_Reader_takeBase 51 = .ok (.aload_n 0, 1) := by decide +kernel
theorem d_Reader_takeBase_52 : decode c_Reader_takeBase 52 = .ok (.getfield 9, 3) := by decide +kernel
theorem d_Reader_takeBase_55 : decode c_Reader_takeBase 55 = .ok (.iconst 4, 1) := by decide +kernel
theorem d_Reader_takeBase_56 : decode c_Reader_takeBase 56 = .ok (.invokevirtual 75, 3) := by decide +kernel
theorem d_Reader_takeBase_59 : decode c_Reader_takeBase 59 = .ok (.iconst 4, 1) := by decide +kernel
theorem d_Reader_takeBase_60 : decode c_Reader_takeBase 60 = .ok (.isub, 1) := by decide +kernel
theorem d_Reader_takeBase_61 : decode c_Reader_takeBase 61 = .ok (.istore 5, 2) := by decide +kernel
theorem d_Reader_takeBase_63 : decode c_Reader_takeBase 63 = .ok (.aload_n 0, 1) := by decide +kernel
theorem d_Reader_takeBase_64 : decode c_Reader_takeBase 64 = .ok (.getfield 9, 3) := by decide +kernel
theorem d_Reader_takeBase_67 : decode c_Reader_takeBase 67 = .ok (.iconst 4, 1) := by decide +kernel
theorem d_Reader_takeBase_68 : decode c_Reader_takeBase 68 = .ok (.invokevirtual 75, 3) := by decide +kernel
theorem d_Reader_takeBase_71 : decode c_Reader_takeBase 71 = .ok (.iconst 4, 1) := by decide +kernel
theorem d_Reader_takeBase_72 : decode c_Reader_takeBase 72 = .ok (.isub, 1) := by decide +kernel
theorem d_Reader_takeBase_73 : decode c_Reader_takeBase 73 = .ok (.istore 6, 2) := by decide +kernel
theorem d_Reader_takeBase_75 : decode c_Reader_takeBase 75 = .ok (.iload 5, 2) := by decide +kernel
theorem d_Reader_takeBase_77 : decode c_Reader_takeBase 77 = .ok (.iconst 4, 1) := by decide +kernel
theorem d_Reader_takeBase_78 : decode c_Reader_takeBase 78 = .ok (.if_icmp .gt 9, 3) := by decide +kernel
theorem d_Reader_takeBase_81 : decode c_Reader_takeBase 81 = .ok (.iload 6, 2) := by decide +kernel
theorem d_Reader_takeBase_83 : decode c_Reader_takeBase 83 = .ok (.iconst 4, 1) := by decide +kernel
theorem d_Reader_takeBase_84 : decode c_Reader_takeBase 84 = .ok (.if_icmp .le 9, 3) := by decide +kernel
theorem d_Reader_takeBase_87 : decode c_Reader_takeBase 87 = .ok (.aload_n 0, 1) := by decide +kernel
theorem d_Reader_takeBase_88 : decode c_Reader_takeBase 88 = .ok (.iconst 4, 1) := by decide +kernel
theorem d_Reader_takeBase_89 : decode c_Reader_takeBase 89 = .ok (.invokevirtual 28, 3) := by decide +kernel
theorem d_Reader_takeBase_92 : decode c_Reader_takeBase 92 = .ok (.ireturn, 1) := by decide +kernel
theorem d_Reader_takeBase_93 : decode c_Reader_takeBase 93 = .ok (.aload_n 1, 1) := by decide +kernel
theorem d_Reader_takeBase_94 : decode c_Reader_takeBase 94 = .ok (.iload_n 2, 1) := by decide +kernel
theorem d_Reader_takeBase_95 : decode c_Reader_takeBase 95 = .ok (.iload 4, 2) := by decide +kernel
theorem d_Reader_takeBase_97 : decode c_Reader_takeBase 97 = .ok (.iload 5, 2) := by decide +kernel
theorem d_Reader_takeBase_99 : decode c_Reader_takeBase 99 = .ok (.iload 6, 2) := by decide +kernel
theorem d_Reader_takeBase_101 : decode c_Reader_takeBase 101 = .ok (.invokevirtual 78, 3) := by decide +kernel
theorem d_Reader_takeBase_104 : decode c_Reader_takeBase 104 = .ok (.iconst 1, 1) := by decide +kernel
theorem d_Reader_takeBase_105 : decode c_Reader_takeBase 105 = .ok (.ireturn, 1) := by decide +kernel
abbrev ws_Reader_takeSamples : List Cond := .code y_Reader_takeSamples c_Reader_takeSamples 8 none :: tb
theorem hd_Reader_takeSamples : y_Reader_takeSamples.cls = R_Reader ∧ y_Reader_takeSamples.cls ≠ "java/lang/invoke/MethodHandle" ∧ y_Reader_takeSamples.cls ≠ "java/lang/invoke/VarHandle" ∧ (parseMethodDescriptor y_Reader_takeSamples.desc).map (fun d => d.parameters.length) = some 2 := by decide +kernel
theorem d_Reader_takeSamples_0 : decode c_Reader_takeSamples 0 = .ok (.aload_n 1, 1) := by decide +kernel
theorem d_Reader_takeSamples_1 : decode c_Reader_takeSamples 1 = .ok (.getfield 82, 3) := by decide +kernel
theorem d_Reader_takeSamples_4 : decode c_Reader_takeSamples 4 = .ok (.iload_n 2, 1) := by decide +kernel
theorem d_Reader_takeSamples_5 : decode c_Reader_takeSamples 5 = .ok (.iaload, 1) := by decide +kernel
theorem d_Reader_takeSamples_6 : decode c_Reader_takeSamples 6 = .ok (.iconst (-1), 1) := by decide +kernel
theorem d_Reader_takeSamples_7 : decode c_Reader_takeSamples 7 = .ok (.if_icmp .ne 7, 3) := by decide +kernel
theorem d_Reader_takeSamples_10 : decode c_Reader_takeSamples 10 = .ok (.iconst 0, 1) := by decide +kernel
theorem d_Reader_takeSamples_11 : decode c_Reader_takeSamples 11 = .ok (.goto 5, 3) := by decide +kernel
theorem d_Reader_takeSamples_14 : decode c_Reader_takeSamples 14 = .ok (.bipush 16, 2) := by decide +kernel
theorem d_Reader_takeSamples_16 : decode c_Reader_takeSamples 16 = .ok (.istore_n 3, 1) := by decide +kernel
theorem d_Reader_takeSamples_17 : decode c_Reader_takeSamples 17 = .ok (.iconst 0, 1) := by decide +kernel
theorem d_Reader_takeSamples_18 : decode c_Reader_takeSamples 18 = .ok (.istore 4, 2) := by decide +kernel
theorem d_Reader_takeSamples_20 : decode c_Reader_takeSamples 20 = .ok (.iconst 0, 1) := by decide +kernel
theorem d_Reader_takeSamples_21 : decode c_Reader_takeSamples 21 = .ok (.istore 5, 2) := by decide +kernel
theorem d_Reader_takeSamples_23 : decode c_Reader_takeSamples 23 = .ok (.iload 5, 2) := by decide +kernel
theorem d_Reader_takeSamples_25 : decode c_Reader_takeSamples 25 = .ok (.aload_n 1, 1) := by decide +kernel
theorem d_Reader_takeSamples_26 : decode c_Reader_takeSamples 26 = .ok (.getfield 86, 3) := by decide +kernel
theorem d_Reader_takeSamples_29 : decode c_Reader_takeSamples 29 = .ok (.iload_n 2, 1) := by decide +kernel
theorem d_Reader_takeSamples_30 : decode c_Reader_takeSamples 30 = .ok (.iaload, 1) := by decide +kernel
theorem d_Reader_takeSamples_31 : decode c_Reader_takeSamples 31 = .ok (.if_icmp .ge 79, 3) := by decide +kernel
theorem d_Reader_takeSamples_34 : decode c_Reader_takeSamples 34 = .ok (.iconst 0, 1) := by decide +kernel
theorem d_Reader_takeSamples_35 : decode c_Reader_takeSamples 35 = .ok (.istore 6, 2) := by decide +kernel
theorem d_Reader_takeSamples_37 : decode c_Reader_takeSamples 37 = .ok (.iconst 0, 1) := by decide +kernel
theorem d_Reader_takeSamples_38 : decode c_Reader_takeSamples 38 = .ok (.istore 7, 2) := by decide +kernel
theorem d_Reader_takeSamples_40 : decode c_Reader_takeSamples 40 = .ok (.iload 7, 2) := by decide +kernel
theorem d_Reader_takeSamples_42 : decode c_Reader_takeSamples 42 = .ok (.aload_n 1, 1) := by decide +kernel
theorem d_Reader_takeSamples_43 : decode c_Reader_takeSamples 43 = .ok (.getfield 89, 3) := by decide +kernel
theorem d_Reader_takeSamples_46 : decode c_Reader_takeSamples 46 = .ok (.iload_n 2, 1) := by decide +kernel
theorem d_Reader_takeSamples_47 : decode c_Reader_takeSamples 47 = .ok (.iaload, 1) := by decide +kernel
theorem d_Reader_takeSamples_48 : decode c_Reader_takeSamples 48 = .ok (.if_icmp .ge 34, 3) := by decide +kernel
theorem d_Reader_takeSamples_51 : decode c_Reader_takeSamples 51 = .ok (.iload 6, 2) := by decide +kernel
theorem d_Reader_takeSamples_53 : decode c_Reader_takeSamples 53 = .ok (.aload_n 0, 1) := by decide +kernel
theorem d_Reader_takeSamples_54 : decode c_Reader_takeSamples 54 = .ok (.getfield 9, 3) := by decide +kernel
theorem d_Reader_takeSamples_57 : decode c_Reader_takeSamples 57 = .ok (.iload 6, 2) := by decide +kernel
theorem d_Reader_takeSamples_59 : decode c_Reader_takeSamples 59 = .ok (.iload 4, 2) := by decide +kernel
theorem d_Reader_takeSamples_61 : decode c_Reader_takeSamples 61 = .ok (.iload 7, 2) := by decide +kernel
theorem d_Reader_takeSamples_63 : decode c_Reader_takeSamples 63 = .ok (.iload_n 3, 1) := by decide +kernel
theorem d_Reader_takeSamples_64 : decode c_Reader_takeSamples 64 = .ok (.invokestatic 92, 3) := by decide +kernel
theorem d_Reader_takeSamples_67 : decode c_Reader_takeSamples 67 = .ok (.invokevirtual 54, 3) := by decide +kernel
theorem d_Reader_takeSamples_70 : decode c_Reader_takeSamples 70 = .ok (.iload 7, 2) := by decide +kernel
theorem d_Reader_takeSamples_72 : decode c_Reader_takeSamples 72 = .ok (.ishl, 1) := by decide +kernel
theorem d_Reader_takeSamples_73 : decode c_Reader_takeSamples 73 = .ok (.ior, 1) := by decide +kernel
theorem d_Reader_takeSamples_74 : decode c_Reader_takeSamples 74 = .ok (.istore 6, 2) := by decide +kernel
theorem d_Reader_takeSamples_76 : decode c_Reader_takeSamples 76 = .ok (.iinc 7 1, 3) := by decide +kernel
theorem d_Reader_takeSamples_79 : decode c_Reader_takeSamples 79 = .ok (.goto (-39), 3) := by decide +kernel
theorem d_Reader_takeSamples_82 : decode c_Reader_takeSamples 82 = .ok (.aload_n 1, 1) := by decide +kernel
theorem d_Reader_takeSamples_83 : decode c_Reader_takeSamples 83 = .ok (.iload_n 2, 1) := by decide +kernel
theorem d_Reader_takeSamples_84 : decode c_Reader_takeSamples 84 = .ok (.iload 5, 2) := by decide +kernel
theorem d_Reader_takeSamples_86 : decode c_Reader_takeSamples 86 = .ok (.iload 6, 2) := by decide +kernel
theorem d_Reader_takeSamples_88 : decode c_Reader_takeSamples 88 = .ok (.aload_n 1, 1) := by decide +kernel
theorem d_Reader_takeSamples_89 : decode c_Reader_takeSamples 89 = .ok (.iload_n 2, 1) := by decide +kernel
theorem d_Reader_takeSamples_90 : decode c_Reader_takeSamples 90 = .ok (.iload 5, 2) := by decide +kernel
theorem d_Reader_takeSamples_92 : decode c_Reader_takeSamples 92 = .ok (.invokevirtual 96, 3) := by decide +kernel
theorem d_Reader_takeSamples_95 : decode c_Reader_takeSamples 95 = .ok (.ixor, 1) := by decide +kernel
theorem d_Reader_takeSamples_96 : decode c_Reader_takeSamples 96 = .ok (.invokevirtual 99, 3) := by decide +kernel
theorem d_Reader_takeSamples_99 : decode c_Reader_takeSamples 99 = .ok (.pop, 1) := by decide +kernel
theorem d_Reader_takeSamples_100 : decode c_Reader_takeSamples 100 = .ok (.iload 6, 2) := by decide +kernel
theorem d_Reader_takeSamples_102 : decode c_Reader_takeSamples 102 = .ok (.istore 4, 2) := by decide +kernel
theorem d_Reader_takeSamples_104 : decode c_Reader_takeSamples 104 = .ok (.iinc 5 1, 3) := by decide +kernel
theorem d_Reader_takeSamples_107 : decode c_Reader_takeSamples 107 = .ok (.goto (-84), 3) := by decide +kernel
theorem d_Reader_takeSamples_110 : decode c_Reader_takeSamples 110 = .ok (.return_, 1) := by decide +kernel
abbrev ws_Reader_turnRun : List Cond := .code y_Reader_turnRun c_Reader_turnRun 6 none :: tb
theorem hd_Reader_turnRun : y_Reader_turnRun.cls = R_Reader ∧ y_Reader_turnRun.cls ≠ "java/lang/invoke/MethodHandle" ∧ y_Reader_turnRun.cls ≠ "java/lang/invoke/VarHandle" ∧ (parseMethodDescriptor y_Reader_turnRun.desc).map (fun d => d.parameters.length) = some 4 := by decide +kernel
theorem d_Reader_turnRun_0 : decode c_Reader_turnRun 0 = .ok (.aload_n 0, 1) := by decide +kernel
theorem d_Reader_turnRun_1 : decode c_Reader_turnRun 1 = .ok (.getfield 36, 3) := by decide +kernel
theorem d_Reader_turnRun_4 : decode c_Reader_turnRun 4 = .ok (.ifCond .ne 4, 3) := by decide +kernel
theorem d_Reader_turnRun_7 : decode c_Reader_turnRun 7 = .ok (.return_, 1) := by decide +kernel
theorem d_Reader_turnRun_8 : decode c_Reader_turnRun 8 = .ok (.iload_n 3, 1) := by decide +kernel
theorem d_Reader_turnRun_9 : decode c_Reader_turnRun 9 = .ok (.istore 5, 2) := by decide +kernel
theorem d_Reader_turnRun_11 : decode c_Reader_turnRun 11 = .ok (.iload 5, 2) := by decide +kernel
theorem d_Reader_turnRun_13 : decode c_Reader_turnRun 13 = .ok (.iload_n 3, 1) := by decide +kernel
theorem d_Reader_turnRun_14 : decode c_Reader_turnRun 14 = .ok (.iload 4, 2) := by decide +kernel
theorem d_Reader_turnRun_16 : decode c_Reader_turnRun 16 = .ok (.iadd, 1) := by decide +kernel
theorem d_Reader_turnRun_17 : decode c_Reader_turnRun 17 = .ok (.if_icmp .ge 28, 3) := by decide +kernel
theorem d_Reader_turnRun_20 : decode c_Reader_turnRun 20 = .ok (.aload_n 1, 1) := by decide +kernel
theorem d_Reader_turnRun_21 : decode c_Reader_turnRun 21 = .ok (.iload_n 2, 1) := by decide +kernel
theorem d_Reader_turnRun_22 : decode c_Reader_turnRun 22 = .ok (.iload 5, 2) := by decide +kernel
theorem d_Reader_turnRun_24 : decode c_Reader_turnRun 24 = .ok (.aload_n 0, 1) := by decide +kernel
theorem d_Reader_turnRun_25 : decode c_Reader_turnRun 25 = .ok (.getfield 36, 3) := by decide +kernel
theorem d_Reader_turnRun_28 : decode c_Reader_turnRun 28 = .ok (.irem, 1) := by decide +kernel
theorem d_Reader_turnRun_29 : decode c_Reader_turnRun 29 = .ok (.iload 5, 2) := by decide +kernel
theorem d_Reader_turnRun_31 : decode c_Reader_turnRun 31 = .ok (.aload_n 0, 1) := by decide +kernel
theorem d_Reader_turnRun_32 : decode c_Reader_turnRun 32 = .ok (.getfield 36, 3) := by decide +kernel
theorem d_Reader_turnRun_35 : decode c_Reader_turnRun 35 = .ok (.idiv, 1) := by decide +kernel
theorem d_Reader_turnRun_36 : decode c_Reader_turnRun 36 = .ok (.invokevirtual 107, 3) := by decide +kernel
theorem d_Reader_turnRun_39 : decode c_Reader_turnRun 39 = .ok (.iinc 5 1, 3) := by decide +kernel
theorem d_Reader_turnRun_42 : decode c_Reader_turnRun 42 = .ok (.goto (-31), 3) := by decide +kernel
theorem d_Reader_turnRun_45 : decode c_Reader_turnRun 45 = .ok (.return_, 1) := by decide +kernel
abbrev ws_Reader_takeRuns : List Cond := .code y_Reader_takeRuns c_Reader_takeRuns 8 (some .boolean) :: tb
theorem hd_Reader_takeRuns : y_Reader_takeRuns.cls = R_Reader ∧ y_Reader_takeRuns.cls ≠ "java/lang/invoke/MethodHandle" ∧ y_Reader_takeRuns.cls ≠ "java/lang/invoke/VarHandle" ∧ (parseMethodDescriptor y_Reader_takeRuns.desc).map (fun d => d.parameters.length) = some 2 := by decide +kernel
theorem d_Reader_takeRuns_0 : decode c_Reader_takeRuns 0 = .ok (.aload_n 0, 1) := by decide +kernel
theorem d_Reader_takeRuns_1 : decode c_Reader_takeRuns 1 = .ok (.getfield 36, 3) := by decide +kernel
theorem d_Reader_takeRuns_4 : decode c_Reader_takeRuns 4 = .ok (.aload_n 0, 1) := by decide +kernel
theorem d_Reader_takeRuns_5 : decode c_Reader_takeRuns 5 = .ok (.getfield 32, 3) := by decide +kernel
theorem d_Reader_takeRuns_8 : decode c_Reader_takeRuns 8 = .ok (.imul, 1) := by decide +kernel
theorem d_Reader_takeRuns_9 : decode c_Reader_takeRuns 9 = .ok (.istore_n 3, 1) := by decide +kernel
theorem d_Reader_takeRuns_10 : decode c_Reader_takeRuns 10 = .ok (.iconst 0, 1) := by decide +kernel
theorem d_Reader_takeRuns_11 : decode c_Reader_takeRuns 11 = .ok (.istore 4, 2) := by decide +kernel
theorem d_Reader_takeRuns_13 : decode c_Reader_takeRuns 13 = .ok (.iconst 0, 1) := by decide +kernel
theorem d_Reader_takeRuns_14 : decode c_Reader_takeRuns 14 = .ok (.istore 5, 2) := by decide +kernel
theorem d_Reader_takeRuns_16 : decode c_Reader_takeRuns 16 = .ok (.iconst 0, 1) := by decide +kernel
theorem d_Reader_takeRuns_17 : decode c_Reader_takeRuns 17 = .ok (.istore 6, 2) := by decide +kernel
theorem d_Reader_takeRuns_19 : decode c_Reader_takeRuns 19 = .ok (.iload 6, 2) := by decide +kernel
theorem d_Reader_takeRuns_21 : decode c_Reader_takeRuns 21 = .ok (.aload_n 0, 1) := by decide +kernel
theorem d_Reader_takeRuns_22 : decode c_Reader_takeRuns 22 = .ok (.getfield 32, 3) := by decide +kernel
theorem d_Reader_takeRuns_25 : decode c_Reader_takeRuns 25 = .ok (.if_icmp .ge 24, 3) := by decide +kernel
theorem d_Reader_takeRuns_28 : decode c_Reader_takeRuns 28 = .ok (.aload_n 1, 1) := by decide +kernel
theorem d_Reader_takeRuns_29 : decode c_Reader_takeRuns 29 = .ok (.iload_n 2, 1) := by decide +kernel
theorem d_Reader_takeRuns_30 : decode c_Reader_takeRuns 30 = .ok (.iload 6, 2) := by decide +kernel
theorem d_Reader_takeRuns_32 : decode c_Reader_takeRuns 32 = .ok (.aload_n 1, 1) := by decide +kernel
theorem d_Reader_takeRuns_33 : decode c_Reader_takeRuns 33 = .ok (.iload_n 2, 1) := by decide +kernel
theorem d_Reader_takeRuns_34 : decode c_Reader_takeRuns 34 = .ok (.iload 6, 2) := by decide +kernel
theorem d_Reader_takeRuns_36 : decode c_Reader_takeRuns 36 = .ok (.invokevirtual 96, 3) := by decide +kernel
theorem d_Reader_takeRuns_39 : decode c_Reader_takeRuns 39 = .ok (.invokevirtual 99, 3) := by decide +kernel
theorem d_Reader_takeRuns_42 : decode c_Reader_takeRuns 42 = .ok (.pop, 1) := by decide +kernel
theorem d_Reader_takeRuns_43 : decode c_Reader_takeRuns 43 = .ok (.iinc 6 1, 3) := by decide +kernel
theorem d_Reader_takeRuns_46 : decode c_Reader_takeRuns 46 = .ok (.goto (-27), 3) := by decide +kernel
theorem d_Reader_takeRuns_49 : decode c_Reader_takeRuns 49 = .ok (.iconst 0, 1) := by decide +kernel
theorem d_Reader_takeRuns_50 : decode c_Reader_takeRuns 50 = .ok (.istore 6, 2) := by decide +kernel
theorem d_Reader_takeRuns_52 : decode c_Reader_takeRuns 52 = .ok (.iload 6, 2) := by decide +kernel
theorem d_Reader_takeRuns_54 : decode c_Reader_takeRuns 54 = .ok (.sipush 24001, 3) := by decide +kernel
theorem d_Reader_takeRuns_57 : decode c_Reader_takeRuns 57 = .ok (.if_icmp .ge 86, 3) := by decide +kernel
theorem d_Reader_takeRuns_60 : decode c_Reader_takeRuns 60 = .ok (.iload 4, 2) := by decide +kernel
theorem d_Reader_takeRuns_62 : decode c_Reader_takeRuns 62 = .ok (.iload_n 3, 1) := by decide +kernel
theorem d_Reader_takeRuns_63 : decode c_Reader_takeRuns 63 = .ok (.if_icmp .ge 80, 3) := by decide +kernel
theorem d_Reader_takeRuns_66 : decode c_Reader_takeRuns 66 = .ok (.aload_n 0, 1) := by decide +kernel
theorem d_Reader_takeRuns_67 : decode c_Reader_takeRuns 67 = .ok (.getfield 9, 3) := by decide +kernel
theorem d_Reader_takeRuns_70 : decode c_Reader_takeRuns 70 = .ok (.invokevirtual 24, 3) := by decide +kernel
theorem d_Reader_takeRuns_73 : decode c_Reader_takeRuns 73 = .ok (.istore 7, 2) := by decide +kernel
theorem d_Reader_takeRuns_75 : decode c_Reader_takeRuns 75 = .ok (.iload 7, 2) := by decide +kernel
theorem d_Reader_takeRuns_77 : decode c_Reader_takeRuns 77 = .ok (.iconst (-1), 1) := by decide +kernel
theorem d_Reader_takeRuns_78 : decode c_Reader_takeRuns 78 = .ok (.if_icmp .ne 10, 3) := by decide +kernel
theorem d_Reader_takeRuns_81 : decode c_Reader_takeRuns 81 = .ok (.aload_n 0, 1) := by decide +kernel
theorem d_Reader_takeRuns_82 : decode c_Reader_takeRuns 82 = .ok (.bipush 7, 2) := by decide +kernel
theorem d_Reader_takeRuns_84 : decode c_Reader_takeRuns 84 = .ok (.invokevirtual 28, 3) := by decide +kernel
theorem d_Reader_takeRuns_87 : decode c_Reader_takeRuns 87 = .ok (.ireturn, 1) := by decide +kernel
theorem d_Reader_takeRuns_88 : decode c_Reader_takeRuns 88 = .ok (.iload 7, 2) := by decide +kernel
theorem d_Reader_takeRuns_90 : decode c_Reader_takeRuns 90 = .ok (.iload_n 3, 1) := by decide +kernel
theorem d_Reader_takeRuns_91 : decode c_Reader_takeRuns 91 = .ok (.iload 4, 2) := by decide +kernel
theorem d_Reader_takeRuns_93 : decode c_Reader_takeRuns 93 = .ok (.isub, 1) := by decide +kernel
theorem d_Reader_takeRuns_94 : decode c_Reader_takeRuns 94 = .ok (.if_icmp .le 9, 3) := by decide +kernel
theorem d_Reader_takeRuns_97 : decode c_Reader_takeRuns 97 = .ok (.aload_n 0, 1) := by decide +kernel
theorem d_Reader_takeRuns_98 : decode c_Reader_takeRuns 98 = .ok (.iconst 5, 1) := by decide +kernel
theorem d_Reader_takeRuns_99 : decode c_Reader_takeRuns 99 = .ok (.invokevirtual 28, 3) := by decide +kernel
theorem d_Reader_takeRuns_102 : decode c_Reader_takeRuns 102 = .ok (.ireturn, 1) := by decide +kernel
theorem d_Reader_takeRuns_103 : decode c_Reader_takeRuns 103 = .ok (.iload 5, 2) := by decide +kernel
theorem d_Reader_takeRuns_105 : decode c_Reader_takeRuns 105 = .ok (.ifCond .eq 13, 3) := by decide +kernel
theorem d_Reader_takeRuns_108 : decode c_Reader_takeRuns 108 = .ok (.aload_n 0, 1) := by decide +kernel
theorem d_Reader_takeRuns_109 : decode c_Reader_takeRuns 109 = .ok (.aload_n 1, 1) := by decide +kernel
theorem d_Reader_takeRuns_110 : decode c_Reader_takeRuns 110 = .ok (.iload_n 2, 1) := by decide +kernel
theorem d_Reader_takeRuns_111 : decode c_Reader_takeRuns 111 = .ok (.iload 4, 2) := by decide +kernel
theorem d_Reader_takeRuns_113 : decode c_Reader_takeRuns 113 = .ok (.iload 7, 2) := by decide +kernel
theorem d_Reader_takeRuns_115 : decode c_Reader_takeRuns 115 = .ok (.invokevirtual 103, 3) := by decide +kernel
theorem d_Reader_takeRuns_118 : decode c_Reader_takeRuns 118 = .ok (.iload 4, 2) := by decide +kernel
theorem d_Reader_takeRuns_120 : decode c_Reader_takeRuns 120 = .ok (.iload 7, 2) := by decide +kernel
theorem d_Reader_takeRuns_122 : decode c_Reader_takeRuns 122 = .ok (.iadd, 1) := by decide +kernel
theorem d_Reader_takeRuns_123 : decode c_Reader_takeRuns 123 = .ok (.istore 4, 2) := by decide +kernel
theorem d_Reader_takeRuns_125 : decode c_Reader_takeRuns 125 = .ok (.iload 5, 2) := by decide +kernel
theorem d_Reader_takeRuns_127 : decode c_Reader_takeRuns 127 = .ok (.ifCond .ne 7, 3) := by decide +kernel
theorem d_Reader_takeRuns_130 : decode c_Reader_takeRuns 130 = .ok (.iconst 1, 1) := by decide +kernel
theorem d_Reader_takeRuns_131 : decode c_Reader_takeRuns 131 = .ok (.goto 4, 3) := by decide +kernel
theorem d_Reader_takeRuns_134 : decode c_Reader_takeRuns 134 = .ok (.iconst 0, 1) := by decide +kernel
theorem d_Reader_takeRuns_135 : decode c_Reader_takeRuns 135 = .ok (.istore 5, 2) := by decide +kernel
theorem d_Reader_takeRuns_137 : decode c_Reader_takeRuns 137 = .ok (.iinc 6 1, 3) := by decide +kernel
theorem d_Reader_takeRuns_140 : decode c_Reader_takeRuns 140 = .ok (.goto (-88), 3) := by decide +kernel
theorem d_Reader_takeRuns_143 : decode c_Reader_takeRuns 143 = .ok (.iconst 1, 1) := by decide +kernel
theorem d_Reader_takeRuns_144 : decode c_Reader_takeRuns 144 = .ok (.ireturn, 1) := by decide +kernel
abbrev ws_Reader_takeSymbols : List Cond := .code y_Reader_takeSymbols c_Reader_takeSymbols 4 (some .boolean) :: tb
theorem hd_Reader_takeSymbols : y_Reader_takeSymbols.cls = R_Reader ∧ y_Reader_takeSymbols.cls ≠ "java/lang/invoke/MethodHandle" ∧ y_Reader_takeSymbols.cls ≠ "java/lang/invoke/VarHandle" ∧ (parseMethodDescriptor y_Reader_takeSymbols.desc).map (fun d => d.parameters.length) = some 1 := by decide +kernel
theorem d_Reader_takeSymbols_0 : decode c_Reader_takeSymbols 0 = .ok (.aload_n 0, 1) := by decide +kernel
theorem d_Reader_takeSymbols_1 : decode c_Reader_takeSymbols 1 = .ok (.getfield 9, 3) := by decide +kernel
theorem d_Reader_takeSymbols_4 : decode c_Reader_takeSymbols 4 = .ok (.invokevirtual 19, 3) := by decide +kernel
theorem d_Reader_takeSymbols_7 : decode c_Reader_takeSymbols 7 = .ok (.aload_n 0, 1) := by decide +kernel
theorem d_Reader_takeSymbols_8 : decode c_Reader_takeSymbols 8 = .ok (.getfield 9, 3) := by decide +kernel
theorem d_Reader_takeSymbols_11 : decode c_Reader_takeSymbols 11 = .ok (.invokevirtual 24, 3) := by decide +kernel
theorem d_Reader_takeSymbols_14 : decode c_Reader_takeSymbols 14 = .ok (.istore_n 2, 1) := by decide +kernel
theorem d_Reader_takeSymbols_15 : decode c_Reader_takeSymbols 15 = .ok (.iload_n 2, 1) := by decide +kernel
theorem d_Reader_takeSymbols_16 : decode c_Reader_takeSymbols 16 = .ok (.iconst (-1), 1) := by decide +kernel
theorem d_Reader_takeSymbols_17 : decode c_Reader_takeSymbols 17 = .ok (.if_icmp .ne 10, 3) := by decide +kernel
theorem d_Reader_takeSymbols_20 : decode c_Reader_takeSymbols 20 = .ok (.aload_n 0, 1) := by decide +kernel
theorem d_Reader_takeSymbols_21 : decode c_Reader_takeSymbols 21 = .ok (.bipush 7, 2) := by decide +kernel
theorem d_Reader_takeSymbols_23 : decode c_Reader_takeSymbols 23 = .ok (.invokevirtual 28, 3) := by decide +kernel
theorem d_Reader_takeSymbols_26 : decode c_Reader_takeSymbols 26 = .ok (.ireturn, 1) := by decide +kernel
theorem d_Reader_takeSymbols_27 : decode c_Reader_takeSymbols 27 = .ok (.iload_n 2, 1) := by decide +kernel
theorem d_Reader_takeSymbols_28 : decode c_Reader_takeSymbols 28 = .ok (.bipush 40, 2) := by decide +kernel
theorem d_Reader_takeSymbols_30 : decode c_Reader_takeSymbols 30 = .ok (.if_icmp .le 9, 3) := by decide +kernel
theorem d_Reader_takeSymbols_33 : decode c_Reader_takeSymbols 33 = .ok (.aload_n 0, 1) := by decide +kernel
theorem d_Reader_takeSymbols_34 : decode c_Reader_takeSymbols 34 = .ok (.iconst 0, 1) := by decide +kernel
theorem d_Reader_takeSymbols_35 : decode c_Reader_takeSymbols 35 = .ok (.invokevirtual 28, 3) := by decide +kernel
theorem d_Reader_takeSymbols_38 : decode c_Reader_takeSymbols 38 = .ok (.ireturn, 1) := by decide +kernel
theorem d_Reader_takeSymbols_39 : decode c_Reader_takeSymbols 39 = .ok (.aload_n 0, 1) := by decide +kernel
theorem d_Reader_takeSymbols_40 : decode c_Reader_takeSymbols 40 = .ok (.iconst 0, 1) := by decide +kernel
theorem d_Reader_takeSymbols_41 : decode c_Reader_takeSymbols 41 = .ok (.putfield 32, 3) := by decide +kernel
theorem d_Reader_takeSymbols_44 : decode c_Reader_takeSymbols 44 = .ok (.aload_n 0, 1) := by decide +kernel
theorem d_Reader_takeSymbols_45 : decode c_Reader_takeSymbols 45 = .ok (.iconst 0, 1) := by decide +kernel
theorem d_Reader_takeSymbols_46 : decode c_Reader_takeSymbols 46 = .ok (.putfield 36, 3) := by decide +kernel
theorem d_Reader_takeSymbols_49 : decode c_Reader_takeSymbols 49 = .ok (.iconst 0, 1) := by decide +kernel
theorem d_Reader_takeSymbols_50 : decode c_Reader_takeSymbols 50 = .ok (.istore_n 3, 1) := by decide +kernel
theorem d_Reader_takeSymbols_51 : decode c_Reader_takeSymbols 51 = .ok (.iload_n 3, 1) := by decide +kernel
theorem d_Reader_takeSymbols_52 : decode c_Reader_takeSymbols 52 = .ok (.iload_n 2, 1) := by decide +kernel
theorem d_Reader_takeSymbols_53 : decode c_Reader_takeSymbols 53 = .ok (.if_icmp .ge 55, 3) := by decide +kernel
theorem d_Reader_takeSymbols_56 : decode c_Reader_takeSymbols 56 = .ok (.aload_n 0, 1) := by decide +kernel
theorem d_Reader_takeSymbols_57 : decode c_Reader_takeSymbols 57 = .ok (.aload_n 1, 1) := by decide +kernel
theorem d_Reader_takeSymbols_58 : decode c_Reader_takeSymbols 58 = .ok (.invokevirtual 39, 3) := by decide +kernel
theorem d_Reader_takeSymbols_61 : decode c_Reader_takeSymbols 61 = .ok (.ifCond .eq 12, 3) := by decide +kernel
theorem d_Reader_takeSymbols_64 : decode c_Reader_takeSymbols 64 = .ok (.aload_n 0, 1) := by decide +kernel
theorem d_Reader_takeSymbols_65 : decode c_Reader_takeSymbols 65 = .ok (.aload_n 1, 1) := by decide +kernel
theorem d_Reader_takeSymbols_66 : decode c_Reader_takeSymbols 66 = .ok (.iload_n 3, 1) := by decide +kernel
theorem d_Reader_takeSymbols_67 : decode c_Reader_takeSymbols 67 = .ok (.invokevirtual 43, 3) := by decide +kernel
theorem d_Reader_takeSymbols_70 : decode c_Reader_takeSymbols 70 = .ok (.ifCond .ne 5, 3) := by decide +kernel
theorem d_Reader_takeSymbols_73 : decode c_Reader_takeSymbols 73 = .ok (.iconst 0, 1) := by decide +kernel
theorem d_Reader_takeSymbols_74 : decode c_Reader_takeSymbols 74 = .ok (.ireturn, 1) := by decide +kernel
theorem d_Reader_takeSymbols_75 : decode c_Reader_takeSymbols 75 = .ok (.aload_n 0, 1) := by decide +kernel
theorem d_Reader_takeSymbols_76 : decode c_Reader_takeSymbols 76 = .ok (.getfield 15, 3) := by decide +kernel
theorem d_Reader_takeSymbols_79 : decode c_Reader_takeSymbols 79 = .ok (.ifCond .ne 12, 3) := by decide +kernel
theorem d_Reader_takeSymbols_82 : decode c_Reader_takeSymbols 82 = .ok (.aload_n 0, 1) := by decide +kernel
theorem d_Reader_takeSymbols_83 : decode c_Reader_takeSymbols 83 = .ok (.aload_n 1, 1) := by decide +kernel
theorem d_Reader_takeSymbols_84 : decode c_Reader_takeSymbols 84 = .ok (.iload_n 3, 1) := by decide +kernel
theorem d_Reader_takeSymbols_85 : decode c_Reader_takeSymbols 85 = .ok (.invokevirtual 47, 3) := by decide +kernel
theorem d_Reader_takeSymbols_88 : decode c_Reader_takeSymbols 88 = .ok (.goto 14, 3) := by decide +kernel
theorem d_Reader_takeSymbols_91 : decode c_Reader_takeSymbols 91 = .ok (.aload_n 0, 1) := by decide +kernel
theorem d_Reader_takeSymbols_92 : decode c_Reader_takeSymbols 92 = .ok (.aload_n 1, 1) := by decide +kernel
theorem d_Reader_takeSymbols_93 : decode c_Reader_takeSymbols 93 = .ok (.iload_n 3, 1) := by decide +kernel
theorem d_Reader_takeSymbols_94 : decode c_Reader_takeSymbols 94 = .ok (.invokevirtual 51, 3) := by decide +kernel
theorem d_Reader_takeSymbols_97 : decode c_Reader_takeSymbols 97 = .ok (.ifCond .ne 5, 3) := by decide +kernel
theorem d_Reader_takeSymbols_100 : decode c_Reader_takeSymbols 100 = .ok (.iconst 0, 1) := by decide +kernel
theorem d_Reader_takeSymbols_101 : decode c_Reader_takeSymbols 101 = .ok (.ireturn, 1) := by decide +kernel
theorem d_Reader_takeSymbols_102 : decode c_Reader_takeSymbols 102 = .ok (.iinc 3 1, 3) := by decide +kernel
theorem d_Reader_takeSymbols_105 : decode c_Reader_takeSymbols 105 = .ok (.goto (-54), 3) := by decide +kernel
theorem d_Reader_takeSymbols_108 : decode c_Reader_takeSymbols 108 = .ok (.iload_n 2, 1) := by decide +kernel
theorem d_Reader_takeSymbols_109 : decode c_Reader_takeSymbols 109 = .ok (.ifCond .eq 22, 3) := by decide +kernel
theorem d_Reader_takeSymbols_112 : decode c_Reader_takeSymbols 112 = .ok (.aload_n 0, 1) := by decide +kernel
theorem d_Reader_takeSymbols_113 : decode c_Reader_takeSymbols 113 = .ok (.getfield 9, 3) := by decide +kernel
theorem d_Reader_takeSymbols_116 : decode c_Reader_takeSymbols 116 = .ok (.iconst (-1), 1) := by decide +kernel
theorem d_Reader_takeSymbols_117 : decode c_Reader_takeSymbols 117 = .ok (.invokevirtual 54, 3) := by decide +kernel
theorem d_Reader_takeSymbols_120 : decode c_Reader_takeSymbols 120 = .ok (.ifCond .eq 11, 3) := by decide +kernel
theorem d_Reader_takeSymbols_123 : decode c_Reader_takeSymbols 123 = .ok (.aload_n 0, 1) := by decide +kernel
theorem d_Reader_takeSymbols_124 : decode c_Reader_takeSymbols 124 = .ok (.iconst 0, 1) := by decide +kernel
theorem d_Reader_takeSymbols_125 : decode c_Reader_takeSymbols 125 = .ok (.invokevirtual 28, 3) := by decide +kernel
theorem d_Reader_takeSymbols_128 : decode c_Reader_takeSymbols 128 = .ok (.ifCond .eq 7, 3) := by decide +kernel
theorem d_Reader_takeSymbols_131 : decode c_Reader_takeSymbols 131 = .ok (.iconst 1, 1) := by decide +kernel
theorem d_Reader_takeSymbols_132 : decode c_Reader_takeSymbols 132 = .ok (.goto 4, 3) := by decide +kernel
theorem d_Reader_takeSymbols_135 : decode c_Reader_takeSymbols 135 = .ok (.iconst 0, 1) := by decide +kernel
theorem d_Reader_takeSymbols_136 : decode c_Reader_takeSymbols 136 = .ok (.ireturn, 1) := by decide +kernel
abbrev ws_Reader_takeExports : List Cond := .code y_Reader_takeExports c_Reader_takeExports 7 (some .boolean) :: tb
theorem hd_Reader_takeExports : y_Reader_takeExports.cls = R_Reader ∧ y_Reader_takeExports.cls ≠ "java/lang/invoke/MethodHandle" ∧ y_Reader_takeExports.cls ≠ "java/lang/invoke/VarHandle" ∧ (parseMethodDescriptor y_Reader_takeExports.desc).map (fun d => d.parameters.length) = some 1 := by decide +kernel
theorem d_Reader_takeExports_0 : decode c_Reader_takeExports 0 = .ok (.iconst 0, 1) := by decide +kernel
theorem d_Reader_takeExports_1 : decode c_Reader_takeExports 1 = .ok (.istore_n 2, 1) := by decide +kernel
theorem d_Reader_takeExports_2 : decode c_Reader_takeExports 2 = .ok (.iconst 0, 1) := by decide +kernel
theorem d_Reader_takeExports_3 : decode c_Reader_takeExports 3 = .ok (.istore_n 3, 1) := by decide +kernel
theorem d_Reader_takeExports_4 : decode c_Reader_takeExports 4 = .ok (.iconst 0, 1) := by decide +kernel
theorem d_Reader_takeExports_5 : decode c_Reader_takeExports 5 = .ok (.istore 4, 2) := by decide +kernel
theorem d_Reader_takeExports_7 : decode c_Reader_takeExports 7 = .ok (.iload 4, 2) := by decide +kernel
theorem d_Reader_takeExports_9 : decode c_Reader_takeExports 9 = .ok (.aload_n 1, 1) := by decide +kernel
theorem d_Reader_takeExports_10 : decode c_Reader_takeExports 10 = .ok (.getfield 58, 3) := by decide +kernel
theorem d_Reader_takeExports_13 : decode c_Reader_takeExports 13 = .ok (.if_icmp .gt 108, 3) := by decide +kernel
theorem d_Reader_takeExports_16 : decode c_Reader_takeExports 16 = .ok (.iload_n 3, 1) := by decide +kernel
theorem d_Reader_takeExports_17 : decode c_Reader_takeExports 17 = .ok (.aload_n 1, 1) := by decide +kernel
theorem d_Reader_takeExports_18 : decode c_Reader_takeExports 18 = .ok (.getfield 58, 3) := by decide +kernel
theorem d_Reader_takeExports_21 : decode c_Reader_takeExports 21 = .ok (.if_icmp .ge 100, 3) := by decide +kernel
theorem d_Reader_takeExports_24 : decode c_Reader_takeExports 24 = .ok (.aload_n 0, 1) := by decide +kernel
theorem d_Reader_takeExports_25 : decode c_Reader_takeExports 25 = .ok (.getfield 9, 3) := by decide +kernel
theorem d_Reader_takeExports_28 : decode c_Reader_takeExports 28 = .ok (.invokevirtual 24, 3) := by decide +kernel
theorem d_Reader_takeExports_31 : decode c_Reader_takeExports 31 = .ok (.istore 5, 2) := by decide +kernel
theorem d_Reader_takeExports_33 : decode c_Reader_takeExports 33 = .ok (.iload 5, 2) := by decide +kernel
theorem d_Reader_takeExports_35 : decode c_Reader_takeExports 35 = .ok (.iconst (-1), 1) := by decide +kernel
theorem d_Reader_takeExports_36 : decode c_Reader_takeExports 36 = .ok (.if_icmp .ne 10, 3) := by decide +kernel
theorem d_Reader_takeExports_39 : decode c_Reader_takeExports 39 = .ok (.aload_n 0, 1) := by decide +kernel
theorem d_Reader_takeExports_40 : decode c_Reader_takeExports 40 = .ok (.bipush 7, 2) := by decide +kernel
theorem d_Reader_takeExports_42 : decode c_Reader_takeExports 42 = .ok (.invokevirtual 28, 3) := by decide +kernel
theorem d_Reader_takeExports_45 : decode c_Reader_takeExports 45 = .ok (.ireturn, 1) := by decide +kernel
theorem d_Reader_takeExports_46 : decode c_Reader_takeExports 46 = .ok (.iload 5, 2) := by decide +kernel
theorem d_Reader_takeExports_48 : decode c_Reader_takeExports 48 = .ok (.aload_n 1, 1) := by decide +kernel
theorem d_Reader_takeExports_49 : decode c_Reader_takeExports 49 = .ok (.getfield 58, 3) := by decide +kernel
theorem d_Reader_takeExports_52 : decode c_Reader_takeExports 52 = .ok (.iload_n 3, 1) := by decide +kernel
theorem d_Reader_takeExports_53 : decode c_Reader_takeExports 53 = .ok (.isub, 1) := by decide +kernel
theorem d_Reader_takeExports_54 : decode c_Reader_takeExports 54 = .ok (.if_icmp .gt 13, 3) := by decide +kernel
theorem d_Reader_takeExports_57 : decode c_Reader_takeExports 57 = .ok (.iload 5, 2) := by decide +kernel
theorem d_Reader_takeExports_59 : decode c_Reader_takeExports 59 = .ok (.ifCond .ne 15, 3) := by decide +kernel
theorem d_Reader_takeExports_62 : decode c_Reader_takeExports 62 = .ok (.iload 4, 2) := by decide +kernel
theorem d_Reader_takeExports_64 : decode c_Reader_takeExports 64 = .ok (.ifCond .le 10, 3) := by decide +kernel
theorem d_Reader_takeExports_67 : decode c_Reader_takeExports 67 = .ok (.aload_n 0, 1) := by decide +kernel
theorem d_Reader_takeExports_68 : decode c_Reader_takeExports 68 = .ok (.bipush 6, 2) := by decide +kernel
theorem d_Reader_takeExports_70 : decode c_Reader_takeExports 70 = .ok (.invokevirtual 28, 3) := by decide +kernel
theorem d_Reader_takeExports_73 : decode c_Reader_takeExports 73 = .ok (.ireturn, 1) := by decide +kernel
theorem d_Reader_takeExports_74 : decode c_Reader_takeExports 74 = .ok (.iconst 0, 1) := by decide +kernel
theorem d_Reader_takeExports_75 : decode c_Reader_takeExports 75 = .ok (.istore 6, 2) := by decide +kernel
theorem d_Reader_takeExports_77 : decode c_Reader_takeExports 77 = .ok (.iload 6, 2) := by decide +kernel
theorem d_Reader_takeExports_79 : decode c_Reader_takeExports 79 = .ok (.iload 5, 2) := by decide +kernel
theorem d_Reader_takeExports_81 : decode c_Reader_takeExports 81 = .ok (.if_icmp .ge 19, 3) := by decide +kernel
theorem d_Reader_takeExports_84 : decode c_Reader_takeExports 84 = .ok (.aload_n 1, 1) := by decide +kernel
theorem d_Reader_takeExports_85 : decode c_Reader_takeExports 85 = .ok (.getfield 63, 3) := by decide +kernel
theorem d_Reader_takeExports_88 : decode c_Reader_takeExports 88 = .ok (.iload_n 3, 1) := by decide +kernel
theorem d_Reader_takeExports_89 : decode c_Reader_takeExports 89 = .ok (.iload 6, 2) := by decide +kernel
theorem d_Reader_takeExports_91 : decode c_Reader_takeExports 91 = .ok (.iadd, 1) := by decide +kernel
theorem d_Reader_takeExports_92 : decode c_Reader_takeExports 92 = .ok (.iload_n 2, 1) := by decide +kernel
theorem d_Reader_takeExports_93 : decode c_Reader_takeExports 93 = .ok (.bastore, 1) := by decide +kernel
theorem d_Reader_takeExports_94 : decode c_Reader_takeExports 94 = .ok (.iinc 6 1, 3) := by decide +kernel
theorem d_Reader_takeExports_97 : decode c_Reader_takeExports 97 = .ok (.goto (-20), 3) := by decide +kernel
theorem d_Reader_takeExports_100 : decode c_Reader_takeExports 100 = .ok (.iload_n 3, 1) := by decide +kernel
theorem d_Reader_takeExports_101 : decode c_Reader_takeExports 101 = .ok (.iload 5, 2) := by decide +kernel
theorem d_Reader_takeExports_103 : decode c_Reader_takeExports 103 = .ok (.iadd, 1) := by decide +kernel
theorem d_Reader_takeExports_104 : decode c_Reader_takeExports 104 = .ok (.istore_n 3, 1) := by decide +kernel
theorem d_Reader_takeExports_105 : decode c_Reader_takeExports 105 = .ok (.iload_n 2, 1) := by decide +kernel
theorem d_Reader_takeExports_106 : decode c_Reader_takeExports 106 = .ok (.ifCond .ne 7, 3) := by decide +kernel
theorem d_Reader_takeExports_109 : decode c_Reader_takeExports 109 = .ok (.iconst 1, 1) := by decide +kernel
theorem d_Reader_takeExports_110 : decode c_Reader_takeExports 110 = .ok (.goto 4, 3) := by decide +kernel
theorem d_Reader_takeExports_113 : decode c_Reader_takeExports 113 = .ok (.iconst 0, 1) := by decide +kernel
theorem d_Reader_takeExports_114 : decode c_Reader_takeExports 114 = .ok (.istore_n 2, 1) := by decide +kernel
theorem d_Reader_takeExports_115 : decode c_Reader_takeExports 115 = .ok (.iinc 4 1, 3) := by decide +kernel
theorem d_Reader_takeExports_118 : decode c_Reader_takeExports 118 = .ok (.goto (-111), 3) := by decide +kernel
theorem d_Reader_takeExports_121 : decode c_Reader_takeExports 121 = .ok (.iconst 1, 1) := by decide +kernel
theorem d_Reader_takeExports_122 : decode c_Reader_takeExports 122 = .ok (.ireturn, 1) := by decide +kernel
/-! SD_contextAt -/
def f_SD_contextAt (x0 : Int32) (x1 : Int32) (x2 : Int32) (x3 : Int32) : Option (Int32) := lt' (((x0 <<< ((1 : Int32) &&& 31)) >>> (x2 &&& 31)) &&& 1) <| fun x4_1 => lt' (((x1 <<< ((1 : Int32) &&& 31)) >>> (x2 &&& 31)) &&& 1) <| fun x5_2 => lt' ((x1 >>> (x2 &&& 31)) &&& 1) <| fun x6_3 => lt' ((x1 >>> ((x2 + 1) &&& 31)) &&& 1) <| fun x7_4 => some ((((x3 + (8 * x4_1)) + (4 * x5_2)) + (2 * x6_3)) + x7_4)
section
variable {p : Program} {l : Launch} {e : Env} {R : Room} {s : State} {m : MethodId} {args : Array Value} {below : List Frame} {meth : Method} {c : Code} {Q : State → Prop} {A : Nat → Prop}
set_option maxHeartbeats 4000000 in
set_option maxRecDepth 100000 in
theorem B_SD_contextAt {cells slots : Nat} {dC : Nat → ClassId} {dI : Nat → Nat → Nat} {cI cZ cJ : ClassId} {x0 : Int32} {x1 : Int32} {x2 : Int32} {x3 : Int32} {res : Int32} (C0 : cxt p c m s args R cells slots R_SD c_SD_contextAt tb 8 (dC, dI) vwCl (TYS cI cZ cJ) A 0 0)
    (hr54 : ∀ (H : Heap) (locs : List Loc) (ls : Array Slot) (v : Int32), va_P (dC, dI) vwCl ([] : va_W) H → va_D A ([] : va_W) → va_S A s.heap H locs → some v = some res → W p l e R s m args below meth c H locs cells slots Q (F0 m 54 ls [.int v]))
    {H : Heap} {locs : List Loc} {ls : Array Slot} (hP : va_P (dC, dI) vwCl ([] : va_W) H) (hD : va_D A ([] : va_W)) (hS : va_S A s.heap H locs) (hl : lv_has ls 8 [(0, .int x0), (1, .int x1), (2, .int x2), (3, .int x3)]) (hf : f_SD_contextAt x0 x1 x2 x3 = some res) : W p l e R s m args below meth c H locs cells slots Q (F0 m 0 ls []) := by
  obtain ⟨hx, hb, hml, hown, hts, hK, hA, hRf, hRl, hN, hRc⟩ := id C0
  rw [f_SD_contextAt] at hf
  refine lv_iload_n hx hb d_SD_contextAt_0 rfl (lv_at hl 0 rfl) ?_
  refine lv_iconst (v := 1) hx hb d_SD_contextAt_1 (by decide) ?_
  refine lv_ishl hx hb d_SD_contextAt_2 ?_
  refine lv_iload_n hx hb d_SD_contextAt_3 rfl (lv_at hl 2 rfl) ?_
  refine lv_ishr hx hb d_SD_contextAt_4 ?_
  refine lv_iconst (v := 1) hx hb d_SD_contextAt_5 (by decide) ?_
  refine lv_iand hx hb d_SD_contextAt_6 ?_
  obtain ⟨x4_1, ex4_1, hf⟩ := lt_ex hf
  try dsimp only at hf
  refine tp_i ex4_1 ?_
  refine lv_istore (lv' := [(4, .int x4_1), (0, .int x0), (1, .int x1), (2, .int x2), (3, .int x3)]) hx hb d_SD_contextAt_7 hl (by decide) rfl (fun ls hl => ?_)
  refine lv_iload_n hx hb d_SD_contextAt_9 rfl (lv_at hl 2 rfl) ?_
  refine lv_iconst (v := 1) hx hb d_SD_contextAt_10 (by decide) ?_
  refine lv_ishl hx hb d_SD_contextAt_11 ?_
  refine lv_iload_n hx hb d_SD_contextAt_12 rfl (lv_at hl 3 rfl) ?_
  refine lv_ishr hx hb d_SD_contextAt_13 ?_
  refine lv_iconst (v := 1) hx hb d_SD_contextAt_14 (by decide) ?_
  refine lv_iand hx hb d_SD_contextAt_15 ?_
  obtain ⟨x5_2, ex5_2, hf⟩ := lt_ex hf
  try dsimp only at hf
  refine tp_i ex5_2 ?_
  refine lv_istore (lv' := [(5, .int x5_2), (4, .int x4_1), (0, .int x0), (1, .int x1), (2, .int x2), (3, .int x3)]) hx hb d_SD_contextAt_16 hl (by decide) rfl (fun ls hl => ?_)
  refine lv_iload_n hx hb d_SD_contextAt_18 rfl (lv_at hl 3 rfl) ?_
  refine lv_iload_n hx hb d_SD_contextAt_19 rfl (lv_at hl 4 rfl) ?_
  refine lv_ishr hx hb d_SD_contextAt_20 ?_
  refine lv_iconst (v := 1) hx hb d_SD_contextAt_21 (by decide) ?_
  refine lv_iand hx hb d_SD_contextAt_22 ?_
  obtain ⟨x6_3, ex6_3, hf⟩ := lt_ex hf
  try dsimp only at hf
  refine tp_i ex6_3 ?_
  refine lv_istore (lv' := [(6, .int x6_3), (5, .int x5_2), (4, .int x4_1), (0, .int x0), (1, .int x1), (2, .int x2), (3, .int x3)]) hx hb d_SD_contextAt_23 hl (by decide) rfl (fun ls hl => ?_)
  refine lv_iload_n hx hb d_SD_contextAt_25 rfl (lv_at hl 4 rfl) ?_
  refine lv_iload_n hx hb d_SD_contextAt_26 rfl (lv_at hl 5 rfl) ?_
  refine lv_iconst (v := 1) hx hb d_SD_contextAt_27 (by decide) ?_
  refine lv_iadd hx hb d_SD_contextAt_28 ?_
  refine lv_ishr hx hb d_SD_contextAt_29 ?_
  refine lv_iconst (v := 1) hx hb d_SD_contextAt_30 (by decide) ?_
  refine lv_iand hx hb d_SD_contextAt_31 ?_
  obtain ⟨x7_4, ex7_4, hf⟩ := lt_ex hf
  try dsimp only at hf
  refine tp_i ex7_4 ?_
  refine lv_istore (lv' := [(7, .int x7_4), (6, .int x6_3), (5, .int x5_2), (4, .int x4_1), (0, .int x0), (1, .int x1), (2, .int x2), (3, .int x3)]) hx hb d_SD_contextAt_32 hl (by decide) rfl (fun ls hl => ?_)
  refine lv_iload_n hx hb d_SD_contextAt_34 rfl (lv_at hl 7 rfl) ?_
  refine lv_bipush (v := 8) hx hb d_SD_contextAt_35 (by decide) ?_
  refine lv_iload hx hb d_SD_contextAt_37 (lv_at hl 3 rfl) ?_
  refine lv_imul hx hb d_SD_contextAt_39 ?_
  refine lv_iadd hx hb d_SD_contextAt_40 ?_
  refine lv_iconst (v := 4) hx hb d_SD_contextAt_41 (by decide) ?_
  refine lv_iload hx hb d_SD_contextAt_42 (lv_at hl 2 rfl) ?_
  refine lv_imul hx hb d_SD_contextAt_44 ?_
  refine lv_iadd hx hb d_SD_contextAt_45 ?_
  refine lv_iconst (v := 2) hx hb d_SD_contextAt_46 (by decide) ?_
  refine lv_iload hx hb d_SD_contextAt_47 (lv_at hl 1 rfl) ?_
  refine lv_imul hx hb d_SD_contextAt_49 ?_
  refine lv_iadd hx hb d_SD_contextAt_50 ?_
  refine lv_iload hx hb d_SD_contextAt_51 (lv_at hl 0 rfl) ?_
  refine lv_iadd hx hb d_SD_contextAt_53 ?_
  exact hr54 _ _ _ ((((x3 + (8 * x4_1)) + (4 * x5_2)) + (2 * x6_3)) + x7_4) hP hD hS hf
end
set_option maxHeartbeats 4000000 in
set_option maxRecDepth 100000 in
theorem k_SD_contextAt (l : Launch) (dC : Nat → ClassId) (dI : Nat → Nat → Nat) (cI cZ cJ : ClassId) (sz : Nat) {x0 : Int32} {x1 : Int32} {x2 : Int32} {x3 : Int32} {r : Int32} (hf : f_SD_contextAt x0 x1 x2 x3 = some r) :
    Met l y_SD_contextAt ws_SD_contextAt ({ frames := 0, cells := 0, slots := 0, locals := 0 }) (va_Pc [.int x0, .int x1, .int x2, .int x3] (kP (dC, dI) vwCl (TYS cI cZ cJ) ([] : va_W) sz)) (va_Qi (fun (q : Int32) (_ : Unit) => q = r) (fun _ t => kQ (dC, dI) vwCl (TYS cI cZ cJ) ([] : va_W) sz ([] : va_W) t) (va_A ([] : va_W) sz)) 0 0 (va_A ([] : va_W) sz) := by
  refine Met.ofW (cc := c_SD_contextAt) (maxL := 8) (ret := (some .int)) (by decide) rfl ?_
  intro p e s m args below meth c s₁ B hml hv
  obtain ⟨rfl, hsz, hP, hK, hD0, hN⟩ := hv
  have hr := B.returns
  have hlocks := B.notSynchronized
  subst hsz
  have hD := hD0.self (sz := s.heap.size)
  have hl := lv_entry ([.int x0, .int x1, .int x2, .int x3]) (n := 8) (Nat.le_of_ble_eq_true rfl)
  rw [lg_entry_eq]
  generalize (lg_sl ([.int x0, .int x1, .int x2, .int x3]) ++ List.replicate (8 - (lg_sl ([.int x0, .int x1, .int x2, .int x3])).length) Slot.unset).toArray = ls at hl ⊢
  refine B_SD_contextAt (A := va_A ([] : va_W) s.heap.size) ⟨B.exec, B.bytes, hml, findClass_of_methodNamed B.named, fun w h => atoms_spec (ws := ws_SD_contextAt) B.pre w (List.mem_cons_of_mem _ h), hK, fun q h => Or.inr h, Nat.le_of_ble_eq_true rfl, Nat.le_of_ble_eq_true rfl, hN, Nat.le_of_ble_eq_true rfl, Nat.le_of_ble_eq_true rfl⟩ (fun H locs ls v hP hD hS hf => ?_) hP hD va_S.rf hl hf
  · cases hf
    exact W.iret B.exec B.bytes hr (fun t ht hW => ⟨⟨_, (), rfl, rfl, ⟨by rw [ht]; exact hP, va_K.moved hW.alike hK, hD⟩⟩, hS.F ht⟩) hS.2.2 d_SD_contextAt_54

/-! P_Reader_refuse -/
def f_P_Reader_refuse (rd : Rd) (x1 : Int32) : Option (Int32 × Rd) := lt' (Rd_s_wy rd x1) <| fun rd_1 => some (0, rd_1)
section
variable {p : Program} {l : Launch} {e : Env} {R : Room} {s : State} {m : MethodId} {args : Array Value} {below : List Frame} {meth : Method} {c : Code} {Q : State → Prop} {A : Nat → Prop}
set_option maxHeartbeats 4000000 in
set_option maxRecDepth 100000 in
theorem B_P_Reader_refuse {cells slots : Nat} {dC : Nat → ClassId} {dI : Nat → Nat → Nat} {cI cZ cJ : ClassId} {rd_a : Nat → Nat} {lk_pb : Nat} {rd : Rd} {x1 : Int32} {res : Int32 × Rd} (C0 : cxt p c m s args R cells slots R_Reader c_Reader_refuse tb 2 (dC, dI) vwCl (TYS cI cZ cJ) A 0 0)
    (hr6 : ∀ (H : Heap) (locs : List Loc) (ls : Array Slot) (v : Int32) (rd' : Rd), vp_nar .boolean v = v → va_P (dC, dI) vwCl (wRd cI cZ cJ rd_a lk_pb rd') H → va_D A (wRd cI cZ cJ rd_a lk_pb rd') → va_S A s.heap H locs → some (v, rd') = some res → W p l e R s m args below meth c H locs cells slots Q (F0 m 6 ls [.int v]))
    {H : Heap} {locs : List Loc} {ls : Array Slot} (hP : va_P (dC, dI) vwCl (wRd cI cZ cJ rd_a lk_pb rd) H) (hD : va_D A (wRd cI cZ cJ rd_a lk_pb rd)) (hS : va_S A s.heap H locs) (hl : lv_has ls 2 [(0, .ref (rd_a 0)), (1, .int x1)]) (hf : f_P_Reader_refuse rd x1 = some res) : W p l e R s m args below meth c H locs cells slots Q (F0 m 0 ls []) := by
  obtain ⟨hx, hb, hml, hown, hts, hK, hA, hRf, hRl, hN, hRc⟩ := id C0
  rw [f_P_Reader_refuse] at hf
  refine lv_aload_n hx hb d_Reader_refuse_0 rfl (lv_at hl 0 rfl) ?_
  refine lv_iload_n hx hb d_Reader_refuse_1 rfl (lv_at hl 1 rfl) ?_
  refine va_put (D := (dC, dI)) (ci := 5) (v := .int x1) (ty := .int) (C := R_Reader) (T := T_Reader) (N := 5) hx hb hts in_Reader ty_Reader tyok_Reader nm_Reader hown hK hP hD hS 0 rfl rfl 0 (by decide) (hts _ t_183) (fun _ h9 => h9) rfl (by decide +kernel) rfl rfl (Nat.le_of_ble_eq_true rfl) d_Reader_refuse_2 (fun H locs hP hD hS => ?_)
  obtain ⟨rd_1, erd_1, hf⟩ := lt_ex hf
  try dsimp only at hf
  have hP : va_P (dC, dI) vwCl (wRd cI cZ cJ rd_a lk_pb rd_1) H := by rw [erd_1]; exact hP
  have hD : va_D A (wRd cI cZ cJ rd_a lk_pb rd_1) := by rw [erd_1]; exact hD
  refine lv_iconst (v := 0) hx hb d_Reader_refuse_5 (by decide) ?_
  exact hr6 _ _ _ 0 rd_1 (by decide) hP hD hS hf
end
set_option maxHeartbeats 4000000 in
set_option maxRecDepth 100000 in
theorem k_P_Reader_refuse (l : Launch) (dC : Nat → ClassId) (dI : Nat → Nat → Nat) (cI cZ cJ : ClassId) (rd_a : Nat → Nat) (lk_pb : Nat) (sz : Nat) {rd : Rd} {x1 : Int32} {r : Int32} {rd' : Rd} (hf : f_P_Reader_refuse rd x1 = some (r, rd')) :
    Met l y_Reader_refuse ws_Reader_refuse ({ frames := 0, cells := 0, slots := 0, locals := 0 }) (va_Pc [.ref (rd_a 0), .int x1] (kP (dC, dI) vwCl (TYS cI cZ cJ) (wRd cI cZ cJ rd_a lk_pb rd) sz)) (va_Qi (fun (q : Int32) (_ : Unit) => q = r ∧ vp_nar .boolean r = r) (fun _ t => kQ (dC, dI) vwCl (TYS cI cZ cJ) (wRd cI cZ cJ rd_a lk_pb rd) sz (wRd cI cZ cJ rd_a lk_pb rd') t) (va_A (wRd cI cZ cJ rd_a lk_pb rd) sz)) 0 0 (va_A (wRd cI cZ cJ rd_a lk_pb rd) sz) := by
  refine Met.ofW (cc := c_Reader_refuse) (maxL := 2) (ret := (some .boolean)) (by decide) rfl ?_
  intro p e s m args below meth c s₁ B hml hv
  obtain ⟨rfl, hsz, hP, hK, hD0, hN⟩ := hv
  have hr := B.returns
  have hlocks := B.notSynchronized
  subst hsz
  have hD := hD0.self (sz := s.heap.size)
  have hl := lv_entry ([.ref (rd_a 0), .int x1]) (n := 2) (Nat.le_of_ble_eq_true rfl)
  rw [lg_entry_eq]
  generalize (lg_sl ([.ref (rd_a 0), .int x1]) ++ List.replicate (2 - (lg_sl ([.ref (rd_a 0), .int x1])).length) Slot.unset).toArray = ls at hl ⊢
  refine B_P_Reader_refuse (A := va_A (wRd cI cZ cJ rd_a lk_pb rd) s.heap.size) ⟨B.exec, B.bytes, hml, findClass_of_methodNamed B.named, fun w h => atoms_spec (ws := ws_Reader_refuse) B.pre w (List.mem_cons_of_mem _ h), hK, fun q h => Or.inr h, Nat.le_of_ble_eq_true rfl, Nat.le_of_ble_eq_true rfl, hN, Nat.le_of_ble_eq_true rfl, Nat.le_of_ble_eq_true rfl⟩ (fun H locs ls v rd'1 hz hP hD hS hf => ?_) hP hD va_S.rf hl hf
  · cases hf
    exact W.zret B.exec B.bytes hr (nz_n hz) (fun t ht hW => ⟨⟨_, (), rfl, ⟨rfl, hz⟩, ⟨by rw [ht]; exact hP, va_K.moved hW.alike hK, hD⟩⟩, hS.F ht⟩) hS.2.2 d_Reader_refuse_6

/-! P_Reader_takeHeight -/
def f_P_Reader_takeHeight (rd : Rd) (pb : Pb) (v : Br) : Option (Int32 × Rd × Pb × Br) := bd (f_P_Bits_takeNumber pb v) <| fun (r_1, pb_2, v_3) => (if r_1 = (-1) then bd (f_P_Reader_refuse rd 7) <| fun (r_19, rd_20) => gd (decide (vp_nar .boolean r_19 = r_19)) <| some (r_19, rd_20, pb_2, v_3) else lt' (Rd_s_h rd ((Rd_h rd) + (r_1 + 1))) <| fun rd_5 => (if (Rd_h rd_5) ≤ 16 then lt' (Rd_s_w rd_5 0) <| fun rd_8 => bd (f_P_PlainBits_takeBit pb_2 v_3 (-1)) <| fun (r_10, pb_11, v_12) => (if r_10 = 1 then some (1, rd_8, pb_11, v_12) else bd (f_P_Reader_refuse rd_8 1) <| fun (r_14, rd_15) => (if r_14 = 0 then some (0, rd_15, pb_11, v_12) else some (1, rd_15, pb_11, v_12))) else bd (f_P_Reader_refuse rd_5 1) <| fun (r_17, rd_18) => gd (decide (vp_nar .boolean r_17 = r_17)) <| some (r_17, rd_18, pb_2, v_3)))
section
variable {p : Program} {l : Launch} {e : Env} {R : Room} {s : State} {m : MethodId} {args : Array Value} {below : List Frame} {meth : Method} {c : Code} {Q : State → Prop} {A : Nat → Prop}
set_option maxHeartbeats 4000000 in
set_option maxRecDepth 100000 in
theorem B_P_Reader_takeHeight {cells slots : Nat} {dC : Nat → ClassId} {dI : Nat → Nat → Nat} {cI cZ cJ : ClassId} {rd_a : Nat → Nat} {pb_a : Nat → Nat} {v_a v_b : Nat} {lk_w : Nat} {rd : Rd} {pb : Pb} {v : Br} {res : Int32 × Rd × Pb × Br} (C0 : cxt p c m s args R cells slots R_Reader c_Reader_takeHeight tb 2 (dC, dI) vwCl (TYS cI cZ cJ) A 4 86)
    (hr19 : ∀ (H : Heap) (locs : List Loc) (ls : Array Slot) (v : Int32) (rd' : Rd) (pb' : Pb) (v' : Br), vp_nar .boolean v = v → va_P (dC, dI) vwCl (wRd cI cZ cJ rd_a (pb_a 0) rd' ++ wPb cI cZ cJ pb_a lk_w v_a pb' ++ wBr cI cZ cJ v_a v_b v') H → va_D A (wRd cI cZ cJ rd_a (pb_a 0) rd' ++ wPb cI cZ cJ pb_a lk_w v_a pb' ++ wBr cI cZ cJ v_a v_b v') → va_S A s.heap H locs → some (v, rd', pb', v') = some res → W p l e R s m args below meth c H locs cells slots Q (F0 m 19 ls [.int v]))
    (hr46 : ∀ (H : Heap) (locs : List Loc) (ls : Array Slot) (v : Int32) (rd' : Rd) (pb' : Pb) (v' : Br), vp_nar .boolean v = v → va_P (dC, dI) vwCl (wRd cI cZ cJ rd_a (pb_a 0) rd' ++ wPb cI cZ cJ pb_a lk_w v_a pb' ++ wBr cI cZ cJ v_a v_b v') H → va_D A (wRd cI cZ cJ rd_a (pb_a 0) rd' ++ wPb cI cZ cJ pb_a lk_w v_a pb' ++ wBr cI cZ cJ v_a v_b v') → va_S A s.heap H locs → some (v, rd', pb', v') = some res → W p l e R s m args below meth c H locs cells slots Q (F0 m 46 ls [.int v]))
    (hr77 : ∀ (H : Heap) (locs : List Loc) (ls : Array Slot) (v : Int32) (rd' : Rd) (pb' : Pb) (v' : Br), vp_nar .boolean v = v → va_P (dC, dI) vwCl (wRd cI cZ cJ rd_a (pb_a 0) rd' ++ wPb cI cZ cJ pb_a lk_w v_a pb' ++ wBr cI cZ cJ v_a v_b v') H → va_D A (wRd cI cZ cJ rd_a (pb_a 0) rd' ++ wPb cI cZ cJ pb_a lk_w v_a pb' ++ wBr cI cZ cJ v_a v_b v') → va_S A s.heap H locs → some (v, rd', pb', v') = some res → W p l e R s m args below meth c H locs cells slots Q (F0 m 77 ls [.int v]))
    {H : Heap} {locs : List Loc} {ls : Array Slot} (hP : va_P (dC, dI) vwCl (wRd cI cZ cJ rd_a (pb_a 0) rd ++ wPb cI cZ cJ pb_a lk_w v_a pb ++ wBr cI cZ cJ v_a v_b v) H) (hD : va_D A (wRd cI cZ cJ rd_a (pb_a 0) rd ++ wPb cI cZ cJ pb_a lk_w v_a pb ++ wBr cI cZ cJ v_a v_b v)) (hS : va_S A s.heap H locs) (hl : lv_has ls 2 [(0, .ref (rd_a 0))]) (hf : f_P_Reader_takeHeight rd pb v = some res) : W p l e R s m args below meth c H locs cells slots Q (F0 m 0 ls []) := by
  obtain ⟨hx, hb, hml, hown, hts, hK, hA, hRf, hRl, hN, hRc⟩ := id C0
  rw [f_P_Reader_takeHeight] at hf
  refine lv_aload_n hx hb d_Reader_takeHeight_0 rfl (lv_at hl 0 rfl) ?_
  refine va_get (D := (dC, dI)) (ci := 5) (v := .ref (pb_a 0)) (C := R_Reader) (T := T_Reader) (N := 5) hx hb hts in_Reader hown hK hP 0 rfl rfl 1 (by decide) (hts _ t_185) (fun _ h9 => h9) rfl d_Reader_takeHeight_1 ?_
  obtain ⟨⟨r_1, pb_2, v_3⟩, hf1, hf⟩ := bd_ex hf
  try dsimp only at hf
  have hPc := hP.sub (ws' := (wPb cI cZ cJ pb_a lk_w v_a pb ++ wBr cI cZ cJ v_a v_b v)) [1, 2, 3] rfl
  have hDc := hD.sub (ws' := (wPb cI cZ cJ pb_a lk_w v_a pb ++ wBr cI cZ cJ v_a v_b v)) [1, 2, 3] (by decide) rfl
  have hFc := va_free (wc := (wPb cI cZ cJ pb_a lk_w v_a pb ++ wBr cI cZ cJ v_a v_b v)) hD hS hA [1, 2, 3] rfl
  refine va_calli (va_runU (As := []) (rest := []) ⟨hx, hb, hml, hown, hts⟩ (k_P_Bits_takeNumber l dC dI cI cZ cJ pb_a v_a v_b lk_w H.size hf1) (va_cwU 0 hts (gU t_463 t_465 t_467 t_464 t_57 t_468) rfl rfl rfl rfl hd_Bits_takeNumber.2 ⟨Nat.le_trans (Nat.le_of_ble_eq_true rfl) hRf, Nat.le_trans (Nat.le_of_ble_eq_true rfl) hRl⟩) ⟨kP_blind, va_recv hK hP (ci := 2) (q0 := 1) rfl rfl, kP_at hPc hK hDc hN⟩ rfl rfl hl.1 rfl (lv_room (Nat.le_of_ble_eq_true rfl)) d_Reader_takeHeight_4 hRc) hS (fun q _ h => hFc q h) hFc (fun r9 u t H1 locs ht hvm hw hB hz1 hk1 hS => ?_)
  rw [hw]
  obtain ⟨hP, hD⟩ := kQ_join (wr := (wRd cI cZ cJ rd_a (pb_a 0) rd)) (w1 := (wPb cI cZ cJ pb_a lk_w v_a pb_2 ++ wBr cI cZ cJ v_a v_b v_3)) hP hD [1, 2, 3] [0] rfl rfl (by decide) (by decide) ht hk1 hFc hB
  generalize H1 = H at hP hS ⊢
  have hP : va_P (dC, dI) vwCl (wRd cI cZ cJ rd_a (pb_a 0) rd ++ wPb cI cZ cJ pb_a lk_w v_a pb_2 ++ wBr cI cZ cJ v_a v_b v_3) H := hP.sub [0, 1, 2, 3] rfl
  have hD : va_D A (wRd cI cZ cJ rd_a (pb_a 0) rd ++ wPb cI cZ cJ pb_a lk_w v_a pb_2 ++ wBr cI cZ cJ v_a v_b v_3) := hD.sub [0, 1, 2, 3] (by decide) rfl
  refine lv_istore_n (lv' := [(1, .int r_1), (0, .ref (rd_a 0))]) hx hb d_Reader_takeHeight_7 rfl hl (by decide) rfl (fun ls hl => ?_)
  refine lv_iload_n hx hb d_Reader_takeHeight_8 rfl (lv_at hl 0 rfl) ?_
  refine lv_iconst (v := (-1)) hx hb d_Reader_takeHeight_9 (by decide) ?_
  refine lv_icmp_ne (tgt := 20) hx hb d_Reader_takeHeight_10 (by decide) (fun c_4 => ?_) (fun c_4 => ?_)
  · rw [if_neg c_4] at hf
    refine lv_aload_n hx hb d_Reader_takeHeight_20 rfl (lv_at hl 1 rfl) ?_
    refine lv_dup hx hb d_Reader_takeHeight_21 rfl ?_
    refine va_get (D := (dC, dI)) (ci := 5) (v := .int (Rd_h rd)) (C := R_Reader) (T := T_Reader) (N := 5) hx hb hts in_Reader hown hK hP 0 rfl rfl 3 (by decide) (hts _ t_187) (fun _ h9 => h9) rfl d_Reader_takeHeight_22 ?_
    refine lv_iload_n hx hb d_Reader_takeHeight_25 rfl (lv_at hl 0 rfl) ?_
    refine lv_iconst (v := 1) hx hb d_Reader_takeHeight_26 (by decide) ?_
    refine lv_iadd hx hb d_Reader_takeHeight_27 ?_
    refine lv_iadd hx hb d_Reader_takeHeight_28 ?_
    refine va_put (D := (dC, dI)) (ci := 5) (v := .int ((Rd_h rd) + (r_1 + 1))) (ty := .int) (C := R_Reader) (T := T_Reader) (N := 5) hx hb hts in_Reader ty_Reader tyok_Reader nm_Reader hown hK hP hD hS 0 rfl rfl 3 (by decide) (hts _ t_187) (fun _ h9 => h9) rfl (by decide +kernel) rfl rfl (Nat.le_of_ble_eq_true rfl) d_Reader_takeHeight_29 (fun H locs hP hD hS => ?_)
    obtain ⟨rd_5, erd_5, hf⟩ := lt_ex hf
    try dsimp only at hf
    have hP : va_P (dC, dI) vwCl (wRd cI cZ cJ rd_a (pb_a 0) rd_5 ++ wPb cI cZ cJ pb_a lk_w v_a pb_2 ++ wBr cI cZ cJ v_a v_b v_3) H := by rw [erd_5]; exact hP
    have hD : va_D A (wRd cI cZ cJ rd_a (pb_a 0) rd_5 ++ wPb cI cZ cJ pb_a lk_w v_a pb_2 ++ wBr cI cZ cJ v_a v_b v_3) := by rw [erd_5]; exact hD
    refine lv_aload_n hx hb d_Reader_takeHeight_32 rfl (lv_at hl 1 rfl) ?_
    refine va_get (D := (dC, dI)) (ci := 5) (v := .int (Rd_h rd_5)) (C := R_Reader) (T := T_Reader) (N := 5) hx hb hts in_Reader hown hK hP 0 rfl rfl 3 (by decide) (hts _ t_187) (fun _ h9 => h9) rfl d_Reader_takeHeight_33 ?_
    refine lv_bipush (v := 16) hx hb d_Reader_takeHeight_36 (by decide) ?_
    refine lv_icmp_le (tgt := 47) hx hb d_Reader_takeHeight_38 (by decide) (fun c_7 => ?_) (fun c_7 => ?_)
    · rw [if_pos c_7] at hf
      refine lv_aload_n hx hb d_Reader_takeHeight_47 rfl (lv_at hl 1 rfl) ?_
      refine lv_iconst (v := 0) hx hb d_Reader_takeHeight_48 (by decide) ?_
      refine va_put (D := (dC, dI)) (ci := 5) (v := .int 0) (ty := .int) (C := R_Reader) (T := T_Reader) (N := 5) hx hb hts in_Reader ty_Reader tyok_Reader nm_Reader hown hK hP hD hS 0 rfl rfl 4 (by decide) (hts _ t_188) (fun _ h9 => h9) rfl (by decide +kernel) rfl rfl (Nat.le_of_ble_eq_true rfl) d_Reader_takeHeight_49 (fun H locs hP hD hS => ?_)
      obtain ⟨rd_8, erd_8, hf⟩ := lt_ex hf
      try dsimp only at hf
      have hP : va_P (dC, dI) vwCl (wRd cI cZ cJ rd_a (pb_a 0) rd_8 ++ wPb cI cZ cJ pb_a lk_w v_a pb_2 ++ wBr cI cZ cJ v_a v_b v_3) H := by rw [erd_8]; exact hP
      have hD : va_D A (wRd cI cZ cJ rd_a (pb_a 0) rd_8 ++ wPb cI cZ cJ pb_a lk_w v_a pb_2 ++ wBr cI cZ cJ v_a v_b v_3) := by rw [erd_8]; exact hD
      refine lv_aload_n hx hb d_Reader_takeHeight_52 rfl (lv_at hl 1 rfl) ?_
      refine va_get (D := (dC, dI)) (ci := 5) (v := .ref (pb_a 0)) (C := R_Reader) (T := T_Reader) (N := 5) hx hb hts in_Reader hown hK hP 0 rfl rfl 1 (by decide) (hts _ t_185) (fun _ h9 => h9) rfl d_Reader_takeHeight_53 ?_
      refine lv_iconst (v := (-1)) hx hb d_Reader_takeHeight_56 (by decide) ?_
      obtain ⟨⟨r_10, pb_11, v_12⟩, hf1, hf⟩ := bd_ex hf
      try dsimp only at hf
      have hPc := hP.sub (ws' := (wPb cI cZ cJ pb_a lk_w v_a pb_2 ++ wBr cI cZ cJ v_a v_b v_3)) [1, 2, 3] rfl
      have hDc := hD.sub (ws' := (wPb cI cZ cJ pb_a lk_w v_a pb_2 ++ wBr cI cZ cJ v_a v_b v_3)) [1, 2, 3] (by decide) rfl
      have hFc := va_free (wc := (wPb cI cZ cJ pb_a lk_w v_a pb_2 ++ wBr cI cZ cJ v_a v_b v_3)) hD hS hA [1, 2, 3] rfl
      refine va_calli (va_runU (As := [.int (-1)]) (rest := []) ⟨hx, hb, hml, hown, hts⟩ (k_P_PlainBits_takeBit l dC dI cI cZ cJ pb_a v_a v_b lk_w H.size hf1) (va_cwA 1 hts (gU t_493 t_471 t_475 t_476 t_59 t_477) rfl rfl rfl (hN.2 _ (by decide +kernel)) hdx_Bits_takeBit ⟨Nat.le_trans (Nat.le_of_ble_eq_true rfl) hRf, Nat.le_trans (Nat.le_of_ble_eq_true rfl) hRl⟩) ⟨kP_blind, va_recv hK hP (ci := 2) (q0 := 1) rfl rfl, kP_at hPc hK hDc hN⟩ rfl rfl hl.1 rfl (lv_room (Nat.le_of_ble_eq_true rfl)) d_Reader_takeHeight_57 hRc) hS (fun q _ h => hFc q h) hFc (fun r9 u t H1 locs ht hvm hw hB hz1 hk1 hS => ?_)
      rw [hw]
      obtain ⟨hP, hD⟩ := kQ_join (wr := (wRd cI cZ cJ rd_a (pb_a 0) rd_8)) (w1 := (wPb cI cZ cJ pb_a lk_w v_a pb_11 ++ wBr cI cZ cJ v_a v_b v_12)) hP hD [1, 2, 3] [0] rfl rfl (by decide) (by decide) ht hk1 hFc hB
      generalize H1 = H at hP hS ⊢
      have hP : va_P (dC, dI) vwCl (wRd cI cZ cJ rd_a (pb_a 0) rd_8 ++ wPb cI cZ cJ pb_a lk_w v_a pb_11 ++ wBr cI cZ cJ v_a v_b v_12) H := hP.sub [0, 1, 2, 3] rfl
      have hD : va_D A (wRd cI cZ cJ rd_a (pb_a 0) rd_8 ++ wPb cI cZ cJ pb_a lk_w v_a pb_11 ++ wBr cI cZ cJ v_a v_b v_12) := hD.sub [0, 1, 2, 3] (by decide) rfl
      refine lv_iconst (v := 1) hx hb d_Reader_takeHeight_60 (by decide) ?_
      refine lv_icmp_eq (tgt := 72) hx hb d_Reader_takeHeight_61 (by decide) (fun c_13 => ?_) (fun c_13 => ?_)
      · rw [if_pos c_13] at hf
        refine lv_iconst (v := 1) hx hb d_Reader_takeHeight_72 (by decide) ?_
        refine lv_goto (tgt := 77) hx hb d_Reader_takeHeight_73 (by decide) ?_
        exact hr77 _ _ _ 1 rd_8 pb_11 v_12 (by decide) hP hD hS hf
      · rw [if_neg c_13] at hf
        refine lv_aload_n hx hb d_Reader_takeHeight_64 rfl (lv_at hl 1 rfl) ?_
        refine lv_iconst (v := 1) hx hb d_Reader_takeHeight_65 (by decide) ?_
        obtain ⟨⟨r_14, rd_15⟩, hf1, hf⟩ := bd_ex hf
        try dsimp only at hf
        have hPc := hP.sub (ws' := (wRd cI cZ cJ rd_a (pb_a 0) rd_8)) [0] rfl
        have hDc := hD.sub (ws' := (wRd cI cZ cJ rd_a (pb_a 0) rd_8)) [0] (by decide) rfl
        have hFc := va_free (wc := (wRd cI cZ cJ rd_a (pb_a 0) rd_8)) hD hS hA [0] rfl
        refine va_calli (va_runV (As := [.int 1]) (rest := []) ⟨hx, hb, hml, hown, hts⟩ (k_P_Reader_refuse l dC dI cI cZ cJ rd_a (pb_a 0) H.size hf1) (cwV 1 hts (gV t_485 t_487 t_12 t_61 t_488) rfl rfl rfl hd_Reader_refuse ⟨Nat.le_trans (Nat.le_of_ble_eq_true rfl) hRf, Nat.le_trans (Nat.le_of_ble_eq_true rfl) hRl⟩) ⟨kP_blind, va_recv hK hP (ci := 5) (q0 := 0) rfl rfl, kP_at hPc hK hDc hN⟩ rfl rfl hl.1 rfl (lv_room (Nat.le_of_ble_eq_true rfl)) d_Reader_takeHeight_66 hRc) hS (fun q _ h => hFc q h) hFc (fun r9 u t H1 locs ht hvm hw hB hz1 hk1 hS => ?_)
        rw [hw.1]
        obtain ⟨hP, hD⟩ := kQ_join (wr := (wPb cI cZ cJ pb_a lk_w v_a pb_11 ++ wBr cI cZ cJ v_a v_b v_12)) (w1 := (wRd cI cZ cJ rd_a (pb_a 0) rd_15)) hP hD [0] [1, 2, 3] rfl rfl (by decide) (by decide) ht hk1 hFc hB
        generalize H1 = H at hP hS ⊢
        have hP : va_P (dC, dI) vwCl (wRd cI cZ cJ rd_a (pb_a 0) rd_15 ++ wPb cI cZ cJ pb_a lk_w v_a pb_11 ++ wBr cI cZ cJ v_a v_b v_12) H := hP.sub [3, 0, 1, 2] rfl
        have hD : va_D A (wRd cI cZ cJ rd_a (pb_a 0) rd_15 ++ wPb cI cZ cJ pb_a lk_w v_a pb_11 ++ wBr cI cZ cJ v_a v_b v_12) := hD.sub [3, 0, 1, 2] (by decide) rfl
        refine lv_if_eq (tgt := 76) hx hb d_Reader_takeHeight_69 (by decide) (fun c_16 => ?_) (fun c_16 => ?_)
        · rw [if_pos c_16] at hf
          refine lv_iconst (v := 0) hx hb d_Reader_takeHeight_76 (by decide) ?_
          exact hr77 _ _ _ 0 rd_15 pb_11 v_12 (by decide) hP hD hS hf
        · rw [if_neg c_16] at hf
          refine lv_iconst (v := 1) hx hb d_Reader_takeHeight_72 (by decide) ?_
          refine lv_goto (tgt := 77) hx hb d_Reader_takeHeight_73 (by decide) ?_
          exact hr77 _ _ _ 1 rd_15 pb_11 v_12 (by decide) hP hD hS hf
    · rw [if_neg c_7] at hf
      refine lv_aload_n hx hb d_Reader_takeHeight_41 rfl (lv_at hl 1 rfl) ?_
      refine lv_iconst (v := 1) hx hb d_Reader_takeHeight_42 (by decide) ?_
      obtain ⟨⟨r_17, rd_18⟩, hf1, hf⟩ := bd_ex hf
      try dsimp only at hf
      have hPc := hP.sub (ws' := (wRd cI cZ cJ rd_a (pb_a 0) rd_5)) [0] rfl
      have hDc := hD.sub (ws' := (wRd cI cZ cJ rd_a (pb_a 0) rd_5)) [0] (by decide) rfl
      have hFc := va_free (wc := (wRd cI cZ cJ rd_a (pb_a 0) rd_5)) hD hS hA [0] rfl
      refine va_calli (va_runV (As := [.int 1]) (rest := []) ⟨hx, hb, hml, hown, hts⟩ (k_P_Reader_refuse l dC dI cI cZ cJ rd_a (pb_a 0) H.size hf1) (cwV 1 hts (gV t_485 t_487 t_12 t_61 t_488) rfl rfl rfl hd_Reader_refuse ⟨Nat.le_trans (Nat.le_of_ble_eq_true rfl) hRf, Nat.le_trans (Nat.le_of_ble_eq_true rfl) hRl⟩) ⟨kP_blind, va_recv hK hP (ci := 5) (q0 := 0) rfl rfl, kP_at hPc hK hDc hN⟩ rfl rfl hl.1 rfl (lv_room (Nat.le_of_ble_eq_true rfl)) d_Reader_takeHeight_43 hRc) hS (fun q _ h => hFc q h) hFc (fun r9 u t H1 locs ht hvm hw hB hz1 hk1 hS => ?_)
      rw [hw.1]
      obtain ⟨hP, hD⟩ := kQ_join (wr := (wPb cI cZ cJ pb_a lk_w v_a pb_2 ++ wBr cI cZ cJ v_a v_b v_3)) (w1 := (wRd cI cZ cJ rd_a (pb_a 0) rd_18)) hP hD [0] [1, 2, 3] rfl rfl (by decide) (by decide) ht hk1 hFc hB
      generalize H1 = H at hP hS ⊢
      have hP : va_P (dC, dI) vwCl (wRd cI cZ cJ rd_a (pb_a 0) rd_18 ++ wPb cI cZ cJ pb_a lk_w v_a pb_2 ++ wBr cI cZ cJ v_a v_b v_3) H := hP.sub [3, 0, 1, 2] rfl
      have hD : va_D A (wRd cI cZ cJ rd_a (pb_a 0) rd_18 ++ wPb cI cZ cJ pb_a lk_w v_a pb_2 ++ wBr cI cZ cJ v_a v_b v_3) := hD.sub [3, 0, 1, 2] (by decide) rfl
      obtain ⟨h_z, hf⟩ := gd_ex hf
      exact hr46 _ _ _ r_17  rd_18 pb_2 v_3 (of_decide_eq_true h_z) hP hD hS hf
  · rw [if_pos c_4] at hf
    refine lv_aload_n hx hb d_Reader_takeHeight_13 rfl (lv_at hl 1 rfl) ?_
    refine lv_bipush (v := 7) hx hb d_Reader_takeHeight_14 (by decide) ?_
    obtain ⟨⟨r_19, rd_20⟩, hf1, hf⟩ := bd_ex hf
    try dsimp only at hf
    have hPc := hP.sub (ws' := (wRd cI cZ cJ rd_a (pb_a 0) rd)) [0] rfl
    have hDc := hD.sub (ws' := (wRd cI cZ cJ rd_a (pb_a 0) rd)) [0] (by decide) rfl
    have hFc := va_free (wc := (wRd cI cZ cJ rd_a (pb_a 0) rd)) hD hS hA [0] rfl
    refine va_calli (va_runV (As := [.int 7]) (rest := []) ⟨hx, hb, hml, hown, hts⟩ (k_P_Reader_refuse l dC dI cI cZ cJ rd_a (pb_a 0) H.size hf1) (cwV 1 hts (gV t_485 t_487 t_12 t_61 t_488) rfl rfl rfl hd_Reader_refuse ⟨Nat.le_trans (Nat.le_of_ble_eq_true rfl) hRf, Nat.le_trans (Nat.le_of_ble_eq_true rfl) hRl⟩) ⟨kP_blind, va_recv hK hP (ci := 5) (q0 := 0) rfl rfl, kP_at hPc hK hDc hN⟩ rfl rfl hl.1 rfl (lv_room (Nat.le_of_ble_eq_true rfl)) d_Reader_takeHeight_16 hRc) hS (fun q _ h => hFc q h) hFc (fun r9 u t H1 locs ht hvm hw hB hz1 hk1 hS => ?_)
    rw [hw.1]
    obtain ⟨hP, hD⟩ := kQ_join (wr := (wPb cI cZ cJ pb_a lk_w v_a pb_2 ++ wBr cI cZ cJ v_a v_b v_3)) (w1 := (wRd cI cZ cJ rd_a (pb_a 0) rd_20)) hP hD [0] [1, 2, 3] rfl rfl (by decide) (by decide) ht hk1 hFc hB
    generalize H1 = H at hP hS ⊢
    have hP : va_P (dC, dI) vwCl (wRd cI cZ cJ rd_a (pb_a 0) rd_20 ++ wPb cI cZ cJ pb_a lk_w v_a pb_2 ++ wBr cI cZ cJ v_a v_b v_3) H := hP.sub [3, 0, 1, 2] rfl
    have hD : va_D A (wRd cI cZ cJ rd_a (pb_a 0) rd_20 ++ wPb cI cZ cJ pb_a lk_w v_a pb_2 ++ wBr cI cZ cJ v_a v_b v_3) := hD.sub [3, 0, 1, 2] (by decide) rfl
    obtain ⟨h_z, hf⟩ := gd_ex hf
    exact hr19 _ _ _ r_19  rd_20 pb_2 v_3 (of_decide_eq_true h_z) hP hD hS hf
end
set_option maxHeartbeats 4000000 in
set_option maxRecDepth 100000 in
theorem k_P_Reader_takeHeight (l : Launch) (dC : Nat → ClassId) (dI : Nat → Nat → Nat) (cI cZ cJ : ClassId) (rd_a : Nat → Nat) (pb_a : Nat → Nat) (v_a v_b : Nat) (lk_w : Nat) (sz : Nat) {rd : Rd} {pb : Pb} {v : Br} {r : Int32} {rd' : Rd} {pb' : Pb} {v' : Br} (hf : f_P_Reader_takeHeight rd pb v = some (r, rd', pb', v')) :
    Met l y_Reader_takeHeight ws_Reader_takeHeight ({ frames := 4, cells := 0, slots := 0, locals := 86 }) (va_Pc [.ref (rd_a 0)] (kP (dC, dI) vwCl (TYS cI cZ cJ) (wRd cI cZ cJ rd_a (pb_a 0) rd ++ wPb cI cZ cJ pb_a lk_w v_a pb ++ wBr cI cZ cJ v_a v_b v) sz)) (va_Qi (fun (q : Int32) (_ : Unit) => q = r ∧ vp_nar .boolean r = r) (fun _ t => kQ (dC, dI) vwCl (TYS cI cZ cJ) (wRd cI cZ cJ rd_a (pb_a 0) rd ++ wPb cI cZ cJ pb_a lk_w v_a pb ++ wBr cI cZ cJ v_a v_b v) sz (wRd cI cZ cJ rd_a (pb_a 0) rd' ++ wPb cI cZ cJ pb_a lk_w v_a pb' ++ wBr cI cZ cJ v_a v_b v') t) (va_A (wRd cI cZ cJ rd_a (pb_a 0) rd ++ wPb cI cZ cJ pb_a lk_w v_a pb ++ wBr cI cZ cJ v_a v_b v) sz)) 0 0 (va_A (wRd cI cZ cJ rd_a (pb_a 0) rd ++ wPb cI cZ cJ pb_a lk_w v_a pb ++ wBr cI cZ cJ v_a v_b v) sz) := by
  refine Met.ofW (cc := c_Reader_takeHeight) (maxL := 2) (ret := (some .boolean)) (by decide) rfl ?_
  intro p e s m args below meth c s₁ B hml hv
  obtain ⟨rfl, hsz, hP, hK, hD0, hN⟩ := hv
  have hr := B.returns
  have hlocks := B.notSynchronized
  subst hsz
  have hD := hD0.self (sz := s.heap.size)
  have hl := lv_entry ([.ref (rd_a 0)]) (n := 2) (Nat.le_of_ble_eq_true rfl)
  rw [lg_entry_eq]
  generalize (lg_sl ([.ref (rd_a 0)]) ++ List.replicate (2 - (lg_sl ([.ref (rd_a 0)])).length) Slot.unset).toArray = ls at hl ⊢
  refine B_P_Reader_takeHeight (A := va_A (wRd cI cZ cJ rd_a (pb_a 0) rd ++ wPb cI cZ cJ pb_a lk_w v_a pb ++ wBr cI cZ cJ v_a v_b v) s.heap.size) ⟨B.exec, B.bytes, hml, findClass_of_methodNamed B.named, fun w h => atoms_spec (ws := ws_Reader_takeHeight) B.pre w (List.mem_cons_of_mem _ h), hK, fun q h => Or.inr h, Nat.le_of_ble_eq_true rfl, Nat.le_of_ble_eq_true rfl, hN, Nat.le_of_ble_eq_true rfl, Nat.le_of_ble_eq_true rfl⟩ (fun H locs ls v rd'1 pb'1 v'1 hz hP hD hS hf => ?_) (fun H locs ls v rd'1 pb'1 v'1 hz hP hD hS hf => ?_) (fun H locs ls v rd'1 pb'1 v'1 hz hP hD hS hf => ?_) hP hD va_S.rf hl hf
  · cases hf
    exact W.zret B.exec B.bytes hr (nz_n hz) (fun t ht hW => ⟨⟨_, (), rfl, ⟨rfl, hz⟩, ⟨by rw [ht]; exact hP, va_K.moved hW.alike hK, hD⟩⟩, hS.F ht⟩) hS.2.2 d_Reader_takeHeight_19
  · cases hf
    exact W.zret B.exec B.bytes hr (nz_n hz) (fun t ht hW => ⟨⟨_, (), rfl, ⟨rfl, hz⟩, ⟨by rw [ht]; exact hP, va_K.moved hW.alike hK, hD⟩⟩, hS.F ht⟩) hS.2.2 d_Reader_takeHeight_46
  · cases hf
    exact W.zret B.exec B.bytes hr (nz_n hz) (fun t ht hW => ⟨⟨_, (), rfl, ⟨rfl, hz⟩, ⟨by rw [ht]; exact hP, va_K.moved hW.alike hK, hD⟩⟩, hS.F ht⟩) hS.2.2 d_Reader_takeHeight_77

/-! P_Reader_takeSize -/
def j_P_Reader_takeSize_83_15 (sy : Sy) (pb_10 : Pb) (v_11 : Br) (rd_13 : Rd) : Option (Int32 × Rd × Pb × Br × Sy) := bd (f_P_Reader_refuse rd_13 2) <| fun (r_16, rd_17) => gd (decide (vp_nar .boolean r_16 = r_16)) <| some (r_16, rd_17, pb_10, v_11, sy)
def j_P_Reader_takeSize_37_8 (sy : Sy) (rd_5 : Rd) (pb_6 : Pb) (v_7 : Br) : Option (Int32 × Rd × Pb × Br × Sy) := bd (f_P_Bits_takeNumber pb_6 v_7) <| fun (r_9, pb_10, v_11) => (if r_9 = (-1) then bd (f_P_Reader_refuse rd_5 7) <| fun (r_22, rd_23) => gd (decide (vp_nar .boolean r_22 = r_22)) <| some (r_22, rd_23, pb_10, v_11, sy) else lt' (Rd_s_w rd_5 ((Rd_w rd_5) + r_9)) <| fun rd_13 => (if (Rd_w rd_13) = 0 then j_P_Reader_takeSize_83_15 sy pb_10 v_11 rd_13 else (if (Rd_w rd_13) ≤ 16 then bd (f_Symbols_add sy (Rd_w rd_13) (Rd_h rd_13)) <| fun (r_20, sy_21) => some (1, rd_13, pb_10, v_11, sy_21) else j_P_Reader_takeSize_83_15 sy pb_10 v_11 rd_13)))
def j_P_Reader_takeSize_23_4 (rd : Rd) (sy : Sy) (pb_1 : Pb) (v_2 : Br) (z0_3 : Int32) : Option (Int32 × Rd × Pb × Br × Sy) := (if z0_3 = 0 then j_P_Reader_takeSize_37_8 sy rd pb_1 v_2 else bd (f_P_Reader_takeHeight rd pb_1 v_2) <| fun (r_25, rd_26, pb_27, v_28) => (if r_25 = 0 then some (0, rd_26, pb_27, v_28, sy) else j_P_Reader_takeSize_37_8 sy rd_26 pb_27 v_28))
def f_P_Reader_takeSize (rd : Rd) (pb : Pb) (v : Br) (sy : Sy) : Option (Int32 × Rd × Pb × Br × Sy) := (if (Sy_n sy) = 0 then j_P_Reader_takeSize_23_4 rd sy pb v 1 else bd (f_P_PlainBits_takeBit pb v (-1)) <| fun (r_31, pb_32, v_33) => (if r_31 = 0 then j_P_Reader_takeSize_23_4 rd sy pb_32 v_33 1 else j_P_Reader_takeSize_23_4 rd sy pb_32 v_33 0))
section
variable {p : Program} {l : Launch} {e : Env} {R : Room} {s : State} {m : MethodId} {args : Array Value} {below : List Frame} {meth : Method} {c : Code} {Q : State → Prop} {A : Nat → Prop}
set_option maxHeartbeats 4000000 in
set_option maxRecDepth 100000 in
theorem B_P_Reader_takeSize {cells slots : Nat} {dC : Nat → ClassId} {dI : Nat → Nat → Nat} {cI cZ cJ : ClassId} {rd_a : Nat → Nat} {pb_a : Nat → Nat} {v_a v_b : Nat} {sy_a : Nat → Nat} {lk_w : Nat} {rd : Rd} {pb : Pb} {v : Br} {sy : Sy} {res : Int32 × Rd × Pb × Br × Sy} (C0 : cxt p c m s args R cells slots R_Reader c_Reader_takeSize tb 4 (dC, dI) vwCl (TYS cI cZ cJ) A 5 107)
    (hr36 : ∀ (H : Heap) (locs : List Loc) (ls : Array Slot) (v : Int32) (rd' : Rd) (pb' : Pb) (v' : Br) (sy' : Sy), vp_nar .boolean v = v → va_P (dC, dI) vwCl (wRd cI cZ cJ rd_a (pb_a 0) rd' ++ wPb cI cZ cJ pb_a lk_w v_a pb' ++ wBr cI cZ cJ v_a v_b v' ++ wSy cI cZ cJ sy_a sy') H → va_D A (wRd cI cZ cJ rd_a (pb_a 0) rd' ++ wPb cI cZ cJ pb_a lk_w v_a pb' ++ wBr cI cZ cJ v_a v_b v' ++ wSy cI cZ cJ sy_a sy') → va_S A s.heap H locs → some (v, rd', pb', v', sy') = some res → W p l e R s m args below meth c H locs cells slots Q (F0 m 36 ls [.int v]))
    (hr56 : ∀ (H : Heap) (locs : List Loc) (ls : Array Slot) (v : Int32) (rd' : Rd) (pb' : Pb) (v' : Br) (sy' : Sy), vp_nar .boolean v = v → va_P (dC, dI) vwCl (wRd cI cZ cJ rd_a (pb_a 0) rd' ++ wPb cI cZ cJ pb_a lk_w v_a pb' ++ wBr cI cZ cJ v_a v_b v' ++ wSy cI cZ cJ sy_a sy') H → va_D A (wRd cI cZ cJ rd_a (pb_a 0) rd' ++ wPb cI cZ cJ pb_a lk_w v_a pb' ++ wBr cI cZ cJ v_a v_b v' ++ wSy cI cZ cJ sy_a sy') → va_S A s.heap H locs → some (v, rd', pb', v', sy') = some res → W p l e R s m args below meth c H locs cells slots Q (F0 m 56 ls [.int v]))
    (hr88 : ∀ (H : Heap) (locs : List Loc) (ls : Array Slot) (v : Int32) (rd' : Rd) (pb' : Pb) (v' : Br) (sy' : Sy), vp_nar .boolean v = v → va_P (dC, dI) vwCl (wRd cI cZ cJ rd_a (pb_a 0) rd' ++ wPb cI cZ cJ pb_a lk_w v_a pb' ++ wBr cI cZ cJ v_a v_b v' ++ wSy cI cZ cJ sy_a sy') H → va_D A (wRd cI cZ cJ rd_a (pb_a 0) rd' ++ wPb cI cZ cJ pb_a lk_w v_a pb' ++ wBr cI cZ cJ v_a v_b v' ++ wSy cI cZ cJ sy_a sy') → va_S A s.heap H locs → some (v, rd', pb', v', sy') = some res → W p l e R s m args below meth c H locs cells slots Q (F0 m 88 ls [.int v]))
    (hr103 : ∀ (H : Heap) (locs : List Loc) (ls : Array Slot) (v : Int32) (rd' : Rd) (pb' : Pb) (v' : Br) (sy' : Sy), vp_nar .boolean v = v → va_P (dC, dI) vwCl (wRd cI cZ cJ rd_a (pb_a 0) rd' ++ wPb cI cZ cJ pb_a lk_w v_a pb' ++ wBr cI cZ cJ v_a v_b v' ++ wSy cI cZ cJ sy_a sy') H → va_D A (wRd cI cZ cJ rd_a (pb_a 0) rd' ++ wPb cI cZ cJ pb_a lk_w v_a pb' ++ wBr cI cZ cJ v_a v_b v' ++ wSy cI cZ cJ sy_a sy') → va_S A s.heap H locs → some (v, rd', pb', v', sy') = some res → W p l e R s m args below meth c H locs cells slots Q (F0 m 103 ls [.int v]))
    {H : Heap} {locs : List Loc} {ls : Array Slot} (hP : va_P (dC, dI) vwCl (wRd cI cZ cJ rd_a (pb_a 0) rd ++ wPb cI cZ cJ pb_a lk_w v_a pb ++ wBr cI cZ cJ v_a v_b v ++ wSy cI cZ cJ sy_a sy) H) (hD : va_D A (wRd cI cZ cJ rd_a (pb_a 0) rd ++ wPb cI cZ cJ pb_a lk_w v_a pb ++ wBr cI cZ cJ v_a v_b v ++ wSy cI cZ cJ sy_a sy)) (hS : va_S A s.heap H locs) (hl : lv_has ls 4 [(0, .ref (rd_a 0)), (1, .ref (sy_a 0))]) (hf : f_P_Reader_takeSize rd pb v sy = some res) : W p l e R s m args below meth c H locs cells slots Q (F0 m 0 ls []) := by
  obtain ⟨hx, hb, hml, hown, hts, hK, hA, hRf, hRl, hN, hRc⟩ := id C0
  rw [f_P_Reader_takeSize] at hf
  refine lv_aload_n hx hb d_Reader_takeSize_0 rfl (lv_at hl 1 rfl) ?_
  refine va_get (D := (dC, dI)) (ci := 0) (v := .int (Sy_n sy)) (C := R_Symbols) (T := T_Symbols) (N := 10) hx hb hts in_Symbols hown hK hP 4 rfl rfl 7 (by decide) (hts _ t_233) (fun _ h9 => h9) rfl d_Reader_takeSize_1 ?_
  have J23_3 : ∀ (H : Heap) (locs : List Loc) (ls : Array Slot) (pb_1 : Pb) (v_2 : Br) (z0_3 : Int32), va_P (dC, dI) vwCl (wRd cI cZ cJ rd_a (pb_a 0) rd ++ wPb cI cZ cJ pb_a lk_w v_a pb_1 ++ wBr cI cZ cJ v_a v_b v_2 ++ wSy cI cZ cJ sy_a sy) H → va_D A (wRd cI cZ cJ rd_a (pb_a 0) rd ++ wPb cI cZ cJ pb_a lk_w v_a pb_1 ++ wBr cI cZ cJ v_a v_b v_2 ++ wSy cI cZ cJ sy_a sy) → va_S A s.heap H locs → lv_has ls 4 [(0, .ref (rd_a 0)), (1, .ref (sy_a 0))] → j_P_Reader_takeSize_23_4 rd sy pb_1 v_2 z0_3 = some res → W p l e R s m args below meth c H locs cells slots Q (F0 m 23 ls [.int z0_3]) := by
    intro H locs ls pb_1 v_2 z0_3 hP hD hS hl hf
    rw [j_P_Reader_takeSize_23_4] at hf
    refine lv_istore_n (lv' := [(2, .int z0_3), (0, .ref (rd_a 0)), (1, .ref (sy_a 0))]) hx hb d_Reader_takeSize_23 rfl hl (by decide) rfl (fun ls hl => ?_)
    refine lv_iload_n hx hb d_Reader_takeSize_24 rfl (lv_at hl 0 rfl) ?_
    have J37_7 : ∀ (H : Heap) (locs : List Loc) (ls : Array Slot) (rd_5 : Rd) (pb_6 : Pb) (v_7 : Br), va_P (dC, dI) vwCl (wRd cI cZ cJ rd_a (pb_a 0) rd_5 ++ wPb cI cZ cJ pb_a lk_w v_a pb_6 ++ wBr cI cZ cJ v_a v_b v_7 ++ wSy cI cZ cJ sy_a sy) H → va_D A (wRd cI cZ cJ rd_a (pb_a 0) rd_5 ++ wPb cI cZ cJ pb_a lk_w v_a pb_6 ++ wBr cI cZ cJ v_a v_b v_7 ++ wSy cI cZ cJ sy_a sy) → va_S A s.heap H locs → lv_has ls 4 [(0, .ref (rd_a 0)), (1, .ref (sy_a 0))] → j_P_Reader_takeSize_37_8 sy rd_5 pb_6 v_7 = some res → W p l e R s m args below meth c H locs cells slots Q (F0 m 37 ls []) := by
      intro H locs ls rd_5 pb_6 v_7 hP hD hS hl hf
      rw [j_P_Reader_takeSize_37_8] at hf
      refine lv_aload_n hx hb d_Reader_takeSize_37 rfl (lv_at hl 0 rfl) ?_
      refine va_get (D := (dC, dI)) (ci := 5) (v := .ref (pb_a 0)) (C := R_Reader) (T := T_Reader) (N := 5) hx hb hts in_Reader hown hK hP 0 rfl rfl 1 (by decide) (hts _ t_185) (fun _ h9 => h9) rfl d_Reader_takeSize_38 ?_
      obtain ⟨⟨r_9, pb_10, v_11⟩, hf1, hf⟩ := bd_ex hf
      try dsimp only at hf
      have hPc := hP.sub (ws' := (wPb cI cZ cJ pb_a lk_w v_a pb_6 ++ wBr cI cZ cJ v_a v_b v_7)) [1, 2, 3] rfl
      have hDc := hD.sub (ws' := (wPb cI cZ cJ pb_a lk_w v_a pb_6 ++ wBr cI cZ cJ v_a v_b v_7)) [1, 2, 3] (by decide) rfl
      have hFc := va_free (wc := (wPb cI cZ cJ pb_a lk_w v_a pb_6 ++ wBr cI cZ cJ v_a v_b v_7)) hD hS hA [1, 2, 3] rfl
      refine va_calli (va_runU (As := []) (rest := []) ⟨hx, hb, hml, hown, hts⟩ (k_P_Bits_takeNumber l dC dI cI cZ cJ pb_a v_a v_b lk_w H.size hf1) (va_cwU 0 hts (gU t_463 t_465 t_467 t_464 t_57 t_468) rfl rfl rfl rfl hd_Bits_takeNumber.2 ⟨Nat.le_trans (Nat.le_of_ble_eq_true rfl) hRf, Nat.le_trans (Nat.le_of_ble_eq_true rfl) hRl⟩) ⟨kP_blind, va_recv hK hP (ci := 2) (q0 := 1) rfl rfl, kP_at hPc hK hDc hN⟩ rfl rfl hl.1 rfl (lv_room (Nat.le_of_ble_eq_true rfl)) d_Reader_takeSize_41 hRc) hS (fun q _ h => hFc q h) hFc (fun r9 u t H1 locs ht hvm hw hB hz1 hk1 hS => ?_)
      rw [hw]
      obtain ⟨hP, hD⟩ := kQ_join (wr := (wRd cI cZ cJ rd_a (pb_a 0) rd_5 ++ wSy cI cZ cJ sy_a sy)) (w1 := (wPb cI cZ cJ pb_a lk_w v_a pb_10 ++ wBr cI cZ cJ v_a v_b v_11)) hP hD [1, 2, 3] [0, 4, 5, 6, 7, 8, 9, 10, 11, 12, 13] rfl rfl (by decide) (by decide) ht hk1 hFc hB
      generalize H1 = H at hP hS ⊢
      have hP : va_P (dC, dI) vwCl (wRd cI cZ cJ rd_a (pb_a 0) rd_5 ++ wPb cI cZ cJ pb_a lk_w v_a pb_10 ++ wBr cI cZ cJ v_a v_b v_11 ++ wSy cI cZ cJ sy_a sy) H := hP.sub [0, 11, 12, 13, 1, 2, 3, 4, 5, 6, 7, 8, 9, 10] rfl
      have hD : va_D A (wRd cI cZ cJ rd_a (pb_a 0) rd_5 ++ wPb cI cZ cJ pb_a lk_w v_a pb_10 ++ wBr cI cZ cJ v_a v_b v_11 ++ wSy cI cZ cJ sy_a sy) := hD.sub [0, 11, 12, 13, 1, 2, 3, 4, 5, 6, 7, 8, 9, 10] (by decide) rfl
      refine lv_istore_n (lv' := [(3, .int r_9), (0, .ref (rd_a 0)), (1, .ref (sy_a 0))]) hx hb d_Reader_takeSize_44 rfl hl (by decide) rfl (fun ls hl => ?_)
      refine lv_iload_n hx hb d_Reader_takeSize_45 rfl (lv_at hl 0 rfl) ?_
      refine lv_iconst (v := (-1)) hx hb d_Reader_takeSize_46 (by decide) ?_
      refine lv_icmp_ne (tgt := 57) hx hb d_Reader_takeSize_47 (by decide) (fun c_12 => ?_) (fun c_12 => ?_)
      · rw [if_neg c_12] at hf
        refine lv_aload_n hx hb d_Reader_takeSize_57 rfl (lv_at hl 1 rfl) ?_
        refine lv_dup hx hb d_Reader_takeSize_58 rfl ?_
        refine va_get (D := (dC, dI)) (ci := 5) (v := .int (Rd_w rd_5)) (C := R_Reader) (T := T_Reader) (N := 5) hx hb hts in_Reader hown hK hP 0 rfl rfl 4 (by decide) (hts _ t_188) (fun _ h9 => h9) rfl d_Reader_takeSize_59 ?_
        refine lv_iload_n hx hb d_Reader_takeSize_62 rfl (lv_at hl 0 rfl) ?_
        refine lv_iadd hx hb d_Reader_takeSize_63 ?_
        refine va_put (D := (dC, dI)) (ci := 5) (v := .int ((Rd_w rd_5) + r_9)) (ty := .int) (C := R_Reader) (T := T_Reader) (N := 5) hx hb hts in_Reader ty_Reader tyok_Reader nm_Reader hown hK hP hD hS 0 rfl rfl 4 (by decide) (hts _ t_188) (fun _ h9 => h9) rfl (by decide +kernel) rfl rfl (Nat.le_of_ble_eq_true rfl) d_Reader_takeSize_64 (fun H locs hP hD hS => ?_)
        obtain ⟨rd_13, erd_13, hf⟩ := lt_ex hf
        try dsimp only at hf
        have hP : va_P (dC, dI) vwCl (wRd cI cZ cJ rd_a (pb_a 0) rd_13 ++ wPb cI cZ cJ pb_a lk_w v_a pb_10 ++ wBr cI cZ cJ v_a v_b v_11 ++ wSy cI cZ cJ sy_a sy) H := by rw [erd_13]; exact hP
        have hD : va_D A (wRd cI cZ cJ rd_a (pb_a 0) rd_13 ++ wPb cI cZ cJ pb_a lk_w v_a pb_10 ++ wBr cI cZ cJ v_a v_b v_11 ++ wSy cI cZ cJ sy_a sy) := by rw [erd_13]; exact hD
        refine lv_aload_n hx hb d_Reader_takeSize_67 rfl (lv_at hl 1 rfl) ?_
        refine va_get (D := (dC, dI)) (ci := 5) (v := .int (Rd_w rd_13)) (C := R_Reader) (T := T_Reader) (N := 5) hx hb hts in_Reader hown hK hP 0 rfl rfl 4 (by decide) (hts _ t_188) (fun _ h9 => h9) rfl d_Reader_takeSize_68 ?_
        have J83_14 : ∀ (H : Heap) (locs : List Loc) (ls : Array Slot), va_P (dC, dI) vwCl (wRd cI cZ cJ rd_a (pb_a 0) rd_13 ++ wPb cI cZ cJ pb_a lk_w v_a pb_10 ++ wBr cI cZ cJ v_a v_b v_11 ++ wSy cI cZ cJ sy_a sy) H → va_D A (wRd cI cZ cJ rd_a (pb_a 0) rd_13 ++ wPb cI cZ cJ pb_a lk_w v_a pb_10 ++ wBr cI cZ cJ v_a v_b v_11 ++ wSy cI cZ cJ sy_a sy) → va_S A s.heap H locs → lv_has ls 4 [(0, .ref (rd_a 0))] → j_P_Reader_takeSize_83_15 sy pb_10 v_11 rd_13 = some res → W p l e R s m args below meth c H locs cells slots Q (F0 m 83 ls []) := by
          intro H locs ls hP hD hS hl hf
          rw [j_P_Reader_takeSize_83_15] at hf
          refine lv_aload_n hx hb d_Reader_takeSize_83 rfl (lv_at hl 0 rfl) ?_
          refine lv_iconst (v := 2) hx hb d_Reader_takeSize_84 (by decide) ?_
          obtain ⟨⟨r_16, rd_17⟩, hf1, hf⟩ := bd_ex hf
          try dsimp only at hf
          have hPc := hP.sub (ws' := (wRd cI cZ cJ rd_a (pb_a 0) rd_13)) [0] rfl
          have hDc := hD.sub (ws' := (wRd cI cZ cJ rd_a (pb_a 0) rd_13)) [0] (by decide) rfl
          have hFc := va_free (wc := (wRd cI cZ cJ rd_a (pb_a 0) rd_13)) hD hS hA [0] rfl
          refine va_calli (va_runV (As := [.int 2]) (rest := []) ⟨hx, hb, hml, hown, hts⟩ (k_P_Reader_refuse l dC dI cI cZ cJ rd_a (pb_a 0) H.size hf1) (cwV 1 hts (gV t_485 t_487 t_12 t_61 t_488) rfl rfl rfl hd_Reader_refuse ⟨Nat.le_trans (Nat.le_of_ble_eq_true rfl) hRf, Nat.le_trans (Nat.le_of_ble_eq_true rfl) hRl⟩) ⟨kP_blind, va_recv hK hP (ci := 5) (q0 := 0) rfl rfl, kP_at hPc hK hDc hN⟩ rfl rfl hl.1 rfl (lv_room (Nat.le_of_ble_eq_true rfl)) d_Reader_takeSize_85 hRc) hS (fun q _ h => hFc q h) hFc (fun r9 u t H1 locs ht hvm hw hB hz1 hk1 hS => ?_)
          rw [hw.1]
          obtain ⟨hP, hD⟩ := kQ_join (wr := (wPb cI cZ cJ pb_a lk_w v_a pb_10 ++ wBr cI cZ cJ v_a v_b v_11 ++ wSy cI cZ cJ sy_a sy)) (w1 := (wRd cI cZ cJ rd_a (pb_a 0) rd_17)) hP hD [0] [1, 2, 3, 4, 5, 6, 7, 8, 9, 10, 11, 12, 13] rfl rfl (by decide) (by decide) ht hk1 hFc hB
          generalize H1 = H at hP hS ⊢
          have hP : va_P (dC, dI) vwCl (wRd cI cZ cJ rd_a (pb_a 0) rd_17 ++ wPb cI cZ cJ pb_a lk_w v_a pb_10 ++ wBr cI cZ cJ v_a v_b v_11 ++ wSy cI cZ cJ sy_a sy) H := hP.sub [13, 0, 1, 2, 3, 4, 5, 6, 7, 8, 9, 10, 11, 12] rfl
          have hD : va_D A (wRd cI cZ cJ rd_a (pb_a 0) rd_17 ++ wPb cI cZ cJ pb_a lk_w v_a pb_10 ++ wBr cI cZ cJ v_a v_b v_11 ++ wSy cI cZ cJ sy_a sy) := hD.sub [13, 0, 1, 2, 3, 4, 5, 6, 7, 8, 9, 10, 11, 12] (by decide) rfl
          obtain ⟨h_z, hf⟩ := gd_ex hf
          exact hr88 _ _ _ r_16  rd_17 pb_10 v_11 sy (of_decide_eq_true h_z) hP hD hS hf
        refine lv_if_eq (tgt := 83) hx hb d_Reader_takeSize_71 (by decide) (fun c_18 => ?_) (fun c_18 => ?_)
        · rw [if_pos c_18] at hf
          exact J83_14 _ _ _  hP hD hS (lv_sub hl [1] rfl) hf
        · rw [if_neg c_18] at hf
          refine lv_aload_n hx hb d_Reader_takeSize_74 rfl (lv_at hl 1 rfl) ?_
          refine va_get (D := (dC, dI)) (ci := 5) (v := .int (Rd_w rd_13)) (C := R_Reader) (T := T_Reader) (N := 5) hx hb hts in_Reader hown hK hP 0 rfl rfl 4 (by decide) (hts _ t_188) (fun _ h9 => h9) rfl d_Reader_takeSize_75 ?_
          refine lv_bipush (v := 16) hx hb d_Reader_takeSize_78 (by decide) ?_
          refine lv_icmp_le (tgt := 89) hx hb d_Reader_takeSize_80 (by decide) (fun c_19 => ?_) (fun c_19 => ?_)
          · rw [if_pos c_19] at hf
            refine lv_aload_n hx hb d_Reader_takeSize_89 rfl (lv_at hl 2 rfl) ?_
            refine lv_aload_n hx hb d_Reader_takeSize_90 rfl (lv_at hl 1 rfl) ?_
            refine va_get (D := (dC, dI)) (ci := 5) (v := .int (Rd_w rd_13)) (C := R_Reader) (T := T_Reader) (N := 5) hx hb hts in_Reader hown hK hP 0 rfl rfl 4 (by decide) (hts _ t_188) (fun _ h9 => h9) rfl d_Reader_takeSize_91 ?_
            refine lv_aload_n hx hb d_Reader_takeSize_94 rfl (lv_at hl 1 rfl) ?_
            refine va_get (D := (dC, dI)) (ci := 5) (v := .int (Rd_h rd_13)) (C := R_Reader) (T := T_Reader) (N := 5) hx hb hts in_Reader hown hK hP 0 rfl rfl 3 (by decide) (hts _ t_187) (fun _ h9 => h9) rfl d_Reader_takeSize_95 ?_
            obtain ⟨⟨r_20, sy_21⟩, hf1, hf⟩ := bd_ex hf
            try dsimp only at hf
            have hPc := hP.sub (ws' := (wSy cI cZ cJ sy_a sy)) [4, 5, 6, 7, 8, 9, 10, 11, 12, 13] rfl
            have hDc := hD.sub (ws' := (wSy cI cZ cJ sy_a sy)) [4, 5, 6, 7, 8, 9, 10, 11, 12, 13] (by decide) rfl
            have hFc := va_free (wc := (wSy cI cZ cJ sy_a sy)) hD hS hA [4, 5, 6, 7, 8, 9, 10, 11, 12, 13] rfl
            refine va_calli (va_runV (As := [.int (Rd_w rd_13), .int (Rd_h rd_13)]) (rest := []) ⟨hx, hb, hml, hown, hts⟩ (k_Symbols_add l dC dI cI cZ cJ sy_a H.size hf1) (cwV 2 hts (gV t_498 t_499 t_500 t_62 t_501) rfl rfl rfl hd_Symbols_add ⟨Nat.le_trans (Nat.le_of_ble_eq_true rfl) hRf, Nat.le_trans (Nat.le_of_ble_eq_true rfl) hRl⟩) ⟨kP_blind, va_recv hK hP (ci := 0) (q0 := 4) rfl rfl, kP_at hPc hK hDc hN⟩ rfl rfl hl.1 rfl (lv_room (Nat.le_of_ble_eq_true rfl)) d_Reader_takeSize_98 hRc) hS (fun q _ h => hFc q h) hFc (fun r9 u t H1 locs ht hvm hw hB hz1 hk1 hS => ?_)
            rw [hw]
            obtain ⟨hP, hD⟩ := kQ_join (wr := (wRd cI cZ cJ rd_a (pb_a 0) rd_13 ++ wPb cI cZ cJ pb_a lk_w v_a pb_10 ++ wBr cI cZ cJ v_a v_b v_11)) (w1 := (wSy cI cZ cJ sy_a sy_21)) hP hD [4, 5, 6, 7, 8, 9, 10, 11, 12, 13] [0, 1, 2, 3] rfl rfl (by decide) (by decide) ht hk1 hFc hB
            generalize H1 = H at hP hS ⊢
            have hP : va_P (dC, dI) vwCl (wRd cI cZ cJ rd_a (pb_a 0) rd_13 ++ wPb cI cZ cJ pb_a lk_w v_a pb_10 ++ wBr cI cZ cJ v_a v_b v_11 ++ wSy cI cZ cJ sy_a sy_21) H := hP.sub [0, 1, 2, 3, 4, 5, 6, 7, 8, 9, 10, 11, 12, 13] rfl
            have hD : va_D A (wRd cI cZ cJ rd_a (pb_a 0) rd_13 ++ wPb cI cZ cJ pb_a lk_w v_a pb_10 ++ wBr cI cZ cJ v_a v_b v_11 ++ wSy cI cZ cJ sy_a sy_21) := hD.sub [0, 1, 2, 3, 4, 5, 6, 7, 8, 9, 10, 11, 12, 13] (by decide) rfl
            refine lv_pop hx hb d_Reader_takeSize_101 rfl ?_
            refine lv_iconst (v := 1) hx hb d_Reader_takeSize_102 (by decide) ?_
            exact hr103 _ _ _ 1 rd_13 pb_10 v_11 sy_21 (by decide) hP hD hS hf
          · rw [if_neg c_19] at hf
            exact J83_14 _ _ _  hP hD hS (lv_sub hl [1] rfl) hf
      · rw [if_pos c_12] at hf
        refine lv_aload_n hx hb d_Reader_takeSize_50 rfl (lv_at hl 1 rfl) ?_
        refine lv_bipush (v := 7) hx hb d_Reader_takeSize_51 (by decide) ?_
        obtain ⟨⟨r_22, rd_23⟩, hf1, hf⟩ := bd_ex hf
        try dsimp only at hf
        have hPc := hP.sub (ws' := (wRd cI cZ cJ rd_a (pb_a 0) rd_5)) [0] rfl
        have hDc := hD.sub (ws' := (wRd cI cZ cJ rd_a (pb_a 0) rd_5)) [0] (by decide) rfl
        have hFc := va_free (wc := (wRd cI cZ cJ rd_a (pb_a 0) rd_5)) hD hS hA [0] rfl
        refine va_calli (va_runV (As := [.int 7]) (rest := []) ⟨hx, hb, hml, hown, hts⟩ (k_P_Reader_refuse l dC dI cI cZ cJ rd_a (pb_a 0) H.size hf1) (cwV 1 hts (gV t_485 t_487 t_12 t_61 t_488) rfl rfl rfl hd_Reader_refuse ⟨Nat.le_trans (Nat.le_of_ble_eq_true rfl) hRf, Nat.le_trans (Nat.le_of_ble_eq_true rfl) hRl⟩) ⟨kP_blind, va_recv hK hP (ci := 5) (q0 := 0) rfl rfl, kP_at hPc hK hDc hN⟩ rfl rfl hl.1 rfl (lv_room (Nat.le_of_ble_eq_true rfl)) d_Reader_takeSize_53 hRc) hS (fun q _ h => hFc q h) hFc (fun r9 u t H1 locs ht hvm hw hB hz1 hk1 hS => ?_)
        rw [hw.1]
        obtain ⟨hP, hD⟩ := kQ_join (wr := (wPb cI cZ cJ pb_a lk_w v_a pb_10 ++ wBr cI cZ cJ v_a v_b v_11 ++ wSy cI cZ cJ sy_a sy)) (w1 := (wRd cI cZ cJ rd_a (pb_a 0) rd_23)) hP hD [0] [1, 2, 3, 4, 5, 6, 7, 8, 9, 10, 11, 12, 13] rfl rfl (by decide) (by decide) ht hk1 hFc hB
        generalize H1 = H at hP hS ⊢
        have hP : va_P (dC, dI) vwCl (wRd cI cZ cJ rd_a (pb_a 0) rd_23 ++ wPb cI cZ cJ pb_a lk_w v_a pb_10 ++ wBr cI cZ cJ v_a v_b v_11 ++ wSy cI cZ cJ sy_a sy) H := hP.sub [13, 0, 1, 2, 3, 4, 5, 6, 7, 8, 9, 10, 11, 12] rfl
        have hD : va_D A (wRd cI cZ cJ rd_a (pb_a 0) rd_23 ++ wPb cI cZ cJ pb_a lk_w v_a pb_10 ++ wBr cI cZ cJ v_a v_b v_11 ++ wSy cI cZ cJ sy_a sy) := hD.sub [13, 0, 1, 2, 3, 4, 5, 6, 7, 8, 9, 10, 11, 12] (by decide) rfl
        obtain ⟨h_z, hf⟩ := gd_ex hf
        exact hr56 _ _ _ r_22  rd_23 pb_10 v_11 sy (of_decide_eq_true h_z) hP hD hS hf
    refine lv_if_eq (tgt := 37) hx hb d_Reader_takeSize_25 (by decide) (fun c_24 => ?_) (fun c_24 => ?_)
    · rw [if_pos c_24] at hf
      exact J37_7 _ _ _ rd pb_1 v_2 hP hD hS (lv_sub hl [1, 2] rfl) hf
    · rw [if_neg c_24] at hf
      refine lv_aload_n hx hb d_Reader_takeSize_28 rfl (lv_at hl 1 rfl) ?_
      obtain ⟨⟨r_25, rd_26, pb_27, v_28⟩, hf1, hf⟩ := bd_ex hf
      try dsimp only at hf
      have hPc := hP.sub (ws' := (wRd cI cZ cJ rd_a (pb_a 0) rd ++ wPb cI cZ cJ pb_a lk_w v_a pb_1 ++ wBr cI cZ cJ v_a v_b v_2)) [0, 1, 2, 3] rfl
      have hDc := hD.sub (ws' := (wRd cI cZ cJ rd_a (pb_a 0) rd ++ wPb cI cZ cJ pb_a lk_w v_a pb_1 ++ wBr cI cZ cJ v_a v_b v_2)) [0, 1, 2, 3] (by decide) rfl
      have hFc := va_free (wc := (wRd cI cZ cJ rd_a (pb_a 0) rd ++ wPb cI cZ cJ pb_a lk_w v_a pb_1 ++ wBr cI cZ cJ v_a v_b v_2)) hD hS hA [0, 1, 2, 3] rfl
      refine va_calli (va_runV (As := []) (rest := []) ⟨hx, hb, hml, hown, hts⟩ (k_P_Reader_takeHeight l dC dI cI cZ cJ rd_a pb_a v_a v_b lk_w H.size hf1) (cwV 0 hts (gV t_494 t_496 t_14 t_61 t_497) rfl rfl rfl hd_Reader_takeHeight ⟨Nat.le_trans (Nat.le_of_ble_eq_true rfl) hRf, Nat.le_trans (Nat.le_of_ble_eq_true rfl) hRl⟩) ⟨kP_blind, va_recv hK hP (ci := 5) (q0 := 0) rfl rfl, kP_at hPc hK hDc hN⟩ rfl rfl hl.1 rfl (lv_room (Nat.le_of_ble_eq_true rfl)) d_Reader_takeSize_29 hRc) hS (fun q _ h => hFc q h) hFc (fun r9 u t H1 locs ht hvm hw hB hz1 hk1 hS => ?_)
      rw [hw.1]
      obtain ⟨hP, hD⟩ := kQ_join (wr := (wSy cI cZ cJ sy_a sy)) (w1 := (wRd cI cZ cJ rd_a (pb_a 0) rd_26 ++ wPb cI cZ cJ pb_a lk_w v_a pb_27 ++ wBr cI cZ cJ v_a v_b v_28)) hP hD [0, 1, 2, 3] [4, 5, 6, 7, 8, 9, 10, 11, 12, 13] rfl rfl (by decide) (by decide) ht hk1 hFc hB
      generalize H1 = H at hP hS ⊢
      have hP : va_P (dC, dI) vwCl (wRd cI cZ cJ rd_a (pb_a 0) rd_26 ++ wPb cI cZ cJ pb_a lk_w v_a pb_27 ++ wBr cI cZ cJ v_a v_b v_28 ++ wSy cI cZ cJ sy_a sy) H := hP.sub [10, 11, 12, 13, 0, 1, 2, 3, 4, 5, 6, 7, 8, 9] rfl
      have hD : va_D A (wRd cI cZ cJ rd_a (pb_a 0) rd_26 ++ wPb cI cZ cJ pb_a lk_w v_a pb_27 ++ wBr cI cZ cJ v_a v_b v_28 ++ wSy cI cZ cJ sy_a sy) := hD.sub [10, 11, 12, 13, 0, 1, 2, 3, 4, 5, 6, 7, 8, 9] (by decide) rfl
      refine lv_if_ne (tgt := 37) hx hb d_Reader_takeSize_32 (by decide) (fun c_29 => ?_) (fun c_29 => ?_)
      · rw [if_neg c_29] at hf
        exact J37_7 _ _ _ rd_26 pb_27 v_28 hP hD hS (lv_sub hl [1, 2] rfl) hf
      · rw [if_pos c_29] at hf
        refine lv_iconst (v := 0) hx hb d_Reader_takeSize_35 (by decide) ?_
        exact hr36 _ _ _ 0 rd_26 pb_27 v_28 sy (by decide) hP hD hS hf
  refine lv_if_eq (tgt := 18) hx hb d_Reader_takeSize_4 (by decide) (fun c_30 => ?_) (fun c_30 => ?_)
  · rw [if_pos c_30] at hf
    refine lv_iconst (v := 1) hx hb d_Reader_takeSize_18 (by decide) ?_
    refine lv_goto (tgt := 23) hx hb d_Reader_takeSize_19 (by decide) ?_
    exact J23_3 _ _ _ pb v 1 hP hD hS (lv_sub hl [0, 1] rfl) hf
  · rw [if_neg c_30] at hf
    refine lv_aload_n hx hb d_Reader_takeSize_7 rfl (lv_at hl 0 rfl) ?_
    refine va_get (D := (dC, dI)) (ci := 5) (v := .ref (pb_a 0)) (C := R_Reader) (T := T_Reader) (N := 5) hx hb hts in_Reader hown hK hP 0 rfl rfl 1 (by decide) (hts _ t_185) (fun _ h9 => h9) rfl d_Reader_takeSize_8 ?_
    refine lv_iconst (v := (-1)) hx hb d_Reader_takeSize_11 (by decide) ?_
    obtain ⟨⟨r_31, pb_32, v_33⟩, hf1, hf⟩ := bd_ex hf
    try dsimp only at hf
    have hPc := hP.sub (ws' := (wPb cI cZ cJ pb_a lk_w v_a pb ++ wBr cI cZ cJ v_a v_b v)) [1, 2, 3] rfl
    have hDc := hD.sub (ws' := (wPb cI cZ cJ pb_a lk_w v_a pb ++ wBr cI cZ cJ v_a v_b v)) [1, 2, 3] (by decide) rfl
    have hFc := va_free (wc := (wPb cI cZ cJ pb_a lk_w v_a pb ++ wBr cI cZ cJ v_a v_b v)) hD hS hA [1, 2, 3] rfl
    refine va_calli (va_runU (As := [.int (-1)]) (rest := []) ⟨hx, hb, hml, hown, hts⟩ (k_P_PlainBits_takeBit l dC dI cI cZ cJ pb_a v_a v_b lk_w H.size hf1) (va_cwA 1 hts (gU t_493 t_471 t_475 t_476 t_59 t_477) rfl rfl rfl (hN.2 _ (by decide +kernel)) hdx_Bits_takeBit ⟨Nat.le_trans (Nat.le_of_ble_eq_true rfl) hRf, Nat.le_trans (Nat.le_of_ble_eq_true rfl) hRl⟩) ⟨kP_blind, va_recv hK hP (ci := 2) (q0 := 1) rfl rfl, kP_at hPc hK hDc hN⟩ rfl rfl hl.1 rfl (lv_room (Nat.le_of_ble_eq_true rfl)) d_Reader_takeSize_12 hRc) hS (fun q _ h => hFc q h) hFc (fun r9 u t H1 locs ht hvm hw hB hz1 hk1 hS => ?_)
    rw [hw]
    obtain ⟨hP, hD⟩ := kQ_join (wr := (wRd cI cZ cJ rd_a (pb_a 0) rd ++ wSy cI cZ cJ sy_a sy)) (w1 := (wPb cI cZ cJ pb_a lk_w v_a pb_32 ++ wBr cI cZ cJ v_a v_b v_33)) hP hD [1, 2, 3] [0, 4, 5, 6, 7, 8, 9, 10, 11, 12, 13] rfl rfl (by decide) (by decide) ht hk1 hFc hB
    generalize H1 = H at hP hS ⊢
    have hP : va_P (dC, dI) vwCl (wRd cI cZ cJ rd_a (pb_a 0) rd ++ wPb cI cZ cJ pb_a lk_w v_a pb_32 ++ wBr cI cZ cJ v_a v_b v_33 ++ wSy cI cZ cJ sy_a sy) H := hP.sub [0, 11, 12, 13, 1, 2, 3, 4, 5, 6, 7, 8, 9, 10] rfl
    have hD : va_D A (wRd cI cZ cJ rd_a (pb_a 0) rd ++ wPb cI cZ cJ pb_a lk_w v_a pb_32 ++ wBr cI cZ cJ v_a v_b v_33 ++ wSy cI cZ cJ sy_a sy) := hD.sub [0, 11, 12, 13, 1, 2, 3, 4, 5, 6, 7, 8, 9, 10] (by decide) rfl
    refine lv_if_ne (tgt := 22) hx hb d_Reader_takeSize_15 (by decide) (fun c_34 => ?_) (fun c_34 => ?_)
    · rw [if_neg c_34] at hf
      refine lv_iconst (v := 0) hx hb d_Reader_takeSize_22 (by decide) ?_
      exact J23_3 _ _ _ pb_32 v_33 0 hP hD hS (lv_sub hl [0, 1] rfl) hf
    · rw [if_pos c_34] at hf
      refine lv_iconst (v := 1) hx hb d_Reader_takeSize_18 (by decide) ?_
      refine lv_goto (tgt := 23) hx hb d_Reader_takeSize_19 (by decide) ?_
      exact J23_3 _ _ _ pb_32 v_33 1 hP hD hS (lv_sub hl [0, 1] rfl) hf
end
set_option maxHeartbeats 4000000 in
set_option maxRecDepth 100000 in
theorem k_P_Reader_takeSize (l : Launch) (dC : Nat → ClassId) (dI : Nat → Nat → Nat) (cI cZ cJ : ClassId) (rd_a : Nat → Nat) (pb_a : Nat → Nat) (v_a v_b : Nat) (sy_a : Nat → Nat) (lk_w : Nat) (sz : Nat) {rd : Rd} {pb : Pb} {v : Br} {sy : Sy} {r : Int32} {rd' : Rd} {pb' : Pb} {v' : Br} {sy' : Sy} (hf : f_P_Reader_takeSize rd pb v sy = some (r, rd', pb', v', sy')) :
    Met l y_Reader_takeSize ws_Reader_takeSize ({ frames := 5, cells := 0, slots := 0, locals := 107 }) (va_Pc [.ref (rd_a 0), .ref (sy_a 0)] (kP (dC, dI) vwCl (TYS cI cZ cJ) (wRd cI cZ cJ rd_a (pb_a 0) rd ++ wPb cI cZ cJ pb_a lk_w v_a pb ++ wBr cI cZ cJ v_a v_b v ++ wSy cI cZ cJ sy_a sy) sz)) (va_Qi (fun (q : Int32) (_ : Unit) => q = r ∧ vp_nar .boolean r = r) (fun _ t => kQ (dC, dI) vwCl (TYS cI cZ cJ) (wRd cI cZ cJ rd_a (pb_a 0) rd ++ wPb cI cZ cJ pb_a lk_w v_a pb ++ wBr cI cZ cJ v_a v_b v ++ wSy cI cZ cJ sy_a sy) sz (wRd cI cZ cJ rd_a (pb_a 0) rd' ++ wPb cI cZ cJ pb_a lk_w v_a pb' ++ wBr cI cZ cJ v_a v_b v' ++ wSy cI cZ cJ sy_a sy') t) (va_A (wRd cI cZ cJ rd_a (pb_a 0) rd ++ wPb cI cZ cJ pb_a lk_w v_a pb ++ wBr cI cZ cJ v_a v_b v ++ wSy cI cZ cJ sy_a sy) sz)) 0 0 (va_A (wRd cI cZ cJ rd_a (pb_a 0) rd ++ wPb cI cZ cJ pb_a lk_w v_a pb ++ wBr cI cZ cJ v_a v_b v ++ wSy cI cZ cJ sy_a sy) sz) := by
  refine Met.ofW (cc := c_Reader_takeSize) (maxL := 4) (ret := (some .boolean)) (by decide) rfl ?_
  intro p e s m args below meth c s₁ B hml hv
  obtain ⟨rfl, hsz, hP, hK, hD0, hN⟩ := hv
  have hr := B.returns
  have hlocks := B.notSynchronized
  subst hsz
  have hD := hD0.self (sz := s.heap.size)
  have hl := lv_entry ([.ref (rd_a 0), .ref (sy_a 0)]) (n := 4) (Nat.le_of_ble_eq_true rfl)
  rw [lg_entry_eq]
  generalize (lg_sl ([.ref (rd_a 0), .ref (sy_a 0)]) ++ List.replicate (4 - (lg_sl ([.ref (rd_a 0), .ref (sy_a 0)])).length) Slot.unset).toArray = ls at hl ⊢
  refine B_P_Reader_takeSize (A := va_A (wRd cI cZ cJ rd_a (pb_a 0) rd ++ wPb cI cZ cJ pb_a lk_w v_a pb ++ wBr cI cZ cJ v_a v_b v ++ wSy cI cZ cJ sy_a sy) s.heap.size) ⟨B.exec, B.bytes, hml, findClass_of_methodNamed B.named, fun w h => atoms_spec (ws := ws_Reader_takeSize) B.pre w (List.mem_cons_of_mem _ h), hK, fun q h => Or.inr h, Nat.le_of_ble_eq_true rfl, Nat.le_of_ble_eq_true rfl, hN, Nat.le_of_ble_eq_true rfl, Nat.le_of_ble_eq_true rfl⟩ (fun H locs ls v rd'1 pb'1 v'1 sy'1 hz hP hD hS hf => ?_) (fun H locs ls v rd'1 pb'1 v'1 sy'1 hz hP hD hS hf => ?_) (fun H locs ls v rd'1 pb'1 v'1 sy'1 hz hP hD hS hf => ?_) (fun H locs ls v rd'1 pb'1 v'1 sy'1 hz hP hD hS hf => ?_) hP hD va_S.rf hl hf
  · cases hf
    exact W.zret B.exec B.bytes hr (nz_n hz) (fun t ht hW => ⟨⟨_, (), rfl, ⟨rfl, hz⟩, ⟨by rw [ht]; exact hP, va_K.moved hW.alike hK, hD⟩⟩, hS.F ht⟩) hS.2.2 d_Reader_takeSize_36
  · cases hf
    exact W.zret B.exec B.bytes hr (nz_n hz) (fun t ht hW => ⟨⟨_, (), rfl, ⟨rfl, hz⟩, ⟨by rw [ht]; exact hP, va_K.moved hW.alike hK, hD⟩⟩, hS.F ht⟩) hS.2.2 d_Reader_takeSize_56
  · cases hf
    exact W.zret B.exec B.bytes hr (nz_n hz) (fun t ht hW => ⟨⟨_, (), rfl, ⟨rfl, hz⟩, ⟨by rw [ht]; exact hP, va_K.moved hW.alike hK, hD⟩⟩, hS.F ht⟩) hS.2.2 d_Reader_takeSize_88
  · cases hf
    exact W.zret B.exec B.bytes hr (nz_n hz) (fun t ht hW => ⟨⟨_, (), rfl, ⟨rfl, hz⟩, ⟨by rw [ht]; exact hP, va_K.moved hW.alike hK, hD⟩⟩, hS.F ht⟩) hS.2.2 d_Reader_takeSize_103

/-! P_Reader_takeBase -/
def j_P_Reader_takeBase_87_19 (rd : Rd) (sy : Sy) (pb_16 : Pb) (v_17 : Br) : Option (Int32 × Rd × Pb × Br × Sy) := bd (f_P_Reader_refuse rd 4) <| fun (r_20, rd_21) => gd (decide (vp_nar .boolean r_20 = r_20)) <| some (r_20, rd_21, pb_16, v_17, sy)
def f_P_Reader_takeBase (rd : Rd) (pb : Pb) (v : Br) (sy : Sy) (x2 : Int32) : Option (Int32 × Rd × Pb × Br × Sy) := bd (f_P_PlainBits_takeBit pb v (-1)) <| fun (r_1, pb_2, v_3) => (if r_1 = 0 then some (1, rd, pb_2, v_3, sy) else bd (f_P_Bits_takeNumber pb_2 v_3) <| fun (r_5, pb_6, v_7) => (if r_5 = (-1) then bd (f_P_Reader_refuse rd 7) <| fun (r_27, rd_28) => gd (decide (vp_nar .boolean r_27 = r_27)) <| some (r_27, rd_28, pb_6, v_7, sy) else lt' ((x2 - 1) - r_5) <| fun x4_9 => (if 0 ≤ x4_9 then bd (f_P_Bits_takeBits pb_6 v_7 4) <| fun (r_11, pb_12, v_13) => lt' (r_11 - 4) <| fun x5_14 => bd (f_P_Bits_takeBits pb_12 v_13 4) <| fun (r_15, pb_16, v_17) => lt' (r_15 - 4) <| fun x6_18 => (if 4 < x5_14 then j_P_Reader_takeBase_87_19 rd sy pb_16 v_17 else (if x6_18 ≤ 4 then bd (f_Symbols_refine sy x2 x4_9 x5_14 x6_18) <| fun sy_24 => some (1, rd, pb_16, v_17, sy_24) else j_P_Reader_takeBase_87_19 rd sy pb_16 v_17)) else bd (f_P_Reader_refuse rd 3) <| fun (r_25, rd_26) => gd (decide (vp_nar .boolean r_25 = r_25)) <| some (r_25, rd_26, pb_6, v_7, sy))))
section
variable {p : Program} {l : Launch} {e : Env} {R : Room} {s : State} {m : MethodId} {args : Array Value} {below : List Frame} {meth : Method} {c : Code} {Q : State → Prop} {A : Nat → Prop}
set_option maxHeartbeats 4000000 in
set_option maxRecDepth 100000 in
theorem B_P_Reader_takeBase {cells slots : Nat} {dC : Nat → ClassId} {dI : Nat → Nat → Nat} {cI cZ cJ : ClassId} {rd_a : Nat → Nat} {pb_a : Nat → Nat} {v_a v_b : Nat} {sy_a : Nat → Nat} {lk_w : Nat} {rd : Rd} {pb : Pb} {v : Br} {sy : Sy} {x2 : Int32} {res : Int32 × Rd × Pb × Br × Sy} (C0 : cxt p c m s args R cells slots R_Reader c_Reader_takeBase tb 7 (dC, dI) vwCl (TYS cI cZ cJ) A 4 86)
    (hr12 : ∀ (H : Heap) (locs : List Loc) (ls : Array Slot) (v : Int32) (rd' : Rd) (pb' : Pb) (v' : Br) (sy' : Sy), vp_nar .boolean v = v → va_P (dC, dI) vwCl (wRd cI cZ cJ rd_a (pb_a 0) rd' ++ wPb cI cZ cJ pb_a lk_w v_a pb' ++ wBr cI cZ cJ v_a v_b v' ++ wSy cI cZ cJ sy_a sy') H → va_D A (wRd cI cZ cJ rd_a (pb_a 0) rd' ++ wPb cI cZ cJ pb_a lk_w v_a pb' ++ wBr cI cZ cJ v_a v_b v' ++ wSy cI cZ cJ sy_a sy') → va_S A s.heap H locs → some (v, rd', pb', v', sy') = some res → W p l e R s m args below meth c H locs cells slots Q (F0 m 12 ls [.int v]))
    (hr32 : ∀ (H : Heap) (locs : List Loc) (ls : Array Slot) (v : Int32) (rd' : Rd) (pb' : Pb) (v' : Br) (sy' : Sy), vp_nar .boolean v = v → va_P (dC, dI) vwCl (wRd cI cZ cJ rd_a (pb_a 0) rd' ++ wPb cI cZ cJ pb_a lk_w v_a pb' ++ wBr cI cZ cJ v_a v_b v' ++ wSy cI cZ cJ sy_a sy') H → va_D A (wRd cI cZ cJ rd_a (pb_a 0) rd' ++ wPb cI cZ cJ pb_a lk_w v_a pb' ++ wBr cI cZ cJ v_a v_b v' ++ wSy cI cZ cJ sy_a sy') → va_S A s.heap H locs → some (v, rd', pb', v', sy') = some res → W p l e R s m args below meth c H locs cells slots Q (F0 m 32 ls [.int v]))
    (hr50 : ∀ (H : Heap) (locs : List Loc) (ls : Array Slot) (v : Int32) (rd' : Rd) (pb' : Pb) (v' : Br) (sy' : Sy), vp_nar .boolean v = v → va_P (dC, dI) vwCl (wRd cI cZ cJ rd_a (pb_a 0) rd' ++ wPb cI cZ cJ pb_a lk_w v_a pb' ++ wBr cI cZ cJ v_a v_b v' ++ wSy cI cZ cJ sy_a sy') H → va_D A (wRd cI cZ cJ rd_a (pb_a 0) rd' ++ wPb cI cZ cJ pb_a lk_w v_a pb' ++ wBr cI cZ cJ v_a v_b v' ++ wSy cI cZ cJ sy_a sy') → va_S A s.heap H locs → some (v, rd', pb', v', sy') = some res → W p l e R s m args below meth c H locs cells slots Q (F0 m 50 ls [.int v]))
    (hr92 : ∀ (H : Heap) (locs : List Loc) (ls : Array Slot) (v : Int32) (rd' : Rd) (pb' : Pb) (v' : Br) (sy' : Sy), vp_nar .boolean v = v → va_P (dC, dI) vwCl (wRd cI cZ cJ rd_a (pb_a 0) rd' ++ wPb cI cZ cJ pb_a lk_w v_a pb' ++ wBr cI cZ cJ v_a v_b v' ++ wSy cI cZ cJ sy_a sy') H → va_D A (wRd cI cZ cJ rd_a (pb_a 0) rd' ++ wPb cI cZ cJ pb_a lk_w v_a pb' ++ wBr cI cZ cJ v_a v_b v' ++ wSy cI cZ cJ sy_a sy') → va_S A s.heap H locs → some (v, rd', pb', v', sy') = some res → W p l e R s m args below meth c H locs cells slots Q (F0 m 92 ls [.int v]))
    (hr105 : ∀ (H : Heap) (locs : List Loc) (ls : Array Slot) (v : Int32) (rd' : Rd) (pb' : Pb) (v' : Br) (sy' : Sy), vp_nar .boolean v = v → va_P (dC, dI) vwCl (wRd cI cZ cJ rd_a (pb_a 0) rd' ++ wPb cI cZ cJ pb_a lk_w v_a pb' ++ wBr cI cZ cJ v_a v_b v' ++ wSy cI cZ cJ sy_a sy') H → va_D A (wRd cI cZ cJ rd_a (pb_a 0) rd' ++ wPb cI cZ cJ pb_a lk_w v_a pb' ++ wBr cI cZ cJ v_a v_b v' ++ wSy cI cZ cJ sy_a sy') → va_S A s.heap H locs → some (v, rd', pb', v', sy') = some res → W p l e R s m args below meth c H locs cells slots Q (F0 m 105 ls [.int v]))
    {H : Heap} {locs : List Loc} {ls : Array Slot} (hP : va_P (dC, dI) vwCl (wRd cI cZ cJ rd_a (pb_a 0) rd ++ wPb cI cZ cJ pb_a lk_w v_a pb ++ wBr cI cZ cJ v_a v_b v ++ wSy cI cZ cJ sy_a sy) H) (hD : va_D A (wRd cI cZ cJ rd_a (pb_a 0) rd ++ wPb cI cZ cJ pb_a lk_w v_a pb ++ wBr cI cZ cJ v_a v_b v ++ wSy cI cZ cJ sy_a sy)) (hS : va_S A s.heap H locs) (hl : lv_has ls 7 [(0, .ref (rd_a 0)), (1, .ref (sy_a 0)), (2, .int x2)]) (hf : f_P_Reader_takeBase rd pb v sy x2 = some res) : W p l e R s m args below meth c H locs cells slots Q (F0 m 0 ls []) := by
  obtain ⟨hx, hb, hml, hown, hts, hK, hA, hRf, hRl, hN, hRc⟩ := id C0
  rw [f_P_Reader_takeBase] at hf
  refine lv_aload_n hx hb d_Reader_takeBase_0 rfl (lv_at hl 0 rfl) ?_
  refine va_get (D := (dC, dI)) (ci := 5) (v := .ref (pb_a 0)) (C := R_Reader) (T := T_Reader) (N := 5) hx hb hts in_Reader hown hK hP 0 rfl rfl 1 (by decide) (hts _ t_185) (fun _ h9 => h9) rfl d_Reader_takeBase_1 ?_
  refine lv_iconst (v := (-1)) hx hb d_Reader_takeBase_4 (by decide) ?_
  obtain ⟨⟨r_1, pb_2, v_3⟩, hf1, hf⟩ := bd_ex hf
  try dsimp only at hf
  have hPc := hP.sub (ws' := (wPb cI cZ cJ pb_a lk_w v_a pb ++ wBr cI cZ cJ v_a v_b v)) [1, 2, 3] rfl
  have hDc := hD.sub (ws' := (wPb cI cZ cJ pb_a lk_w v_a pb ++ wBr cI cZ cJ v_a v_b v)) [1, 2, 3] (by decide) rfl
  have hFc := va_free (wc := (wPb cI cZ cJ pb_a lk_w v_a pb ++ wBr cI cZ cJ v_a v_b v)) hD hS hA [1, 2, 3] rfl
  refine va_calli (va_runU (As := [.int (-1)]) (rest := []) ⟨hx, hb, hml, hown, hts⟩ (k_P_PlainBits_takeBit l dC dI cI cZ cJ pb_a v_a v_b lk_w H.size hf1) (va_cwA 1 hts (gU t_493 t_471 t_475 t_476 t_59 t_477) rfl rfl rfl (hN.2 _ (by decide +kernel)) hdx_Bits_takeBit ⟨Nat.le_trans (Nat.le_of_ble_eq_true rfl) hRf, Nat.le_trans (Nat.le_of_ble_eq_true rfl) hRl⟩) ⟨kP_blind, va_recv hK hP (ci := 2) (q0 := 1) rfl rfl, kP_at hPc hK hDc hN⟩ rfl rfl hl.1 rfl (lv_room (Nat.le_of_ble_eq_true rfl)) d_Reader_takeBase_5 hRc) hS (fun q _ h => hFc q h) hFc (fun r9 u t H1 locs ht hvm hw hB hz1 hk1 hS => ?_)
  rw [hw]
  obtain ⟨hP, hD⟩ := kQ_join (wr := (wRd cI cZ cJ rd_a (pb_a 0) rd ++ wSy cI cZ cJ sy_a sy)) (w1 := (wPb cI cZ cJ pb_a lk_w v_a pb_2 ++ wBr cI cZ cJ v_a v_b v_3)) hP hD [1, 2, 3] [0, 4, 5, 6, 7, 8, 9, 10, 11, 12, 13] rfl rfl (by decide) (by decide) ht hk1 hFc hB
  generalize H1 = H at hP hS ⊢
  have hP : va_P (dC, dI) vwCl (wRd cI cZ cJ rd_a (pb_a 0) rd ++ wPb cI cZ cJ pb_a lk_w v_a pb_2 ++ wBr cI cZ cJ v_a v_b v_3 ++ wSy cI cZ cJ sy_a sy) H := hP.sub [0, 11, 12, 13, 1, 2, 3, 4, 5, 6, 7, 8, 9, 10] rfl
  have hD : va_D A (wRd cI cZ cJ rd_a (pb_a 0) rd ++ wPb cI cZ cJ pb_a lk_w v_a pb_2 ++ wBr cI cZ cJ v_a v_b v_3 ++ wSy cI cZ cJ sy_a sy) := hD.sub [0, 11, 12, 13, 1, 2, 3, 4, 5, 6, 7, 8, 9, 10] (by decide) rfl
  refine lv_if_ne (tgt := 13) hx hb d_Reader_takeBase_8 (by decide) (fun c_4 => ?_) (fun c_4 => ?_)
  · rw [if_neg c_4] at hf
    refine lv_aload_n hx hb d_Reader_takeBase_13 rfl (lv_at hl 0 rfl) ?_
    refine va_get (D := (dC, dI)) (ci := 5) (v := .ref (pb_a 0)) (C := R_Reader) (T := T_Reader) (N := 5) hx hb hts in_Reader hown hK hP 0 rfl rfl 1 (by decide) (hts _ t_185) (fun _ h9 => h9) rfl d_Reader_takeBase_14 ?_
    obtain ⟨⟨r_5, pb_6, v_7⟩, hf1, hf⟩ := bd_ex hf
    try dsimp only at hf
    have hPc := hP.sub (ws' := (wPb cI cZ cJ pb_a lk_w v_a pb_2 ++ wBr cI cZ cJ v_a v_b v_3)) [1, 2, 3] rfl
    have hDc := hD.sub (ws' := (wPb cI cZ cJ pb_a lk_w v_a pb_2 ++ wBr cI cZ cJ v_a v_b v_3)) [1, 2, 3] (by decide) rfl
    have hFc := va_free (wc := (wPb cI cZ cJ pb_a lk_w v_a pb_2 ++ wBr cI cZ cJ v_a v_b v_3)) hD hS hA [1, 2, 3] rfl
    refine va_calli (va_runU (As := []) (rest := []) ⟨hx, hb, hml, hown, hts⟩ (k_P_Bits_takeNumber l dC dI cI cZ cJ pb_a v_a v_b lk_w H.size hf1) (va_cwU 0 hts (gU t_463 t_465 t_467 t_464 t_57 t_468) rfl rfl rfl rfl hd_Bits_takeNumber.2 ⟨Nat.le_trans (Nat.le_of_ble_eq_true rfl) hRf, Nat.le_trans (Nat.le_of_ble_eq_true rfl) hRl⟩) ⟨kP_blind, va_recv hK hP (ci := 2) (q0 := 1) rfl rfl, kP_at hPc hK hDc hN⟩ rfl rfl hl.1 rfl (lv_room (Nat.le_of_ble_eq_true rfl)) d_Reader_takeBase_17 hRc) hS (fun q _ h => hFc q h) hFc (fun r9 u t H1 locs ht hvm hw hB hz1 hk1 hS => ?_)
    rw [hw]
    obtain ⟨hP, hD⟩ := kQ_join (wr := (wRd cI cZ cJ rd_a (pb_a 0) rd ++ wSy cI cZ cJ sy_a sy)) (w1 := (wPb cI cZ cJ pb_a lk_w v_a pb_6 ++ wBr cI cZ cJ v_a v_b v_7)) hP hD [1, 2, 3] [0, 4, 5, 6, 7, 8, 9, 10, 11, 12, 13] rfl rfl (by decide) (by decide) ht hk1 hFc hB
    generalize H1 = H at hP hS ⊢
    have hP : va_P (dC, dI) vwCl (wRd cI cZ cJ rd_a (pb_a 0) rd ++ wPb cI cZ cJ pb_a lk_w v_a pb_6 ++ wBr cI cZ cJ v_a v_b v_7 ++ wSy cI cZ cJ sy_a sy) H := hP.sub [0, 11, 12, 13, 1, 2, 3, 4, 5, 6, 7, 8, 9, 10] rfl
    have hD : va_D A (wRd cI cZ cJ rd_a (pb_a 0) rd ++ wPb cI cZ cJ pb_a lk_w v_a pb_6 ++ wBr cI cZ cJ v_a v_b v_7 ++ wSy cI cZ cJ sy_a sy) := hD.sub [0, 11, 12, 13, 1, 2, 3, 4, 5, 6, 7, 8, 9, 10] (by decide) rfl
    refine lv_istore_n (lv' := [(3, .int r_5), (0, .ref (rd_a 0)), (1, .ref (sy_a 0)), (2, .int x2)]) hx hb d_Reader_takeBase_20 rfl hl (by decide) rfl (fun ls hl => ?_)
    refine lv_iload_n hx hb d_Reader_takeBase_21 rfl (lv_at hl 0 rfl) ?_
    refine lv_iconst (v := (-1)) hx hb d_Reader_takeBase_22 (by decide) ?_
    refine lv_icmp_ne (tgt := 33) hx hb d_Reader_takeBase_23 (by decide) (fun c_8 => ?_) (fun c_8 => ?_)
    · rw [if_neg c_8] at hf
      refine lv_iload_n hx hb d_Reader_takeBase_33 rfl (lv_at hl 3 rfl) ?_
      refine lv_iconst (v := 1) hx hb d_Reader_takeBase_34 (by decide) ?_
      refine lv_isub hx hb d_Reader_takeBase_35 ?_
      refine lv_iload_n hx hb d_Reader_takeBase_36 rfl (lv_at hl 0 rfl) ?_
      refine lv_isub hx hb d_Reader_takeBase_37 ?_
      obtain ⟨x4_9, ex4_9, hf⟩ := lt_ex hf
      try dsimp only at hf
      refine tp_i ex4_9 ?_
      refine lv_istore (lv' := [(4, .int x4_9), (3, .int r_5), (0, .ref (rd_a 0)), (1, .ref (sy_a 0)), (2, .int x2)]) hx hb d_Reader_takeBase_38 hl (by decide) rfl (fun ls hl => ?_)
      refine lv_iload hx hb d_Reader_takeBase_40 (lv_at hl 0 rfl) ?_
      refine lv_if_ge (tgt := 51) hx hb d_Reader_takeBase_42 (by decide) (fun c_10 => ?_) (fun c_10 => ?_)
      · rw [if_pos c_10] at hf
        refine lv_aload_n hx hb d_Reader_takeBase_51 rfl (lv_at hl 2 rfl) ?_
        refine va_get (D := (dC, dI)) (ci := 5) (v := .ref (pb_a 0)) (C := R_Reader) (T := T_Reader) (N := 5) hx hb hts in_Reader hown hK hP 0 rfl rfl 1 (by decide) (hts _ t_185) (fun _ h9 => h9) rfl d_Reader_takeBase_52 ?_
        refine lv_iconst (v := 4) hx hb d_Reader_takeBase_55 (by decide) ?_
        obtain ⟨⟨r_11, pb_12, v_13⟩, hf1, hf⟩ := bd_ex hf
        try dsimp only at hf
        have hPc := hP.sub (ws' := (wPb cI cZ cJ pb_a lk_w v_a pb_6 ++ wBr cI cZ cJ v_a v_b v_7)) [1, 2, 3] rfl
        have hDc := hD.sub (ws' := (wPb cI cZ cJ pb_a lk_w v_a pb_6 ++ wBr cI cZ cJ v_a v_b v_7)) [1, 2, 3] (by decide) rfl
        have hFc := va_free (wc := (wPb cI cZ cJ pb_a lk_w v_a pb_6 ++ wBr cI cZ cJ v_a v_b v_7)) hD hS hA [1, 2, 3] rfl
        refine va_calli (va_runU (As := [.int 4]) (rest := []) ⟨hx, hb, hml, hown, hts⟩ (k_P_Bits_takeBits l dC dI cI cZ cJ pb_a v_a v_b lk_w H.size hf1) (va_cwU 1 hts (gU t_520 t_481 t_483 t_480 t_57 t_484) rfl rfl rfl rfl hd_Bits_takeBits.2 ⟨Nat.le_trans (Nat.le_of_ble_eq_true rfl) hRf, Nat.le_trans (Nat.le_of_ble_eq_true rfl) hRl⟩) ⟨kP_blind, va_recv hK hP (ci := 2) (q0 := 1) rfl rfl, kP_at hPc hK hDc hN⟩ rfl rfl hl.1 rfl (lv_room (Nat.le_of_ble_eq_true rfl)) d_Reader_takeBase_56 hRc) hS (fun q _ h => hFc q h) hFc (fun r9 u t H1 locs ht hvm hw hB hz1 hk1 hS => ?_)
        rw [hw]
        obtain ⟨hP, hD⟩ := kQ_join (wr := (wRd cI cZ cJ rd_a (pb_a 0) rd ++ wSy cI cZ cJ sy_a sy)) (w1 := (wPb cI cZ cJ pb_a lk_w v_a pb_12 ++ wBr cI cZ cJ v_a v_b v_13)) hP hD [1, 2, 3] [0, 4, 5, 6, 7, 8, 9, 10, 11, 12, 13] rfl rfl (by decide) (by decide) ht hk1 hFc hB
        generalize H1 = H at hP hS ⊢
        have hP : va_P (dC, dI) vwCl (wRd cI cZ cJ rd_a (pb_a 0) rd ++ wPb cI cZ cJ pb_a lk_w v_a pb_12 ++ wBr cI cZ cJ v_a v_b v_13 ++ wSy cI cZ cJ sy_a sy) H := hP.sub [0, 11, 12, 13, 1, 2, 3, 4, 5, 6, 7, 8, 9, 10] rfl
        have hD : va_D A (wRd cI cZ cJ rd_a (pb_a 0) rd ++ wPb cI cZ cJ pb_a lk_w v_a pb_12 ++ wBr cI cZ cJ v_a v_b v_13 ++ wSy cI cZ cJ sy_a sy) := hD.sub [0, 11, 12, 13, 1, 2, 3, 4, 5, 6, 7, 8, 9, 10] (by decide) rfl
        refine lv_iconst (v := 4) hx hb d_Reader_takeBase_59 (by decide) ?_
        refine lv_isub hx hb d_Reader_takeBase_60 ?_
        obtain ⟨x5_14, ex5_14, hf⟩ := lt_ex hf
        try dsimp only at hf
        refine tp_i ex5_14 ?_
        refine lv_istore (lv' := [(5, .int x5_14), (4, .int x4_9), (3, .int r_5), (0, .ref (rd_a 0)), (1, .ref (sy_a 0)), (2, .int x2)]) hx hb d_Reader_takeBase_61 hl (by decide) rfl (fun ls hl => ?_)
        refine lv_aload_n hx hb d_Reader_takeBase_63 rfl (lv_at hl 3 rfl) ?_
        refine va_get (D := (dC, dI)) (ci := 5) (v := .ref (pb_a 0)) (C := R_Reader) (T := T_Reader) (N := 5) hx hb hts in_Reader hown hK hP 0 rfl rfl 1 (by decide) (hts _ t_185) (fun _ h9 => h9) rfl d_Reader_takeBase_64 ?_
        refine lv_iconst (v := 4) hx hb d_Reader_takeBase_67 (by decide) ?_
        obtain ⟨⟨r_15, pb_16, v_17⟩, hf1, hf⟩ := bd_ex hf
        try dsimp only at hf
        have hPc := hP.sub (ws' := (wPb cI cZ cJ pb_a lk_w v_a pb_12 ++ wBr cI cZ cJ v_a v_b v_13)) [1, 2, 3] rfl
        have hDc := hD.sub (ws' := (wPb cI cZ cJ pb_a lk_w v_a pb_12 ++ wBr cI cZ cJ v_a v_b v_13)) [1, 2, 3] (by decide) rfl
        have hFc := va_free (wc := (wPb cI cZ cJ pb_a lk_w v_a pb_12 ++ wBr cI cZ cJ v_a v_b v_13)) hD hS hA [1, 2, 3] rfl
        refine va_calli (va_runU (As := [.int 4]) (rest := []) ⟨hx, hb, hml, hown, hts⟩ (k_P_Bits_takeBits l dC dI cI cZ cJ pb_a v_a v_b lk_w H.size hf1) (va_cwU 1 hts (gU t_520 t_481 t_483 t_480 t_57 t_484) rfl rfl rfl rfl hd_Bits_takeBits.2 ⟨Nat.le_trans (Nat.le_of_ble_eq_true rfl) hRf, Nat.le_trans (Nat.le_of_ble_eq_true rfl) hRl⟩) ⟨kP_blind, va_recv hK hP (ci := 2) (q0 := 1) rfl rfl, kP_at hPc hK hDc hN⟩ rfl rfl hl.1 rfl (lv_room (Nat.le_of_ble_eq_true rfl)) d_Reader_takeBase_68 hRc) hS (fun q _ h => hFc q h) hFc (fun r9 u t H1 locs ht hvm hw hB hz1 hk1 hS => ?_)
        rw [hw]
        obtain ⟨hP, hD⟩ := kQ_join (wr := (wRd cI cZ cJ rd_a (pb_a 0) rd ++ wSy cI cZ cJ sy_a sy)) (w1 := (wPb cI cZ cJ pb_a lk_w v_a pb_16 ++ wBr cI cZ cJ v_a v_b v_17)) hP hD [1, 2, 3] [0, 4, 5, 6, 7, 8, 9, 10, 11, 12, 13] rfl rfl (by decide) (by decide) ht hk1 hFc hB
        generalize H1 = H at hP hS ⊢
        have hP : va_P (dC, dI) vwCl (wRd cI cZ cJ rd_a (pb_a 0) rd ++ wPb cI cZ cJ pb_a lk_w v_a pb_16 ++ wBr cI cZ cJ v_a v_b v_17 ++ wSy cI cZ cJ sy_a sy) H := hP.sub [0, 11, 12, 13, 1, 2, 3, 4, 5, 6, 7, 8, 9, 10] rfl
        have hD : va_D A (wRd cI cZ cJ rd_a (pb_a 0) rd ++ wPb cI cZ cJ pb_a lk_w v_a pb_16 ++ wBr cI cZ cJ v_a v_b v_17 ++ wSy cI cZ cJ sy_a sy) := hD.sub [0, 11, 12, 13, 1, 2, 3, 4, 5, 6, 7, 8, 9, 10] (by decide) rfl
        refine lv_iconst (v := 4) hx hb d_Reader_takeBase_71 (by decide) ?_
        refine lv_isub hx hb d_Reader_takeBase_72 ?_
        obtain ⟨x6_18, ex6_18, hf⟩ := lt_ex hf
        try dsimp only at hf
        refine tp_i ex6_18 ?_
        refine lv_istore (lv' := [(6, .int x6_18), (5, .int x5_14), (4, .int x4_9), (3, .int r_5), (0, .ref (rd_a 0)), (1, .ref (sy_a 0)), (2, .int x2)]) hx hb d_Reader_takeBase_73 hl (by decide) rfl (fun ls hl => ?_)
        refine lv_iload hx hb d_Reader_takeBase_75 (lv_at hl 1 rfl) ?_
        refine lv_iconst (v := 4) hx hb d_Reader_takeBase_77 (by decide) ?_
        have J87_18 : ∀ (H : Heap) (locs : List Loc) (ls : Array Slot), va_P (dC, dI) vwCl (wRd cI cZ cJ rd_a (pb_a 0) rd ++ wPb cI cZ cJ pb_a lk_w v_a pb_16 ++ wBr cI cZ cJ v_a v_b v_17 ++ wSy cI cZ cJ sy_a sy) H → va_D A (wRd cI cZ cJ rd_a (pb_a 0) rd ++ wPb cI cZ cJ pb_a lk_w v_a pb_16 ++ wBr cI cZ cJ v_a v_b v_17 ++ wSy cI cZ cJ sy_a sy) → va_S A s.heap H locs → lv_has ls 7 [(0, .ref (rd_a 0))] → j_P_Reader_takeBase_87_19 rd sy pb_16 v_17 = some res → W p l e R s m args below meth c H locs cells slots Q (F0 m 87 ls []) := by
          intro H locs ls hP hD hS hl hf
          rw [j_P_Reader_takeBase_87_19] at hf
          refine lv_aload_n hx hb d_Reader_takeBase_87 rfl (lv_at hl 0 rfl) ?_
          refine lv_iconst (v := 4) hx hb d_Reader_takeBase_88 (by decide) ?_
          obtain ⟨⟨r_20, rd_21⟩, hf1, hf⟩ := bd_ex hf
          try dsimp only at hf
          have hPc := hP.sub (ws' := (wRd cI cZ cJ rd_a (pb_a 0) rd)) [0] rfl
          have hDc := hD.sub (ws' := (wRd cI cZ cJ rd_a (pb_a 0) rd)) [0] (by decide) rfl
          have hFc := va_free (wc := (wRd cI cZ cJ rd_a (pb_a 0) rd)) hD hS hA [0] rfl
          refine va_calli (va_runV (As := [.int 4]) (rest := []) ⟨hx, hb, hml, hown, hts⟩ (k_P_Reader_refuse l dC dI cI cZ cJ rd_a (pb_a 0) H.size hf1) (cwV 1 hts (gV t_485 t_487 t_12 t_61 t_488) rfl rfl rfl hd_Reader_refuse ⟨Nat.le_trans (Nat.le_of_ble_eq_true rfl) hRf, Nat.le_trans (Nat.le_of_ble_eq_true rfl) hRl⟩) ⟨kP_blind, va_recv hK hP (ci := 5) (q0 := 0) rfl rfl, kP_at hPc hK hDc hN⟩ rfl rfl hl.1 rfl (lv_room (Nat.le_of_ble_eq_true rfl)) d_Reader_takeBase_89 hRc) hS (fun q _ h => hFc q h) hFc (fun r9 u t H1 locs ht hvm hw hB hz1 hk1 hS => ?_)
          rw [hw.1]
          obtain ⟨hP, hD⟩ := kQ_join (wr := (wPb cI cZ cJ pb_a lk_w v_a pb_16 ++ wBr cI cZ cJ v_a v_b v_17 ++ wSy cI cZ cJ sy_a sy)) (w1 := (wRd cI cZ cJ rd_a (pb_a 0) rd_21)) hP hD [0] [1, 2, 3, 4, 5, 6, 7, 8, 9, 10, 11, 12, 13] rfl rfl (by decide) (by decide) ht hk1 hFc hB
          generalize H1 = H at hP hS ⊢
          have hP : va_P (dC, dI) vwCl (wRd cI cZ cJ rd_a (pb_a 0) rd_21 ++ wPb cI cZ cJ pb_a lk_w v_a pb_16 ++ wBr cI cZ cJ v_a v_b v_17 ++ wSy cI cZ cJ sy_a sy) H := hP.sub [13, 0, 1, 2, 3, 4, 5, 6, 7, 8, 9, 10, 11, 12] rfl
          have hD : va_D A (wRd cI cZ cJ rd_a (pb_a 0) rd_21 ++ wPb cI cZ cJ pb_a lk_w v_a pb_16 ++ wBr cI cZ cJ v_a v_b v_17 ++ wSy cI cZ cJ sy_a sy) := hD.sub [13, 0, 1, 2, 3, 4, 5, 6, 7, 8, 9, 10, 11, 12] (by decide) rfl
          obtain ⟨h_z, hf⟩ := gd_ex hf
          exact hr92 _ _ _ r_20  rd_21 pb_16 v_17 sy (of_decide_eq_true h_z) hP hD hS hf
        refine lv_icmp_gt (tgt := 87) hx hb d_Reader_takeBase_78 (by decide) (fun c_22 => ?_) (fun c_22 => ?_)
        · rw [if_pos c_22] at hf
          exact J87_18 _ _ _  hP hD hS (lv_sub hl [4] rfl) hf
        · rw [if_neg c_22] at hf
          refine lv_iload hx hb d_Reader_takeBase_81 (lv_at hl 0 rfl) ?_
          refine lv_iconst (v := 4) hx hb d_Reader_takeBase_83 (by decide) ?_
          refine lv_icmp_le (tgt := 93) hx hb d_Reader_takeBase_84 (by decide) (fun c_23 => ?_) (fun c_23 => ?_)
          · rw [if_pos c_23] at hf
            refine lv_aload_n hx hb d_Reader_takeBase_93 rfl (lv_at hl 5 rfl) ?_
            refine lv_iload_n hx hb d_Reader_takeBase_94 rfl (lv_at hl 6 rfl) ?_
            refine lv_iload hx hb d_Reader_takeBase_95 (lv_at hl 2 rfl) ?_
            refine lv_iload hx hb d_Reader_takeBase_97 (lv_at hl 1 rfl) ?_
            refine lv_iload hx hb d_Reader_takeBase_99 (lv_at hl 0 rfl) ?_
            obtain ⟨sy_24, hf1, hf⟩ := bd_ex hf
            try dsimp only at hf
            have hPc := hP.sub (ws' := (wSy cI cZ cJ sy_a sy)) [4, 5, 6, 7, 8, 9, 10, 11, 12, 13] rfl
            have hDc := hD.sub (ws' := (wSy cI cZ cJ sy_a sy)) [4, 5, 6, 7, 8, 9, 10, 11, 12, 13] (by decide) rfl
            have hFc := va_free (wc := (wSy cI cZ cJ sy_a sy)) hD hS hA [4, 5, 6, 7, 8, 9, 10, 11, 12, 13] rfl
            refine va_callv (va_runV (As := [.int x2, .int x4_9, .int x5_14, .int x6_18]) (rest := []) ⟨hx, hb, hml, hown, hts⟩ (k_Symbols_refine l dC dI cI cZ cJ sy_a H.size hf1) (cwV 4 hts (gV t_521 t_503 t_504 t_62 t_505) rfl rfl rfl hd_Symbols_refine ⟨Nat.le_trans (Nat.le_of_ble_eq_true rfl) hRf, Nat.le_trans (Nat.le_of_ble_eq_true rfl) hRl⟩) ⟨kP_blind, va_recv hK hP (ci := 0) (q0 := 4) rfl rfl, kP_at hPc hK hDc hN⟩ rfl rfl hl.1 rfl (lv_room (Nat.le_of_ble_eq_true rfl)) d_Reader_takeBase_101 hRc) hS (fun q _ h => hFc q h) hFc (fun u t H1 locs ht hvm hw hB hz1 hk1 hS => ?_)
            obtain ⟨hP, hD⟩ := kQ_join (wr := (wRd cI cZ cJ rd_a (pb_a 0) rd ++ wPb cI cZ cJ pb_a lk_w v_a pb_16 ++ wBr cI cZ cJ v_a v_b v_17)) (w1 := (wSy cI cZ cJ sy_a sy_24)) hP hD [4, 5, 6, 7, 8, 9, 10, 11, 12, 13] [0, 1, 2, 3] rfl rfl (by decide) (by decide) ht hk1 hFc hB
            generalize H1 = H at hP hS ⊢
            have hP : va_P (dC, dI) vwCl (wRd cI cZ cJ rd_a (pb_a 0) rd ++ wPb cI cZ cJ pb_a lk_w v_a pb_16 ++ wBr cI cZ cJ v_a v_b v_17 ++ wSy cI cZ cJ sy_a sy_24) H := hP.sub [0, 1, 2, 3, 4, 5, 6, 7, 8, 9, 10, 11, 12, 13] rfl
            have hD : va_D A (wRd cI cZ cJ rd_a (pb_a 0) rd ++ wPb cI cZ cJ pb_a lk_w v_a pb_16 ++ wBr cI cZ cJ v_a v_b v_17 ++ wSy cI cZ cJ sy_a sy_24) := hD.sub [0, 1, 2, 3, 4, 5, 6, 7, 8, 9, 10, 11, 12, 13] (by decide) rfl
            refine lv_iconst (v := 1) hx hb d_Reader_takeBase_104 (by decide) ?_
            exact hr105 _ _ _ 1 rd pb_16 v_17 sy_24 (by decide) hP hD hS hf
          · rw [if_neg c_23] at hf
            exact J87_18 _ _ _  hP hD hS (lv_sub hl [4] rfl) hf
      · rw [if_neg c_10] at hf
        refine lv_aload_n hx hb d_Reader_takeBase_45 rfl (lv_at hl 2 rfl) ?_
        refine lv_iconst (v := 3) hx hb d_Reader_takeBase_46 (by decide) ?_
        obtain ⟨⟨r_25, rd_26⟩, hf1, hf⟩ := bd_ex hf
        try dsimp only at hf
        have hPc := hP.sub (ws' := (wRd cI cZ cJ rd_a (pb_a 0) rd)) [0] rfl
        have hDc := hD.sub (ws' := (wRd cI cZ cJ rd_a (pb_a 0) rd)) [0] (by decide) rfl
        have hFc := va_free (wc := (wRd cI cZ cJ rd_a (pb_a 0) rd)) hD hS hA [0] rfl
        refine va_calli (va_runV (As := [.int 3]) (rest := []) ⟨hx, hb, hml, hown, hts⟩ (k_P_Reader_refuse l dC dI cI cZ cJ rd_a (pb_a 0) H.size hf1) (cwV 1 hts (gV t_485 t_487 t_12 t_61 t_488) rfl rfl rfl hd_Reader_refuse ⟨Nat.le_trans (Nat.le_of_ble_eq_true rfl) hRf, Nat.le_trans (Nat.le_of_ble_eq_true rfl) hRl⟩) ⟨kP_blind, va_recv hK hP (ci := 5) (q0 := 0) rfl rfl, kP_at hPc hK hDc hN⟩ rfl rfl hl.1 rfl (lv_room (Nat.le_of_ble_eq_true rfl)) d_Reader_takeBase_47 hRc) hS (fun q _ h => hFc q h) hFc (fun r9 u t H1 locs ht hvm hw hB hz1 hk1 hS => ?_)
        rw [hw.1]
        obtain ⟨hP, hD⟩ := kQ_join (wr := (wPb cI cZ cJ pb_a lk_w v_a pb_6 ++ wBr cI cZ cJ v_a v_b v_7 ++ wSy cI cZ cJ sy_a sy)) (w1 := (wRd cI cZ cJ rd_a (pb_a 0) rd_26)) hP hD [0] [1, 2, 3, 4, 5, 6, 7, 8, 9, 10, 11, 12, 13] rfl rfl (by decide) (by decide) ht hk1 hFc hB
        generalize H1 = H at hP hS ⊢
        have hP : va_P (dC, dI) vwCl (wRd cI cZ cJ rd_a (pb_a 0) rd_26 ++ wPb cI cZ cJ pb_a lk_w v_a pb_6 ++ wBr cI cZ cJ v_a v_b v_7 ++ wSy cI cZ cJ sy_a sy) H := hP.sub [13, 0, 1, 2, 3, 4, 5, 6, 7, 8, 9, 10, 11, 12] rfl
        have hD : va_D A (wRd cI cZ cJ rd_a (pb_a 0) rd_26 ++ wPb cI cZ cJ pb_a lk_w v_a pb_6 ++ wBr cI cZ cJ v_a v_b v_7 ++ wSy cI cZ cJ sy_a sy) := hD.sub [13, 0, 1, 2, 3, 4, 5, 6, 7, 8, 9, 10, 11, 12] (by decide) rfl
        obtain ⟨h_z, hf⟩ := gd_ex hf
        exact hr50 _ _ _ r_25  rd_26 pb_6 v_7 sy (of_decide_eq_true h_z) hP hD hS hf
    · rw [if_pos c_8] at hf
      refine lv_aload_n hx hb d_Reader_takeBase_26 rfl (lv_at hl 1 rfl) ?_
      refine lv_bipush (v := 7) hx hb d_Reader_takeBase_27 (by decide) ?_
      obtain ⟨⟨r_27, rd_28⟩, hf1, hf⟩ := bd_ex hf
      try dsimp only at hf
      have hPc := hP.sub (ws' := (wRd cI cZ cJ rd_a (pb_a 0) rd)) [0] rfl
      have hDc := hD.sub (ws' := (wRd cI cZ cJ rd_a (pb_a 0) rd)) [0] (by decide) rfl
      have hFc := va_free (wc := (wRd cI cZ cJ rd_a (pb_a 0) rd)) hD hS hA [0] rfl
      refine va_calli (va_runV (As := [.int 7]) (rest := []) ⟨hx, hb, hml, hown, hts⟩ (k_P_Reader_refuse l dC dI cI cZ cJ rd_a (pb_a 0) H.size hf1) (cwV 1 hts (gV t_485 t_487 t_12 t_61 t_488) rfl rfl rfl hd_Reader_refuse ⟨Nat.le_trans (Nat.le_of_ble_eq_true rfl) hRf, Nat.le_trans (Nat.le_of_ble_eq_true rfl) hRl⟩) ⟨kP_blind, va_recv hK hP (ci := 5) (q0 := 0) rfl rfl, kP_at hPc hK hDc hN⟩ rfl rfl hl.1 rfl (lv_room (Nat.le_of_ble_eq_true rfl)) d_Reader_takeBase_29 hRc) hS (fun q _ h => hFc q h) hFc (fun r9 u t H1 locs ht hvm hw hB hz1 hk1 hS => ?_)
      rw [hw.1]
      obtain ⟨hP, hD⟩ := kQ_join (wr := (wPb cI cZ cJ pb_a lk_w v_a pb_6 ++ wBr cI cZ cJ v_a v_b v_7 ++ wSy cI cZ cJ sy_a sy)) (w1 := (wRd cI cZ cJ rd_a (pb_a 0) rd_28)) hP hD [0] [1, 2, 3, 4, 5, 6, 7, 8, 9, 10, 11, 12, 13] rfl rfl (by decide) (by decide) ht hk1 hFc hB
      generalize H1 = H at hP hS ⊢
      have hP : va_P (dC, dI) vwCl (wRd cI cZ cJ rd_a (pb_a 0) rd_28 ++ wPb cI cZ cJ pb_a lk_w v_a pb_6 ++ wBr cI cZ cJ v_a v_b v_7 ++ wSy cI cZ cJ sy_a sy) H := hP.sub [13, 0, 1, 2, 3, 4, 5, 6, 7, 8, 9, 10, 11, 12] rfl
      have hD : va_D A (wRd cI cZ cJ rd_a (pb_a 0) rd_28 ++ wPb cI cZ cJ pb_a lk_w v_a pb_6 ++ wBr cI cZ cJ v_a v_b v_7 ++ wSy cI cZ cJ sy_a sy) := hD.sub [13, 0, 1, 2, 3, 4, 5, 6, 7, 8, 9, 10, 11, 12] (by decide) rfl
      obtain ⟨h_z, hf⟩ := gd_ex hf
      exact hr32 _ _ _ r_27  rd_28 pb_6 v_7 sy (of_decide_eq_true h_z) hP hD hS hf
  · rw [if_pos c_4] at hf
    refine lv_iconst (v := 1) hx hb d_Reader_takeBase_11 (by decide) ?_
    exact hr12 _ _ _ 1 rd pb_2 v_3 sy (by decide) hP hD hS hf
end
set_option maxHeartbeats 4000000 in
set_option maxRecDepth 100000 in
theorem k_P_Reader_takeBase (l : Launch) (dC : Nat → ClassId) (dI : Nat → Nat → Nat) (cI cZ cJ : ClassId) (rd_a : Nat → Nat) (pb_a : Nat → Nat) (v_a v_b : Nat) (sy_a : Nat → Nat) (lk_w : Nat) (sz : Nat) {rd : Rd} {pb : Pb} {v : Br} {sy : Sy} {x2 : Int32} {r : Int32} {rd' : Rd} {pb' : Pb} {v' : Br} {sy' : Sy} (hf : f_P_Reader_takeBase rd pb v sy x2 = some (r, rd', pb', v', sy')) :
    Met l y_Reader_takeBase ws_Reader_takeBase ({ frames := 4, cells := 0, slots := 0, locals := 86 }) (va_Pc [.ref (rd_a 0), .ref (sy_a 0), .int x2] (kP (dC, dI) vwCl (TYS cI cZ cJ) (wRd cI cZ cJ rd_a (pb_a 0) rd ++ wPb cI cZ cJ pb_a lk_w v_a pb ++ wBr cI cZ cJ v_a v_b v ++ wSy cI cZ cJ sy_a sy) sz)) (va_Qi (fun (q : Int32) (_ : Unit) => q = r ∧ vp_nar .boolean r = r) (fun _ t => kQ (dC, dI) vwCl (TYS cI cZ cJ) (wRd cI cZ cJ rd_a (pb_a 0) rd ++ wPb cI cZ cJ pb_a lk_w v_a pb ++ wBr cI cZ cJ v_a v_b v ++ wSy cI cZ cJ sy_a sy) sz (wRd cI cZ cJ rd_a (pb_a 0) rd' ++ wPb cI cZ cJ pb_a lk_w v_a pb' ++ wBr cI cZ cJ v_a v_b v' ++ wSy cI cZ cJ sy_a sy') t) (va_A (wRd cI cZ cJ rd_a (pb_a 0) rd ++ wPb cI cZ cJ pb_a lk_w v_a pb ++ wBr cI cZ cJ v_a v_b v ++ wSy cI cZ cJ sy_a sy) sz)) 0 0 (va_A (wRd cI cZ cJ rd_a (pb_a 0) rd ++ wPb cI cZ cJ pb_a lk_w v_a pb ++ wBr cI cZ cJ v_a v_b v ++ wSy cI cZ cJ sy_a sy) sz) := by
  refine Met.ofW (cc := c_Reader_takeBase) (maxL := 7) (ret := (some .boolean)) (by decide) rfl ?_
  intro p e s m args below meth c s₁ B hml hv
  obtain ⟨rfl, hsz, hP, hK, hD0, hN⟩ := hv
  have hr := B.returns
  have hlocks := B.notSynchronized
  subst hsz
  have hD := hD0.self (sz := s.heap.size)
  have hl := lv_entry ([.ref (rd_a 0), .ref (sy_a 0), .int x2]) (n := 7) (Nat.le_of_ble_eq_true rfl)
  rw [lg_entry_eq]
  generalize (lg_sl ([.ref (rd_a 0), .ref (sy_a 0), .int x2]) ++ List.replicate (7 - (lg_sl ([.ref (rd_a 0), .ref (sy_a 0), .int x2])).length) Slot.unset).toArray = ls at hl ⊢
  refine B_P_Reader_takeBase (A := va_A (wRd cI cZ cJ rd_a (pb_a 0) rd ++ wPb cI cZ cJ pb_a lk_w v_a pb ++ wBr cI cZ cJ v_a v_b v ++ wSy cI cZ cJ sy_a sy) s.heap.size) ⟨B.exec, B.bytes, hml, findClass_of_methodNamed B.named, fun w h => atoms_spec (ws := ws_Reader_takeBase) B.pre w (List.mem_cons_of_mem _ h), hK, fun q h => Or.inr h, Nat.le_of_ble_eq_true rfl, Nat.le_of_ble_eq_true rfl, hN, Nat.le_of_ble_eq_true rfl, Nat.le_of_ble_eq_true rfl⟩ (fun H locs ls v rd'1 pb'1 v'1 sy'1 hz hP hD hS hf => ?_) (fun H locs ls v rd'1 pb'1 v'1 sy'1 hz hP hD hS hf => ?_) (fun H locs ls v rd'1 pb'1 v'1 sy'1 hz hP hD hS hf => ?_) (fun H locs ls v rd'1 pb'1 v'1 sy'1 hz hP hD hS hf => ?_) (fun H locs ls v rd'1 pb'1 v'1 sy'1 hz hP hD hS hf => ?_) hP hD va_S.rf hl hf
  · cases hf
    exact W.zret B.exec B.bytes hr (nz_n hz) (fun t ht hW => ⟨⟨_, (), rfl, ⟨rfl, hz⟩, ⟨by rw [ht]; exact hP, va_K.moved hW.alike hK, hD⟩⟩, hS.F ht⟩) hS.2.2 d_Reader_takeBase_12
  · cases hf
    exact W.zret B.exec B.bytes hr (nz_n hz) (fun t ht hW => ⟨⟨_, (), rfl, ⟨rfl, hz⟩, ⟨by rw [ht]; exact hP, va_K.moved hW.alike hK, hD⟩⟩, hS.F ht⟩) hS.2.2 d_Reader_takeBase_32
  · cases hf
    exact W.zret B.exec B.bytes hr (nz_n hz) (fun t ht hW => ⟨⟨_, (), rfl, ⟨rfl, hz⟩, ⟨by rw [ht]; exact hP, va_K.moved hW.alike hK, hD⟩⟩, hS.F ht⟩) hS.2.2 d_Reader_takeBase_50
  · cases hf
    exact W.zret B.exec B.bytes hr (nz_n hz) (fun t ht hW => ⟨⟨_, (), rfl, ⟨rfl, hz⟩, ⟨by rw [ht]; exact hP, va_K.moved hW.alike hK, hD⟩⟩, hS.F ht⟩) hS.2.2 d_Reader_takeBase_92
  · cases hf
    exact W.zret B.exec B.bytes hr (nz_n hz) (fun t ht hW => ⟨⟨_, (), rfl, ⟨rfl, hz⟩, ⟨by rw [ht]; exact hP, va_K.moved hW.alike hK, hD⟩⟩, hS.F ht⟩) hS.2.2 d_Reader_takeBase_105

/-! P_Reader_takeSamples -/
def l_P_Reader_takeSamples_40 (rd : Rd) (sy : Sy) (x2 : Int32) (x3 : Int32) (x4 : Int32) (x5 : Int32) (k82 : Pb → Br → Int32 → Option (Pb × Br × Sy)) : Nat → Pb → Br → Int32 → Int32 → Option (Pb × Br × Sy)
  | 0, _, _, _, _ => none
  | n + 1, pb, v, x6, x7 => gd (inb x2 40) <| (if (Sy_wd sy x2.toNatClampNeg) ≤ x7 then k82 pb v x6 else bd (f_SD_contextAt x6 x4 x7 x3) <| fun r_14 => bd (f_P_PlainBits_takeBit pb v r_14) <| fun (r_15, pb_16, v_17) => lt' (x6 ||| (r_15 <<< (x7 &&& 31))) <| fun x6_18 => lt' (x7 + 1) <| fun x7_19 => (l_P_Reader_takeSamples_40 rd sy x2 x3 x4 x5 k82 n) pb_16 v_17 x6_18 x7_19)
def l_P_Reader_takeSamples_23 (rd : Rd) (x2 : Int32) (x3 : Int32) (k110 : Pb → Br → Sy → Option (Pb × Br × Sy)) : Nat → Pb → Br → Sy → Int32 → Int32 → Option (Pb × Br × Sy)
  | 0, _, _, _, _, _ => none
  | n + 1, pb, v, sy, x4, x5 => gd (inb x2 40) <| (if (Sy_ht sy x2.toNatClampNeg) ≤ x5 then k110 pb v sy else l_P_Reader_takeSamples_40 rd sy x2 x3 x4 x5 (fun pb_20 v_21 x6_22 => bd (f_Symbols_foretoldRow sy x2 x5) <| fun r_23 => bd (f_Symbols_setRow sy x2 x5 (x6_22 ^^^ r_23)) <| fun (r_24, sy_25) => lt' (x5 + 1) <| fun x5_26 => (l_P_Reader_takeSamples_23 rd x2 x3 k110 n) pb_20 v_21 sy_25 x6_22 x5_26) 100000 pb v 0 0)
def j_P_Reader_takeSamples_16_3 (rd : Rd) (pb : Pb) (v : Br) (sy : Sy) (x2 : Int32) (z0_2 : Int32) : Option (Pb × Br × Sy) := l_P_Reader_takeSamples_23 rd x2 z0_2 (fun pb_27 v_28 sy_29 => some (pb_27, v_28, sy_29)) 100000 pb v sy 0 0
def f_P_Reader_takeSamples (rd : Rd) (pb : Pb) (v : Br) (sy : Sy) (x2 : Int32) : Option (Pb × Br × Sy) := gd (inb x2 40) <| (if (Sy_bs sy x2.toNatClampNeg) = (-1) then j_P_Reader_takeSamples_16_3 rd pb v sy x2 0 else j_P_Reader_takeSamples_16_3 rd pb v sy x2 16)
section
variable {p : Program} {l : Launch} {e : Env} {R : Room} {s : State} {m : MethodId} {args : Array Value} {below : List Frame} {meth : Method} {c : Code} {Q : State → Prop} {A : Nat → Prop}
set_option maxHeartbeats 4000000 in
set_option maxRecDepth 100000 in
theorem L_P_Reader_takeSamples_40 {cells slots : Nat} {dC : Nat → ClassId} {dI : Nat → Nat → Nat} {cI cZ cJ : ClassId} {rd_a : Nat → Nat} {pb_a : Nat → Nat} {v_a v_b : Nat} {sy_a : Nat → Nat} {lk_w : Nat} {rd : Rd} {sy : Sy} {x2 : Int32} {x3 : Int32} {x4 : Int32} {x5 : Int32} {k82 : Pb → Br → Int32 → Option (Pb × Br × Sy)} {res : Pb × Br × Sy} (C0 : cxt p c m s args R cells slots R_Reader c_Reader_takeSamples tb 8 (dC, dI) vwCl (TYS cI cZ cJ) A 2 49)
    (hk82 : ∀ (H : Heap) (locs : List Loc) (ls : Array Slot) (pb_9 : Pb) (v_10 : Br) (x6_11 : Int32), va_P (dC, dI) vwCl (wRd cI cZ cJ rd_a (pb_a 0) rd ++ wPb cI cZ cJ pb_a lk_w v_a pb_9 ++ wBr cI cZ cJ v_a v_b v_10 ++ wSy cI cZ cJ sy_a sy) H → va_D A (wRd cI cZ cJ rd_a (pb_a 0) rd ++ wPb cI cZ cJ pb_a lk_w v_a pb_9 ++ wBr cI cZ cJ v_a v_b v_10 ++ wSy cI cZ cJ sy_a sy) → va_S A s.heap H locs → lv_has ls 8 [(0, .ref (rd_a 0)), (1, .ref (sy_a 0)), (2, .int x2), (3, .int x3), (5, .int x5), (6, .int x6_11)] → k82 pb_9 v_10 x6_11 = some res → W p l e R s m args below meth c H locs cells slots Q (F0 m 82 ls [])) :
    ∀ (n : Nat) (H : Heap) (locs : List Loc) (ls : Array Slot) (pb : Pb) (v : Br) (x6 : Int32) (x7 : Int32), va_P (dC, dI) vwCl (wRd cI cZ cJ rd_a (pb_a 0) rd ++ wPb cI cZ cJ pb_a lk_w v_a pb ++ wBr cI cZ cJ v_a v_b v ++ wSy cI cZ cJ sy_a sy) H → va_D A (wRd cI cZ cJ rd_a (pb_a 0) rd ++ wPb cI cZ cJ pb_a lk_w v_a pb ++ wBr cI cZ cJ v_a v_b v ++ wSy cI cZ cJ sy_a sy) → va_S A s.heap H locs → lv_has ls 8 [(0, .ref (rd_a 0)), (1, .ref (sy_a 0)), (2, .int x2), (3, .int x3), (4, .int x4), (5, .int x5), (6, .int x6), (7, .int x7)] → l_P_Reader_takeSamples_40 rd sy x2 x3 x4 x5 k82 n pb v x6 x7 = some res → W p l e R s m args below meth c H locs cells slots Q (F0 m 40 ls []) := by
  obtain ⟨hx, hb, hml, hown, hts, hK, hA, hRf, hRl, hN, hRc⟩ := id C0
  intro n
  induction n with
  | zero =>
    intro H locs ls pb v x6 x7 hP hD hS hl hf
    exact absurd hf (by simp [l_P_Reader_takeSamples_40])
  | succ n ih =>
    intro H locs ls pb v x6 x7 hP hD hS hl hf
    rw [l_P_Reader_takeSamples_40] at hf
    refine lv_iload hx hb d_Reader_takeSamples_40 (lv_at hl 7 rfl) ?_
    refine lv_aload_n hx hb d_Reader_takeSamples_42 rfl (lv_at hl 1 rfl) ?_
    refine va_get (D := (dC, dI)) (ci := 0) (v := .ref (sy_a 1)) (C := R_Symbols) (T := T_Symbols) (N := 10) hx hb hts in_Symbols hown hK hP 4 rfl rfl 0 (by decide) (hts _ t_208) (fun _ h9 => h9) rfl d_Reader_takeSamples_43 ?_
    refine lv_iload_n hx hb d_Reader_takeSamples_46 rfl (lv_at hl 2 rfl) ?_
    obtain ⟨h_12, hf⟩ := gd_ex hf
    refine va_iald (f := Sy_wd sy) hx hb hK hP 5 0 rfl rfl (inb_in h_12) d_Reader_takeSamples_47 ?_
    refine lv_icmp_ge (tgt := 82) hx hb d_Reader_takeSamples_48 (by decide) (fun c_13 => ?_) (fun c_13 => ?_)
    · rw [if_pos c_13] at hf
      exact hk82 _ _ _ pb v x6 hP hD hS (lv_sub hl [0, 1, 2, 3, 5, 6] rfl) hf
    · rw [if_neg c_13] at hf
      refine lv_iload hx hb d_Reader_takeSamples_51 (lv_at hl 6 rfl) ?_
      refine lv_aload_n hx hb d_Reader_takeSamples_53 rfl (lv_at hl 0 rfl) ?_
      refine va_get (D := (dC, dI)) (ci := 5) (v := .ref (pb_a 0)) (C := R_Reader) (T := T_Reader) (N := 5) hx hb hts in_Reader hown hK hP 0 rfl rfl 1 (by decide) (hts _ t_185) (fun _ h9 => h9) rfl d_Reader_takeSamples_54 ?_
      refine lv_iload hx hb d_Reader_takeSamples_57 (lv_at hl 6 rfl) ?_
      refine lv_iload hx hb d_Reader_takeSamples_59 (lv_at hl 4 rfl) ?_
      refine lv_iload hx hb d_Reader_takeSamples_61 (lv_at hl 7 rfl) ?_
      refine lv_iload_n hx hb d_Reader_takeSamples_63 rfl (lv_at hl 3 rfl) ?_
      obtain ⟨r_14, hf1, hf⟩ := bd_ex hf
      try dsimp only at hf
      have hPc := hP.sub (ws' := ([] : va_W)) [] rfl
      have hDc := hD.sub (ws' := ([] : va_W)) [] (by decide) rfl
      have hFc := va_free (wc := ([] : va_W)) hD hS hA [] rfl
      refine va_calli (va_runSN (As := [.int x6, .int x4, .int x7, .int x3]) (rest := [.ref (pb_a 0), .int x6]) ⟨hx, hb, hml, hown, hts⟩ (k_SD_contextAt l dC dI cI cZ cJ H.size hf1) ⟨va_cnB 4 hts (tb_GI (tb_code t_418)) rfl rfl rfl hN.1.2.2 (hts _ t_54) hd_SD_contextAt.2 ⟨Nat.le_trans (Nat.le_of_ble_eq_true rfl) hRf, Nat.le_trans (Nat.le_of_ble_eq_true rfl) hRl⟩, hts _ t_417, trivial⟩ ⟨kP_blind, kP_at hPc hK hDc hN⟩ rfl rfl hl.1 rfl (lv_room (Nat.le_of_ble_eq_true rfl)) d_Reader_takeSamples_64 hRc) hS (fun q _ h => hFc q h) hFc (fun r9 u t H1 locs ht hvm hw hB hz1 hk1 hS => ?_)
      rw [hw]
      obtain ⟨hP, hD⟩ := kQ_join (wr := (wRd cI cZ cJ rd_a (pb_a 0) rd ++ wPb cI cZ cJ pb_a lk_w v_a pb ++ wBr cI cZ cJ v_a v_b v ++ wSy cI cZ cJ sy_a sy)) (w1 := ([] : va_W)) hP hD [] [0, 1, 2, 3, 4, 5, 6, 7, 8, 9, 10, 11, 12, 13] rfl rfl (by decide) (by decide) ht hk1 hFc hB
      generalize H1 = H at hP hS ⊢
      have hP : va_P (dC, dI) vwCl (wRd cI cZ cJ rd_a (pb_a 0) rd ++ wPb cI cZ cJ pb_a lk_w v_a pb ++ wBr cI cZ cJ v_a v_b v ++ wSy cI cZ cJ sy_a sy) H := hP.sub [0, 1, 2, 3, 4, 5, 6, 7, 8, 9, 10, 11, 12, 13] rfl
      have hD : va_D A (wRd cI cZ cJ rd_a (pb_a 0) rd ++ wPb cI cZ cJ pb_a lk_w v_a pb ++ wBr cI cZ cJ v_a v_b v ++ wSy cI cZ cJ sy_a sy) := hD.sub [0, 1, 2, 3, 4, 5, 6, 7, 8, 9, 10, 11, 12, 13] (by decide) rfl
      obtain ⟨⟨r_15, pb_16, v_17⟩, hf1, hf⟩ := bd_ex hf
      try dsimp only at hf
      have hPc := hP.sub (ws' := (wPb cI cZ cJ pb_a lk_w v_a pb ++ wBr cI cZ cJ v_a v_b v)) [1, 2, 3] rfl
      have hDc := hD.sub (ws' := (wPb cI cZ cJ pb_a lk_w v_a pb ++ wBr cI cZ cJ v_a v_b v)) [1, 2, 3] (by decide) rfl
      have hFc := va_free (wc := (wPb cI cZ cJ pb_a lk_w v_a pb ++ wBr cI cZ cJ v_a v_b v)) hD hS hA [1, 2, 3] rfl
      refine va_calli (va_runU (As := [.int r_14]) (rest := [.int x6]) ⟨hx, hb, hml, hown, hts⟩ (k_P_PlainBits_takeBit l dC dI cI cZ cJ pb_a v_a v_b lk_w H.size hf1) (va_cwA 1 hts (gU t_493 t_471 t_475 t_476 t_59 t_477) rfl rfl rfl (hN.2 _ (by decide +kernel)) hdx_Bits_takeBit ⟨Nat.le_trans (Nat.le_of_ble_eq_true rfl) hRf, Nat.le_trans (Nat.le_of_ble_eq_true rfl) hRl⟩) ⟨kP_blind, va_recv hK hP (ci := 2) (q0 := 1) rfl rfl, kP_at hPc hK hDc hN⟩ rfl rfl hl.1 rfl (lv_room (Nat.le_of_ble_eq_true rfl)) d_Reader_takeSamples_67 hRc) hS (fun q _ h => hFc q h) hFc (fun r9 u t H1 locs ht hvm hw hB hz1 hk1 hS => ?_)
      rw [hw]
      obtain ⟨hP, hD⟩ := kQ_join (wr := (wRd cI cZ cJ rd_a (pb_a 0) rd ++ wSy cI cZ cJ sy_a sy)) (w1 := (wPb cI cZ cJ pb_a lk_w v_a pb_16 ++ wBr cI cZ cJ v_a v_b v_17)) hP hD [1, 2, 3] [0, 4, 5, 6, 7, 8, 9, 10, 11, 12, 13] rfl rfl (by decide) (by decide) ht hk1 hFc hB
      generalize H1 = H at hP hS ⊢
      have hP : va_P (dC, dI) vwCl (wRd cI cZ cJ rd_a (pb_a 0) rd ++ wPb cI cZ cJ pb_a lk_w v_a pb_16 ++ wBr cI cZ cJ v_a v_b v_17 ++ wSy cI cZ cJ sy_a sy) H := hP.sub [0, 11, 12, 13, 1, 2, 3, 4, 5, 6, 7, 8, 9, 10] rfl
      have hD : va_D A (wRd cI cZ cJ rd_a (pb_a 0) rd ++ wPb cI cZ cJ pb_a lk_w v_a pb_16 ++ wBr cI cZ cJ v_a v_b v_17 ++ wSy cI cZ cJ sy_a sy) := hD.sub [0, 11, 12, 13, 1, 2, 3, 4, 5, 6, 7, 8, 9, 10] (by decide) rfl
      refine lv_iload hx hb d_Reader_takeSamples_70 (lv_at hl 7 rfl) ?_
      refine lv_ishl hx hb d_Reader_takeSamples_72 ?_
      refine lv_ior hx hb d_Reader_takeSamples_73 ?_
      obtain ⟨x6_18, ex6_18, hf⟩ := lt_ex hf
      try dsimp only at hf
      refine tp_i ex6_18 ?_
      refine lv_istore (lv' := [(6, .int x6_18), (0, .ref (rd_a 0)), (1, .ref (sy_a 0)), (2, .int x2), (3, .int x3), (4, .int x4), (5, .int x5), (7, .int x7)]) hx hb d_Reader_takeSamples_74 hl (by decide) rfl (fun ls hl => ?_)
      obtain ⟨x7_19, ex7_19, hf⟩ := lt_ex hf
      try dsimp only at hf
      refine lv_iinc (v := x7_19) (lv' := [(7, .int x7_19), (6, .int x6_18), (0, .ref (rd_a 0)), (1, .ref (sy_a 0)), (2, .int x2), (3, .int x3), (4, .int x4), (5, .int x5)]) hx hb d_Reader_takeSamples_76 hl (k := 7) rfl (by rw [ex7_19]; rfl) (by decide) rfl (fun ls hl => ?_)
      refine lv_goto (tgt := 40) hx hb d_Reader_takeSamples_79 (by decide) ?_
      exact ih _ _ _ pb_16 v_17 x6_18 x7_19 hP hD hS (lv_sub hl [2, 3, 4, 5, 6, 7, 1, 0] rfl) hf
set_option maxHeartbeats 4000000 in
set_option maxRecDepth 100000 in
theorem L_P_Reader_takeSamples_23 {cells slots : Nat} {dC : Nat → ClassId} {dI : Nat → Nat → Nat} {cI cZ cJ : ClassId} {rd_a : Nat → Nat} {pb_a : Nat → Nat} {v_a v_b : Nat} {sy_a : Nat → Nat} {lk_w : Nat} {rd : Rd} {x2 : Int32} {x3 : Int32} {k110 : Pb → Br → Sy → Option (Pb × Br × Sy)} {res : Pb × Br × Sy} (C0 : cxt p c m s args R cells slots R_Reader c_Reader_takeSamples tb 8 (dC, dI) vwCl (TYS cI cZ cJ) A 2 49)
    (hk110 : ∀ (H : Heap) (locs : List Loc) (ls : Array Slot) (pb_4 : Pb) (v_5 : Br) (sy_6 : Sy), va_P (dC, dI) vwCl (wRd cI cZ cJ rd_a (pb_a 0) rd ++ wPb cI cZ cJ pb_a lk_w v_a pb_4 ++ wBr cI cZ cJ v_a v_b v_5 ++ wSy cI cZ cJ sy_a sy_6) H → va_D A (wRd cI cZ cJ rd_a (pb_a 0) rd ++ wPb cI cZ cJ pb_a lk_w v_a pb_4 ++ wBr cI cZ cJ v_a v_b v_5 ++ wSy cI cZ cJ sy_a sy_6) → va_S A s.heap H locs → lv_has ls 8 [] → k110 pb_4 v_5 sy_6 = some res → W p l e R s m args below meth c H locs cells slots Q (F0 m 110 ls [])) :
    ∀ (n : Nat) (H : Heap) (locs : List Loc) (ls : Array Slot) (pb : Pb) (v : Br) (sy : Sy) (x4 : Int32) (x5 : Int32), va_P (dC, dI) vwCl (wRd cI cZ cJ rd_a (pb_a 0) rd ++ wPb cI cZ cJ pb_a lk_w v_a pb ++ wBr cI cZ cJ v_a v_b v ++ wSy cI cZ cJ sy_a sy) H → va_D A (wRd cI cZ cJ rd_a (pb_a 0) rd ++ wPb cI cZ cJ pb_a lk_w v_a pb ++ wBr cI cZ cJ v_a v_b v ++ wSy cI cZ cJ sy_a sy) → va_S A s.heap H locs → lv_has ls 8 [(0, .ref (rd_a 0)), (1, .ref (sy_a 0)), (2, .int x2), (3, .int x3), (4, .int x4), (5, .int x5)] → l_P_Reader_takeSamples_23 rd x2 x3 k110 n pb v sy x4 x5 = some res → W p l e R s m args below meth c H locs cells slots Q (F0 m 23 ls []) := by
  obtain ⟨hx, hb, hml, hown, hts, hK, hA, hRf, hRl, hN, hRc⟩ := id C0
  intro n
  induction n with
  | zero =>
    intro H locs ls pb v sy x4 x5 hP hD hS hl hf
    exact absurd hf (by simp [l_P_Reader_takeSamples_23])
  | succ n ih =>
    intro H locs ls pb v sy x4 x5 hP hD hS hl hf
    rw [l_P_Reader_takeSamples_23] at hf
    refine lv_iload hx hb d_Reader_takeSamples_23 (lv_at hl 5 rfl) ?_
    refine lv_aload_n hx hb d_Reader_takeSamples_25 rfl (lv_at hl 1 rfl) ?_
    refine va_get (D := (dC, dI)) (ci := 0) (v := .ref (sy_a 2)) (C := R_Symbols) (T := T_Symbols) (N := 10) hx hb hts in_Symbols hown hK hP 4 rfl rfl 1 (by decide) (hts _ t_212) (fun _ h9 => h9) rfl d_Reader_takeSamples_26 ?_
    refine lv_iload_n hx hb d_Reader_takeSamples_29 rfl (lv_at hl 2 rfl) ?_
    obtain ⟨h_7, hf⟩ := gd_ex hf
    refine va_iald (f := Sy_ht sy) hx hb hK hP 6 0 rfl rfl (inb_in h_7) d_Reader_takeSamples_30 ?_
    refine lv_icmp_ge (tgt := 110) hx hb d_Reader_takeSamples_31 (by decide) (fun c_8 => ?_) (fun c_8 => ?_)
    · rw [if_pos c_8] at hf
      exact hk110 _ _ _ pb v sy hP hD hS (lv_sub hl [] rfl) hf
    · rw [if_neg c_8] at hf
      refine lv_iconst (v := 0) hx hb d_Reader_takeSamples_34 (by decide) ?_
      refine lv_istore (lv' := [(6, .int 0), (0, .ref (rd_a 0)), (1, .ref (sy_a 0)), (2, .int x2), (3, .int x3), (4, .int x4), (5, .int x5)]) hx hb d_Reader_takeSamples_35 hl (by decide) rfl (fun ls hl => ?_)
      refine lv_iconst (v := 0) hx hb d_Reader_takeSamples_37 (by decide) ?_
      refine lv_istore (lv' := [(7, .int 0), (6, .int 0), (0, .ref (rd_a 0)), (1, .ref (sy_a 0)), (2, .int x2), (3, .int x3), (4, .int x4), (5, .int x5)]) hx hb d_Reader_takeSamples_38 hl (by decide) rfl (fun ls hl => ?_)
      refine L_P_Reader_takeSamples_40 C0 (fun H locs ls pb_20 v_21 x6_22 hP hD hS hl hf => ?_) 100000 _ _ _ pb v 0 0 hP hD hS (lv_sub hl [2, 3, 4, 5, 6, 7, 1, 0] rfl) hf
      try dsimp only at hf
      refine lv_aload_n hx hb d_Reader_takeSamples_82 rfl (lv_at hl 1 rfl) ?_
      refine lv_iload_n hx hb d_Reader_takeSamples_83 rfl (lv_at hl 2 rfl) ?_
      refine lv_iload hx hb d_Reader_takeSamples_84 (lv_at hl 4 rfl) ?_
      refine lv_iload hx hb d_Reader_takeSamples_86 (lv_at hl 5 rfl) ?_
      refine lv_aload_n hx hb d_Reader_takeSamples_88 rfl (lv_at hl 1 rfl) ?_
      refine lv_iload_n hx hb d_Reader_takeSamples_89 rfl (lv_at hl 2 rfl) ?_
      refine lv_iload hx hb d_Reader_takeSamples_90 (lv_at hl 4 rfl) ?_
      obtain ⟨r_23, hf1, hf⟩ := bd_ex hf
      try dsimp only at hf
      have hPc := hP.sub (ws' := (wSy cI cZ cJ sy_a sy)) [4, 5, 6, 7, 8, 9, 10, 11, 12, 13] rfl
      have hDc := hD.sub (ws' := (wSy cI cZ cJ sy_a sy)) [4, 5, 6, 7, 8, 9, 10, 11, 12, 13] (by decide) rfl
      have hFc := va_free (wc := (wSy cI cZ cJ sy_a sy)) hD hS hA [4, 5, 6, 7, 8, 9, 10, 11, 12, 13] rfl
      refine va_calli (va_runV (As := [.int x2, .int x5]) (rest := [.int x6_22, .int x5, .int x2, .ref (sy_a 0)]) ⟨hx, hb, hml, hown, hts⟩ (k_Symbols_foretoldRow l dC dI cI cZ cJ sy_a H.size hf1) (cwV 2 hts (gV t_527 t_400 t_401 t_62 t_402) rfl rfl rfl hd_Symbols_foretoldRow ⟨Nat.le_trans (Nat.le_of_ble_eq_true rfl) hRf, Nat.le_trans (Nat.le_of_ble_eq_true rfl) hRl⟩) ⟨kP_blind, va_recv hK hP (ci := 0) (q0 := 4) rfl rfl, kP_at hPc hK hDc hN⟩ rfl rfl hl.1 rfl (lv_room (Nat.le_of_ble_eq_true rfl)) d_Reader_takeSamples_92 hRc) hS (fun q _ h => hFc q h) hFc (fun r9 u t H1 locs ht hvm hw hB hz1 hk1 hS => ?_)
      rw [hw]
      obtain ⟨hP, hD⟩ := kQ_join (wr := (wRd cI cZ cJ rd_a (pb_a 0) rd ++ wPb cI cZ cJ pb_a lk_w v_a pb_20 ++ wBr cI cZ cJ v_a v_b v_21)) (w1 := (wSy cI cZ cJ sy_a sy)) hP hD [4, 5, 6, 7, 8, 9, 10, 11, 12, 13] [0, 1, 2, 3] rfl rfl (by decide) (by decide) ht hk1 hFc hB
      generalize H1 = H at hP hS ⊢
      have hP : va_P (dC, dI) vwCl (wRd cI cZ cJ rd_a (pb_a 0) rd ++ wPb cI cZ cJ pb_a lk_w v_a pb_20 ++ wBr cI cZ cJ v_a v_b v_21 ++ wSy cI cZ cJ sy_a sy) H := hP.sub [0, 1, 2, 3, 4, 5, 6, 7, 8, 9, 10, 11, 12, 13] rfl
      have hD : va_D A (wRd cI cZ cJ rd_a (pb_a 0) rd ++ wPb cI cZ cJ pb_a lk_w v_a pb_20 ++ wBr cI cZ cJ v_a v_b v_21 ++ wSy cI cZ cJ sy_a sy) := hD.sub [0, 1, 2, 3, 4, 5, 6, 7, 8, 9, 10, 11, 12, 13] (by decide) rfl
      refine lv_ixor hx hb d_Reader_takeSamples_95 ?_
      obtain ⟨⟨r_24, sy_25⟩, hf1, hf⟩ := bd_ex hf
      try dsimp only at hf
      have hPc := hP.sub (ws' := (wSy cI cZ cJ sy_a sy)) [4, 5, 6, 7, 8, 9, 10, 11, 12, 13] rfl
      have hDc := hD.sub (ws' := (wSy cI cZ cJ sy_a sy)) [4, 5, 6, 7, 8, 9, 10, 11, 12, 13] (by decide) rfl
      have hFc := va_free (wc := (wSy cI cZ cJ sy_a sy)) hD hS hA [4, 5, 6, 7, 8, 9, 10, 11, 12, 13] rfl
      refine va_calli (va_runV (As := [.int x2, .int x5, .int (x6_22 ^^^ r_23)]) (rest := []) ⟨hx, hb, hml, hown, hts⟩ (k_Symbols_setRow l dC dI cI cZ cJ sy_a H.size hf1) (cwV 3 hts (gV t_528 t_507 t_508 t_62 t_509) rfl rfl rfl hd_Symbols_setRow ⟨Nat.le_trans (Nat.le_of_ble_eq_true rfl) hRf, Nat.le_trans (Nat.le_of_ble_eq_true rfl) hRl⟩) ⟨kP_blind, va_recv hK hP (ci := 0) (q0 := 4) rfl rfl, kP_at hPc hK hDc hN⟩ rfl rfl hl.1 rfl (lv_room (Nat.le_of_ble_eq_true rfl)) d_Reader_takeSamples_96 hRc) hS (fun q _ h => hFc q h) hFc (fun r9 u t H1 locs ht hvm hw hB hz1 hk1 hS => ?_)
      rw [hw]
      obtain ⟨hP, hD⟩ := kQ_join (wr := (wRd cI cZ cJ rd_a (pb_a 0) rd ++ wPb cI cZ cJ pb_a lk_w v_a pb_20 ++ wBr cI cZ cJ v_a v_b v_21)) (w1 := (wSy cI cZ cJ sy_a sy_25)) hP hD [4, 5, 6, 7, 8, 9, 10, 11, 12, 13] [0, 1, 2, 3] rfl rfl (by decide) (by decide) ht hk1 hFc hB
      generalize H1 = H at hP hS ⊢
      have hP : va_P (dC, dI) vwCl (wRd cI cZ cJ rd_a (pb_a 0) rd ++ wPb cI cZ cJ pb_a lk_w v_a pb_20 ++ wBr cI cZ cJ v_a v_b v_21 ++ wSy cI cZ cJ sy_a sy_25) H := hP.sub [0, 1, 2, 3, 4, 5, 6, 7, 8, 9, 10, 11, 12, 13] rfl
      have hD : va_D A (wRd cI cZ cJ rd_a (pb_a 0) rd ++ wPb cI cZ cJ pb_a lk_w v_a pb_20 ++ wBr cI cZ cJ v_a v_b v_21 ++ wSy cI cZ cJ sy_a sy_25) := hD.sub [0, 1, 2, 3, 4, 5, 6, 7, 8, 9, 10, 11, 12, 13] (by decide) rfl
      refine lv_pop hx hb d_Reader_takeSamples_99 rfl ?_
      refine lv_iload hx hb d_Reader_takeSamples_100 (lv_at hl 5 rfl) ?_
      refine lv_istore (lv' := [(4, .int x6_22), (0, .ref (rd_a 0)), (1, .ref (sy_a 0)), (2, .int x2), (3, .int x3), (5, .int x5), (6, .int x6_22)]) hx hb d_Reader_takeSamples_102 hl (by decide) rfl (fun ls hl => ?_)
      obtain ⟨x5_26, ex5_26, hf⟩ := lt_ex hf
      try dsimp only at hf
      refine lv_iinc (v := x5_26) (lv' := [(5, .int x5_26), (4, .int x6_22), (0, .ref (rd_a 0)), (1, .ref (sy_a 0)), (2, .int x2), (3, .int x3), (6, .int x6_22)]) hx hb d_Reader_takeSamples_104 hl (k := 5) rfl (by rw [ex5_26]; rfl) (by decide) rfl (fun ls hl => ?_)
      refine lv_goto (tgt := 23) hx hb d_Reader_takeSamples_107 (by decide) ?_
      exact ih _ _ _ pb_20 v_21 sy_25 x6_22 x5_26 hP hD hS (lv_sub hl [2, 3, 4, 5, 1, 0] rfl) hf
set_option maxHeartbeats 4000000 in
set_option maxRecDepth 100000 in
theorem B_P_Reader_takeSamples {cells slots : Nat} {dC : Nat → ClassId} {dI : Nat → Nat → Nat} {cI cZ cJ : ClassId} {rd_a : Nat → Nat} {pb_a : Nat → Nat} {v_a v_b : Nat} {sy_a : Nat → Nat} {lk_w : Nat} {rd : Rd} {pb : Pb} {v : Br} {sy : Sy} {x2 : Int32} {res : Pb × Br × Sy} (C0 : cxt p c m s args R cells slots R_Reader c_Reader_takeSamples tb 8 (dC, dI) vwCl (TYS cI cZ cJ) A 2 49)
    (hr110 : ∀ (H : Heap) (locs : List Loc) (ls : Array Slot) (pb' : Pb) (v' : Br) (sy' : Sy), va_P (dC, dI) vwCl (wRd cI cZ cJ rd_a (pb_a 0) rd ++ wPb cI cZ cJ pb_a lk_w v_a pb' ++ wBr cI cZ cJ v_a v_b v' ++ wSy cI cZ cJ sy_a sy') H → va_D A (wRd cI cZ cJ rd_a (pb_a 0) rd ++ wPb cI cZ cJ pb_a lk_w v_a pb' ++ wBr cI cZ cJ v_a v_b v' ++ wSy cI cZ cJ sy_a sy') → va_S A s.heap H locs → some (pb', v', sy') = some res → W p l e R s m args below meth c H locs cells slots Q (F0 m 110 ls []))
    {H : Heap} {locs : List Loc} {ls : Array Slot} (hP : va_P (dC, dI) vwCl (wRd cI cZ cJ rd_a (pb_a 0) rd ++ wPb cI cZ cJ pb_a lk_w v_a pb ++ wBr cI cZ cJ v_a v_b v ++ wSy cI cZ cJ sy_a sy) H) (hD : va_D A (wRd cI cZ cJ rd_a (pb_a 0) rd ++ wPb cI cZ cJ pb_a lk_w v_a pb ++ wBr cI cZ cJ v_a v_b v ++ wSy cI cZ cJ sy_a sy)) (hS : va_S A s.heap H locs) (hl : lv_has ls 8 [(0, .ref (rd_a 0)), (1, .ref (sy_a 0)), (2, .int x2)]) (hf : f_P_Reader_takeSamples rd pb v sy x2 = some res) : W p l e R s m args below meth c H locs cells slots Q (F0 m 0 ls []) := by
  obtain ⟨hx, hb, hml, hown, hts, hK, hA, hRf, hRl, hN, hRc⟩ := id C0
  rw [f_P_Reader_takeSamples] at hf
  refine lv_aload_n hx hb d_Reader_takeSamples_0 rfl (lv_at hl 1 rfl) ?_
  refine va_get (D := (dC, dI)) (ci := 0) (v := .ref (sy_a 4)) (C := R_Symbols) (T := T_Symbols) (N := 10) hx hb hts in_Symbols hown hK hP 4 rfl rfl 3 (by decide) (hts _ t_221) (fun _ h9 => h9) rfl d_Reader_takeSamples_1 ?_
  refine lv_iload_n hx hb d_Reader_takeSamples_4 rfl (lv_at hl 2 rfl) ?_
  obtain ⟨h_1, hf⟩ := gd_ex hf
  refine va_iald (f := Sy_bs sy) hx hb hK hP 8 0 rfl rfl (inb_in h_1) d_Reader_takeSamples_5 ?_
  refine lv_iconst (v := (-1)) hx hb d_Reader_takeSamples_6 (by decide) ?_
  have J16_2 : ∀ (H : Heap) (locs : List Loc) (ls : Array Slot) (z0_2 : Int32), va_P (dC, dI) vwCl (wRd cI cZ cJ rd_a (pb_a 0) rd ++ wPb cI cZ cJ pb_a lk_w v_a pb ++ wBr cI cZ cJ v_a v_b v ++ wSy cI cZ cJ sy_a sy) H → va_D A (wRd cI cZ cJ rd_a (pb_a 0) rd ++ wPb cI cZ cJ pb_a lk_w v_a pb ++ wBr cI cZ cJ v_a v_b v ++ wSy cI cZ cJ sy_a sy) → va_S A s.heap H locs → lv_has ls 8 [(0, .ref (rd_a 0)), (1, .ref (sy_a 0)), (2, .int x2)] → j_P_Reader_takeSamples_16_3 rd pb v sy x2 z0_2 = some res → W p l e R s m args below meth c H locs cells slots Q (F0 m 16 ls [.int z0_2]) := by
    intro H locs ls z0_2 hP hD hS hl hf
    rw [j_P_Reader_takeSamples_16_3] at hf
    refine lv_istore_n (lv' := [(3, .int z0_2), (0, .ref (rd_a 0)), (1, .ref (sy_a 0)), (2, .int x2)]) hx hb d_Reader_takeSamples_16 rfl hl (by decide) rfl (fun ls hl => ?_)
    refine lv_iconst (v := 0) hx hb d_Reader_takeSamples_17 (by decide) ?_
    refine lv_istore (lv' := [(4, .int 0), (3, .int z0_2), (0, .ref (rd_a 0)), (1, .ref (sy_a 0)), (2, .int x2)]) hx hb d_Reader_takeSamples_18 hl (by decide) rfl (fun ls hl => ?_)
    refine lv_iconst (v := 0) hx hb d_Reader_takeSamples_20 (by decide) ?_
    refine lv_istore (lv' := [(5, .int 0), (4, .int 0), (3, .int z0_2), (0, .ref (rd_a 0)), (1, .ref (sy_a 0)), (2, .int x2)]) hx hb d_Reader_takeSamples_21 hl (by decide) rfl (fun ls hl => ?_)
    refine L_P_Reader_takeSamples_23 C0 (fun H locs ls pb_27 v_28 sy_29 hP hD hS hl hf => ?_) 100000 _ _ _ pb v sy 0 0 hP hD hS (lv_sub hl [3, 4, 5, 2, 1, 0] rfl) hf
    try dsimp only at hf
    exact hr110 _ _ _ pb_27 v_28 sy_29 hP hD hS hf
  refine lv_icmp_ne (tgt := 14) hx hb d_Reader_takeSamples_7 (by decide) (fun c_30 => ?_) (fun c_30 => ?_)
  · rw [if_neg c_30] at hf
    refine lv_bipush (v := 16) hx hb d_Reader_takeSamples_14 (by decide) ?_
    exact J16_2 _ _ _ 16 hP hD hS (lv_sub hl [0, 1, 2] rfl) hf
  · rw [if_pos c_30] at hf
    refine lv_iconst (v := 0) hx hb d_Reader_takeSamples_10 (by decide) ?_
    refine lv_goto (tgt := 16) hx hb d_Reader_takeSamples_11 (by decide) ?_
    exact J16_2 _ _ _ 0 hP hD hS (lv_sub hl [0, 1, 2] rfl) hf
end
set_option maxHeartbeats 4000000 in
set_option maxRecDepth 100000 in
theorem k_P_Reader_takeSamples (l : Launch) (dC : Nat → ClassId) (dI : Nat → Nat → Nat) (cI cZ cJ : ClassId) (rd_a : Nat → Nat) (pb_a : Nat → Nat) (v_a v_b : Nat) (sy_a : Nat → Nat) (lk_w : Nat) (sz : Nat) {rd : Rd} {pb : Pb} {v : Br} {sy : Sy} {x2 : Int32} {pb' : Pb} {v' : Br} {sy' : Sy} (hf : f_P_Reader_takeSamples rd pb v sy x2 = some (pb', v', sy')) :
    Met l y_Reader_takeSamples ws_Reader_takeSamples ({ frames := 2, cells := 0, slots := 0, locals := 49 }) (va_Pc [.ref (rd_a 0), .ref (sy_a 0), .int x2] (kP (dC, dI) vwCl (TYS cI cZ cJ) (wRd cI cZ cJ rd_a (pb_a 0) rd ++ wPb cI cZ cJ pb_a lk_w v_a pb ++ wBr cI cZ cJ v_a v_b v ++ wSy cI cZ cJ sy_a sy) sz)) (va_Qv (fun (_ : Unit) => True) (fun _ t => kQ (dC, dI) vwCl (TYS cI cZ cJ) (wRd cI cZ cJ rd_a (pb_a 0) rd ++ wPb cI cZ cJ pb_a lk_w v_a pb ++ wBr cI cZ cJ v_a v_b v ++ wSy cI cZ cJ sy_a sy) sz (wRd cI cZ cJ rd_a (pb_a 0) rd ++ wPb cI cZ cJ pb_a lk_w v_a pb' ++ wBr cI cZ cJ v_a v_b v' ++ wSy cI cZ cJ sy_a sy') t) (va_A (wRd cI cZ cJ rd_a (pb_a 0) rd ++ wPb cI cZ cJ pb_a lk_w v_a pb ++ wBr cI cZ cJ v_a v_b v ++ wSy cI cZ cJ sy_a sy) sz)) 0 0 (va_A (wRd cI cZ cJ rd_a (pb_a 0) rd ++ wPb cI cZ cJ pb_a lk_w v_a pb ++ wBr cI cZ cJ v_a v_b v ++ wSy cI cZ cJ sy_a sy) sz) := by
  refine Met.ofW (cc := c_Reader_takeSamples) (maxL := 8) (ret := none) (by decide) rfl ?_
  intro p e s m args below meth c s₁ B hml hv
  obtain ⟨rfl, hsz, hP, hK, hD0, hN⟩ := hv
  have hr := B.returns
  have hlocks := B.notSynchronized
  subst hsz
  have hD := hD0.self (sz := s.heap.size)
  have hl := lv_entry ([.ref (rd_a 0), .ref (sy_a 0), .int x2]) (n := 8) (Nat.le_of_ble_eq_true rfl)
  rw [lg_entry_eq]
  generalize (lg_sl ([.ref (rd_a 0), .ref (sy_a 0), .int x2]) ++ List.replicate (8 - (lg_sl ([.ref (rd_a 0), .ref (sy_a 0), .int x2])).length) Slot.unset).toArray = ls at hl ⊢
  refine B_P_Reader_takeSamples (A := va_A (wRd cI cZ cJ rd_a (pb_a 0) rd ++ wPb cI cZ cJ pb_a lk_w v_a pb ++ wBr cI cZ cJ v_a v_b v ++ wSy cI cZ cJ sy_a sy) s.heap.size) ⟨B.exec, B.bytes, hml, findClass_of_methodNamed B.named, fun w h => atoms_spec (ws := ws_Reader_takeSamples) B.pre w (List.mem_cons_of_mem _ h), hK, fun q h => Or.inr h, Nat.le_of_ble_eq_true rfl, Nat.le_of_ble_eq_true rfl, hN, Nat.le_of_ble_eq_true rfl, Nat.le_of_ble_eq_true rfl⟩ (fun H locs ls pb'1 v'1 sy'1 hP hD hS hf => ?_) hP hD va_S.rf hl hf
  · cases hf
    exact W.vret B.exec B.bytes hr (fun t ht hW => ⟨⟨(), rfl, trivial, ⟨by rw [ht]; exact hP, va_K.moved hW.alike hK, hD⟩⟩, hS.F ht⟩) hS.2.2 d_Reader_takeSamples_110

/-! P_Reader_turnRun -/
def l_P_Reader_turnRun_11 (rd : Rd) (x2 : Int32) (x3 : Int32) (x4 : Int32) (k45 : Sy → Option (Sy)) : Nat → Sy → Int32 → Option (Sy)
  | 0, _, _ => none
  | n + 1, sy, x5 => (if (x3 + x4) ≤ x5 then k45 sy else gd (decide (¬ (Rd_w rd) = 0)) <| gd (decide (¬ (Rd_w rd) = 0)) <| bd (f_Symbols_turn sy x2 (x5 - x5 / (Rd_w rd) * (Rd_w rd)) (x5 / (Rd_w rd))) <| fun sy_6 => lt' (x5 + 1) <| fun x5_7 => (l_P_Reader_turnRun_11 rd x2 x3 x4 k45 n) sy_6 x5_7)
def f_P_Reader_turnRun (rd : Rd) (sy : Sy) (x2 : Int32) (x3 : Int32) (x4 : Int32) : Option (Sy) := (if (Rd_w rd) = 0 then some sy else l_P_Reader_turnRun_11 rd x2 x3 x4 (fun sy_8 => some sy_8) 100000 sy x3)
section
variable {p : Program} {l : Launch} {e : Env} {R : Room} {s : State} {m : MethodId} {args : Array Value} {below : List Frame} {meth : Method} {c : Code} {Q : State → Prop} {A : Nat → Prop}
set_option maxHeartbeats 4000000 in
set_option maxRecDepth 100000 in
theorem L_P_Reader_turnRun_11 {cells slots : Nat} {dC : Nat → ClassId} {dI : Nat → Nat → Nat} {cI cZ cJ : ClassId} {rd_a : Nat → Nat} {sy_a : Nat → Nat} {lk_pb : Nat} {rd : Rd} {x2 : Int32} {x3 : Int32} {x4 : Int32} {k45 : Sy → Option (Sy)} {res : Sy} (C0 : cxt p c m s args R cells slots R_Reader c_Reader_turnRun tb 6 (dC, dI) vwCl (TYS cI cZ cJ) A 1 23)
    (hk45 : ∀ (H : Heap) (locs : List Loc) (ls : Array Slot) (sy_2 : Sy), va_P (dC, dI) vwCl (wRd cI cZ cJ rd_a lk_pb rd ++ wSy cI cZ cJ sy_a sy_2) H → va_D A (wRd cI cZ cJ rd_a lk_pb rd ++ wSy cI cZ cJ sy_a sy_2) → va_S A s.heap H locs → lv_has ls 6 [] → k45 sy_2 = some res → W p l e R s m args below meth c H locs cells slots Q (F0 m 45 ls [])) :
    ∀ (n : Nat) (H : Heap) (locs : List Loc) (ls : Array Slot) (sy : Sy) (x5 : Int32), va_P (dC, dI) vwCl (wRd cI cZ cJ rd_a lk_pb rd ++ wSy cI cZ cJ sy_a sy) H → va_D A (wRd cI cZ cJ rd_a lk_pb rd ++ wSy cI cZ cJ sy_a sy) → va_S A s.heap H locs → lv_has ls 6 [(0, .ref (rd_a 0)), (1, .ref (sy_a 0)), (2, .int x2), (3, .int x3), (4, .int x4), (5, .int x5)] → l_P_Reader_turnRun_11 rd x2 x3 x4 k45 n sy x5 = some res → W p l e R s m args below meth c H locs cells slots Q (F0 m 11 ls []) := by
  obtain ⟨hx, hb, hml, hown, hts, hK, hA, hRf, hRl, hN, hRc⟩ := id C0
  intro n
  induction n with
  | zero =>
    intro H locs ls sy x5 hP hD hS hl hf
    exact absurd hf (by simp [l_P_Reader_turnRun_11])
  | succ n ih =>
    intro H locs ls sy x5 hP hD hS hl hf
    rw [l_P_Reader_turnRun_11] at hf
    refine lv_iload hx hb d_Reader_turnRun_11 (lv_at hl 5 rfl) ?_
    refine lv_iload_n hx hb d_Reader_turnRun_13 rfl (lv_at hl 3 rfl) ?_
    refine lv_iload hx hb d_Reader_turnRun_14 (lv_at hl 4 rfl) ?_
    refine lv_iadd hx hb d_Reader_turnRun_16 ?_
    refine lv_icmp_ge (tgt := 45) hx hb d_Reader_turnRun_17 (by decide) (fun c_3 => ?_) (fun c_3 => ?_)
    · rw [if_pos c_3] at hf
      exact hk45 _ _ _ sy hP hD hS (lv_sub hl [] rfl) hf
    · rw [if_neg c_3] at hf
      refine lv_aload_n hx hb d_Reader_turnRun_20 rfl (lv_at hl 1 rfl) ?_
      refine lv_iload_n hx hb d_Reader_turnRun_21 rfl (lv_at hl 2 rfl) ?_
      refine lv_iload hx hb d_Reader_turnRun_22 (lv_at hl 5 rfl) ?_
      refine lv_aload_n hx hb d_Reader_turnRun_24 rfl (lv_at hl 0 rfl) ?_
      refine va_get (D := (dC, dI)) (ci := 5) (v := .int (Rd_w rd)) (C := R_Reader) (T := T_Reader) (N := 5) hx hb hts in_Reader hown hK hP 0 rfl rfl 4 (by decide) (hts _ t_188) (fun _ h9 => h9) rfl d_Reader_turnRun_25 ?_
      obtain ⟨h_4, hf⟩ := gd_ex hf
      refine lv_irem hx hb d_Reader_turnRun_28 (of_decide_eq_true h_4) ?_
      refine lv_iload hx hb d_Reader_turnRun_29 (lv_at hl 5 rfl) ?_
      refine lv_aload_n hx hb d_Reader_turnRun_31 rfl (lv_at hl 0 rfl) ?_
      refine va_get (D := (dC, dI)) (ci := 5) (v := .int (Rd_w rd)) (C := R_Reader) (T := T_Reader) (N := 5) hx hb hts in_Reader hown hK hP 0 rfl rfl 4 (by decide) (hts _ t_188) (fun _ h9 => h9) rfl d_Reader_turnRun_32 ?_
      obtain ⟨h_5, hf⟩ := gd_ex hf
      refine lv_idiv hx hb d_Reader_turnRun_35 (of_decide_eq_true h_5) ?_
      obtain ⟨sy_6, hf1, hf⟩ := bd_ex hf
      try dsimp only at hf
      have hPc := hP.sub (ws' := (wSy cI cZ cJ sy_a sy)) [1, 2, 3, 4, 5, 6, 7, 8, 9, 10] rfl
      have hDc := hD.sub (ws' := (wSy cI cZ cJ sy_a sy)) [1, 2, 3, 4, 5, 6, 7, 8, 9, 10] (by decide) rfl
      have hFc := va_free (wc := (wSy cI cZ cJ sy_a sy)) hD hS hA [1, 2, 3, 4, 5, 6, 7, 8, 9, 10] rfl
      refine va_callv (va_runV (As := [.int x2, .int (x5 - x5 / (Rd_w rd) * (Rd_w rd)), .int (x5 / (Rd_w rd))]) (rest := []) ⟨hx, hb, hml, hown, hts⟩ (k_Symbols_turn l dC dI cI cZ cJ sy_a H.size hf1) (cwV 3 hts (gV t_537 t_538 t_539 t_62 t_540) rfl rfl rfl hd_Symbols_turn ⟨Nat.le_trans (Nat.le_of_ble_eq_true rfl) hRf, Nat.le_trans (Nat.le_of_ble_eq_true rfl) hRl⟩) ⟨kP_blind, va_recv hK hP (ci := 0) (q0 := 1) rfl rfl, kP_at hPc hK hDc hN⟩ rfl rfl hl.1 rfl (lv_room (Nat.le_of_ble_eq_true rfl)) d_Reader_turnRun_36 hRc) hS (fun q _ h => hFc q h) hFc (fun u t H1 locs ht hvm hw hB hz1 hk1 hS => ?_)
      obtain ⟨hP, hD⟩ := kQ_join (wr := (wRd cI cZ cJ rd_a lk_pb rd)) (w1 := (wSy cI cZ cJ sy_a sy_6)) hP hD [1, 2, 3, 4, 5, 6, 7, 8, 9, 10] [0] rfl rfl (by decide) (by decide) ht hk1 hFc hB
      generalize H1 = H at hP hS ⊢
      have hP : va_P (dC, dI) vwCl (wRd cI cZ cJ rd_a lk_pb rd ++ wSy cI cZ cJ sy_a sy_6) H := hP.sub [0, 1, 2, 3, 4, 5, 6, 7, 8, 9, 10] rfl
      have hD : va_D A (wRd cI cZ cJ rd_a lk_pb rd ++ wSy cI cZ cJ sy_a sy_6) := hD.sub [0, 1, 2, 3, 4, 5, 6, 7, 8, 9, 10] (by decide) rfl
      obtain ⟨x5_7, ex5_7, hf⟩ := lt_ex hf
      try dsimp only at hf
      refine lv_iinc (v := x5_7) (lv' := [(5, .int x5_7), (0, .ref (rd_a 0)), (1, .ref (sy_a 0)), (2, .int x2), (3, .int x3), (4, .int x4)]) hx hb d_Reader_turnRun_39 hl (k := 5) rfl (by rw [ex5_7]; rfl) (by decide) rfl (fun ls hl => ?_)
      refine lv_goto (tgt := 11) hx hb d_Reader_turnRun_42 (by decide) ?_
      exact ih _ _ _ sy_6 x5_7 hP hD hS (lv_sub hl [1, 2, 3, 4, 5, 0] rfl) hf
set_option maxHeartbeats 4000000 in
set_option maxRecDepth 100000 in
theorem B_P_Reader_turnRun {cells slots : Nat} {dC : Nat → ClassId} {dI : Nat → Nat → Nat} {cI cZ cJ : ClassId} {rd_a : Nat → Nat} {sy_a : Nat → Nat} {lk_pb : Nat} {rd : Rd} {sy : Sy} {x2 : Int32} {x3 : Int32} {x4 : Int32} {res : Sy} (C0 : cxt p c m s args R cells slots R_Reader c_Reader_turnRun tb 6 (dC, dI) vwCl (TYS cI cZ cJ) A 1 23)
    (hr7 : ∀ (H : Heap) (locs : List Loc) (ls : Array Slot) (sy' : Sy), va_P (dC, dI) vwCl (wRd cI cZ cJ rd_a lk_pb rd ++ wSy cI cZ cJ sy_a sy') H → va_D A (wRd cI cZ cJ rd_a lk_pb rd ++ wSy cI cZ cJ sy_a sy') → va_S A s.heap H locs → some sy' = some res → W p l e R s m args below meth c H locs cells slots Q (F0 m 7 ls []))
    (hr45 : ∀ (H : Heap) (locs : List Loc) (ls : Array Slot) (sy' : Sy), va_P (dC, dI) vwCl (wRd cI cZ cJ rd_a lk_pb rd ++ wSy cI cZ cJ sy_a sy') H → va_D A (wRd cI cZ cJ rd_a lk_pb rd ++ wSy cI cZ cJ sy_a sy') → va_S A s.heap H locs → some sy' = some res → W p l e R s m args below meth c H locs cells slots Q (F0 m 45 ls []))
    {H : Heap} {locs : List Loc} {ls : Array Slot} (hP : va_P (dC, dI) vwCl (wRd cI cZ cJ rd_a lk_pb rd ++ wSy cI cZ cJ sy_a sy) H) (hD : va_D A (wRd cI cZ cJ rd_a lk_pb rd ++ wSy cI cZ cJ sy_a sy)) (hS : va_S A s.heap H locs) (hl : lv_has ls 6 [(0, .ref (rd_a 0)), (1, .ref (sy_a 0)), (2, .int x2), (3, .int x3), (4, .int x4)]) (hf : f_P_Reader_turnRun rd sy x2 x3 x4 = some res) : W p l e R s m args below meth c H locs cells slots Q (F0 m 0 ls []) := by
  obtain ⟨hx, hb, hml, hown, hts, hK, hA, hRf, hRl, hN, hRc⟩ := id C0
  rw [f_P_Reader_turnRun] at hf
  refine lv_aload_n hx hb d_Reader_turnRun_0 rfl (lv_at hl 0 rfl) ?_
  refine va_get (D := (dC, dI)) (ci := 5) (v := .int (Rd_w rd)) (C := R_Reader) (T := T_Reader) (N := 5) hx hb hts in_Reader hown hK hP 0 rfl rfl 4 (by decide) (hts _ t_188) (fun _ h9 => h9) rfl d_Reader_turnRun_1 ?_
  refine lv_if_ne (tgt := 8) hx hb d_Reader_turnRun_4 (by decide) (fun c_1 => ?_) (fun c_1 => ?_)
  · rw [if_neg c_1] at hf
    refine lv_iload_n hx hb d_Reader_turnRun_8 rfl (lv_at hl 3 rfl) ?_
    refine lv_istore (lv' := [(5, .int x3), (0, .ref (rd_a 0)), (1, .ref (sy_a 0)), (2, .int x2), (3, .int x3), (4, .int x4)]) hx hb d_Reader_turnRun_9 hl (by decide) rfl (fun ls hl => ?_)
    refine L_P_Reader_turnRun_11 C0 (fun H locs ls sy_8 hP hD hS hl hf => ?_) 100000 _ _ _ sy x3 hP hD hS (lv_sub hl [1, 2, 3, 4, 5, 0] rfl) hf
    try dsimp only at hf
    exact hr45 _ _ _ sy_8 hP hD hS hf
  · rw [if_pos c_1] at hf
    exact hr7 _ _ _ sy hP hD hS hf
end
set_option maxHeartbeats 4000000 in
set_option maxRecDepth 100000 in
theorem k_P_Reader_turnRun (l : Launch) (dC : Nat → ClassId) (dI : Nat → Nat → Nat) (cI cZ cJ : ClassId) (rd_a : Nat → Nat) (sy_a : Nat → Nat) (lk_pb : Nat) (sz : Nat) {rd : Rd} {sy : Sy} {x2 : Int32} {x3 : Int32} {x4 : Int32} {sy' : Sy} (hf : f_P_Reader_turnRun rd sy x2 x3 x4 = some sy') :
    Met l y_Reader_turnRun ws_Reader_turnRun ({ frames := 1, cells := 0, slots := 0, locals := 23 }) (va_Pc [.ref (rd_a 0), .ref (sy_a 0), .int x2, .int x3, .int x4] (kP (dC, dI) vwCl (TYS cI cZ cJ) (wRd cI cZ cJ rd_a lk_pb rd ++ wSy cI cZ cJ sy_a sy) sz)) (va_Qv (fun (_ : Unit) => True) (fun _ t => kQ (dC, dI) vwCl (TYS cI cZ cJ) (wRd cI cZ cJ rd_a lk_pb rd ++ wSy cI cZ cJ sy_a sy) sz (wRd cI cZ cJ rd_a lk_pb rd ++ wSy cI cZ cJ sy_a sy') t) (va_A (wRd cI cZ cJ rd_a lk_pb rd ++ wSy cI cZ cJ sy_a sy) sz)) 0 0 (va_A (wRd cI cZ cJ rd_a lk_pb rd ++ wSy cI cZ cJ sy_a sy) sz) := by
  refine Met.ofW (cc := c_Reader_turnRun) (maxL := 6) (ret := none) (by decide) rfl ?_
  intro p e s m args below meth c s₁ B hml hv
  obtain ⟨rfl, hsz, hP, hK, hD0, hN⟩ := hv
  have hr := B.returns
  have hlocks := B.notSynchronized
  subst hsz
  have hD := hD0.self (sz := s.heap.size)
  have hl := lv_entry ([.ref (rd_a 0), .ref (sy_a 0), .int x2, .int x3, .int x4]) (n := 6) (Nat.le_of_ble_eq_true rfl)
  rw [lg_entry_eq]
  generalize (lg_sl ([.ref (rd_a 0), .ref (sy_a 0), .int x2, .int x3, .int x4]) ++ List.replicate (6 - (lg_sl ([.ref (rd_a 0), .ref (sy_a 0), .int x2, .int x3, .int x4])).length) Slot.unset).toArray = ls at hl ⊢
  refine B_P_Reader_turnRun (A := va_A (wRd cI cZ cJ rd_a lk_pb rd ++ wSy cI cZ cJ sy_a sy) s.heap.size) ⟨B.exec, B.bytes, hml, findClass_of_methodNamed B.named, fun w h => atoms_spec (ws := ws_Reader_turnRun) B.pre w (List.mem_cons_of_mem _ h), hK, fun q h => Or.inr h, Nat.le_of_ble_eq_true rfl, Nat.le_of_ble_eq_true rfl, hN, Nat.le_of_ble_eq_true rfl, Nat.le_of_ble_eq_true rfl⟩ (fun H locs ls sy'1 hP hD hS hf => ?_) (fun H locs ls sy'1 hP hD hS hf => ?_) hP hD va_S.rf hl hf
  · cases hf
    exact W.vret B.exec B.bytes hr (fun t ht hW => ⟨⟨(), rfl, trivial, ⟨by rw [ht]; exact hP, va_K.moved hW.alike hK, hD⟩⟩, hS.F ht⟩) hS.2.2 d_Reader_turnRun_7
  · cases hf
    exact W.vret B.exec B.bytes hr (fun t ht hW => ⟨⟨(), rfl, trivial, ⟨by rw [ht]; exact hP, va_K.moved hW.alike hK, hD⟩⟩, hS.F ht⟩) hS.2.2 d_Reader_turnRun_45

/-! P_Reader_takeRuns -/
def l_P_Reader_takeRuns_19 (rd : Rd) (pb : Pb) (v : Br) (x2 : Int32) (x3 : Int32) (x4 : Int32) (x5 : Int32) (k49 : Sy → Option (Int32 × Rd × Pb × Br × Sy)) : Nat → Sy → Int32 → Option (Int32 × Rd × Pb × Br × Sy)
  | 0, _, _ => none
  | n + 1, sy, x6 => (if (Rd_h rd) ≤ x6 then k49 sy else bd (f_Symbols_foretoldRow sy x2 x6) <| fun r_4 => bd (f_Symbols_setRow sy x2 x6 r_4) <| fun (r_5, sy_6) => lt' (x6 + 1) <| fun x6_7 => (l_P_Reader_takeRuns_19 rd pb v x2 x3 x4 x5 k49 n) sy_6 x6_7)
def j_P_Reader_takeRuns_118_26 (x4 : Int32) (x5 : Int32) (x6 : Int32) (rc52 : Pb → Br → Sy → Int32 → Int32 → Int32 → Option (Int32 × Rd × Pb × Br × Sy)) (r_20 : Int32) (pb_21 : Pb) (v_22 : Br) (sy_25 : Sy) : Option (Int32 × Rd × Pb × Br × Sy) := lt' (x4 + r_20) <| fun x4_27 => (if x5 = 0 then lt' (x6 + 1) <| fun x6_30 => rc52 pb_21 v_22 sy_25 x4_27 1 x6_30 else lt' (x6 + 1) <| fun x6_29 => rc52 pb_21 v_22 sy_25 x4_27 0 x6_29)
def l_P_Reader_takeRuns_52 (rd : Rd) (x2 : Int32) (x3 : Int32) (k81 : Pb → Br → Sy → Option (Int32 × Rd × Pb × Br × Sy)) (k97 : Pb → Br → Sy → Option (Int32 × Rd × Pb × Br × Sy)) (k143 : Pb → Br → Sy → Option (Int32 × Rd × Pb × Br × Sy)) : Nat → Pb → Br → Sy → Int32 → Int32 → Int32 → Option (Int32 × Rd × Pb × Br × Sy)
  | 0, _, _, _, _, _, _ => none
  | n + 1, pb, v, sy, x4, x5, x6 => (if 24001 ≤ x6 then k143 pb v sy else (if x3 ≤ x4 then k143 pb v sy else bd (f_P_Bits_takeNumber pb v) <| fun (r_20, pb_21, v_22) => (if r_20 = (-1) then k81 pb_21 v_22 sy else (if r_20 ≤ (x3 - x4) then (if x5 = 0 then j_P_Reader_takeRuns_118_26 x4 x5 x6 (l_P_Reader_takeRuns_52 rd x2 x3 k81 k97 k143 n) r_20 pb_21 v_22 sy else bd (f_P_Reader_turnRun rd sy x2 x4 r_20) <| fun sy_32 => j_P_Reader_takeRuns_118_26 x4 x5 x6 (l_P_Reader_takeRuns_52 rd x2 x3 k81 k97 k143 n) r_20 pb_21 v_22 sy_32) else k97 pb_21 v_22 sy))))
def f_P_Reader_takeRuns (rd : Rd) (pb : Pb) (v : Br) (sy : Sy) (x2 : Int32) : Option (Int32 × Rd × Pb × Br × Sy) := lt' ((Rd_w rd) * (Rd_h rd)) <| fun x3_1 => l_P_Reader_takeRuns_19 rd pb v x2 x3_1 0 0 (fun sy_8 => l_P_Reader_takeRuns_52 rd x2 x3_1 (fun pb_33 v_34 sy_35 => bd (f_P_Reader_refuse rd 7) <| fun (r_42, rd_43) => gd (decide (vp_nar .boolean r_42 = r_42)) <| some (r_42, rd_43, pb_33, v_34, sy_35)) (fun pb_36 v_37 sy_38 => bd (f_P_Reader_refuse rd 5) <| fun (r_44, rd_45) => gd (decide (vp_nar .boolean r_44 = r_44)) <| some (r_44, rd_45, pb_36, v_37, sy_38)) (fun pb_39 v_40 sy_41 => some (1, rd, pb_39, v_40, sy_41)) 100000 pb v sy_8 0 0 0) 100000 sy 0
section
variable {p : Program} {l : Launch} {e : Env} {R : Room} {s : State} {m : MethodId} {args : Array Value} {below : List Frame} {meth : Method} {c : Code} {Q : State → Prop} {A : Nat → Prop}
set_option maxHeartbeats 4000000 in
set_option maxRecDepth 100000 in
theorem L_P_Reader_takeRuns_19 {cells slots : Nat} {dC : Nat → ClassId} {dI : Nat → Nat → Nat} {cI cZ cJ : ClassId} {rd_a : Nat → Nat} {pb_a : Nat → Nat} {v_a v_b : Nat} {sy_a : Nat → Nat} {lk_w : Nat} {rd : Rd} {pb : Pb} {v : Br} {x2 : Int32} {x3 : Int32} {x4 : Int32} {x5 : Int32} {k49 : Sy → Option (Int32 × Rd × Pb × Br × Sy)} {res : Int32 × Rd × Pb × Br × Sy} (C0 : cxt p c m s args R cells slots R_Reader c_Reader_takeRuns tb 8 (dC, dI) vwCl (TYS cI cZ cJ) A 4 86)
    (hk49 : ∀ (H : Heap) (locs : List Loc) (ls : Array Slot) (sy_2 : Sy), va_P (dC, dI) vwCl (wRd cI cZ cJ rd_a (pb_a 0) rd ++ wPb cI cZ cJ pb_a lk_w v_a pb ++ wBr cI cZ cJ v_a v_b v ++ wSy cI cZ cJ sy_a sy_2) H → va_D A (wRd cI cZ cJ rd_a (pb_a 0) rd ++ wPb cI cZ cJ pb_a lk_w v_a pb ++ wBr cI cZ cJ v_a v_b v ++ wSy cI cZ cJ sy_a sy_2) → va_S A s.heap H locs → lv_has ls 8 [(0, .ref (rd_a 0)), (1, .ref (sy_a 0)), (2, .int x2), (3, .int x3), (4, .int x4), (5, .int x5)] → k49 sy_2 = some res → W p l e R s m args below meth c H locs cells slots Q (F0 m 49 ls [])) :
    ∀ (n : Nat) (H : Heap) (locs : List Loc) (ls : Array Slot) (sy : Sy) (x6 : Int32), va_P (dC, dI) vwCl (wRd cI cZ cJ rd_a (pb_a 0) rd ++ wPb cI cZ cJ pb_a lk_w v_a pb ++ wBr cI cZ cJ v_a v_b v ++ wSy cI cZ cJ sy_a sy) H → va_D A (wRd cI cZ cJ rd_a (pb_a 0) rd ++ wPb cI cZ cJ pb_a lk_w v_a pb ++ wBr cI cZ cJ v_a v_b v ++ wSy cI cZ cJ sy_a sy) → va_S A s.heap H locs → lv_has ls 8 [(0, .ref (rd_a 0)), (1, .ref (sy_a 0)), (2, .int x2), (3, .int x3), (4, .int x4), (5, .int x5), (6, .int x6)] → l_P_Reader_takeRuns_19 rd pb v x2 x3 x4 x5 k49 n sy x6 = some res → W p l e R s m args below meth c H locs cells slots Q (F0 m 19 ls []) := by
  obtain ⟨hx, hb, hml, hown, hts, hK, hA, hRf, hRl, hN, hRc⟩ := id C0
  intro n
  induction n with
  | zero =>
    intro H locs ls sy x6 hP hD hS hl hf
    exact absurd hf (by simp [l_P_Reader_takeRuns_19])
  | succ n ih =>
    intro H locs ls sy x6 hP hD hS hl hf
    rw [l_P_Reader_takeRuns_19] at hf
    refine lv_iload hx hb d_Reader_takeRuns_19 (lv_at hl 6 rfl) ?_
    refine lv_aload_n hx hb d_Reader_takeRuns_21 rfl (lv_at hl 0 rfl) ?_
    refine va_get (D := (dC, dI)) (ci := 5) (v := .int (Rd_h rd)) (C := R_Reader) (T := T_Reader) (N := 5) hx hb hts in_Reader hown hK hP 0 rfl rfl 3 (by decide) (hts _ t_187) (fun _ h9 => h9) rfl d_Reader_takeRuns_22 ?_
    refine lv_icmp_ge (tgt := 49) hx hb d_Reader_takeRuns_25 (by decide) (fun c_3 => ?_) (fun c_3 => ?_)
    · rw [if_pos c_3] at hf
      exact hk49 _ _ _ sy hP hD hS (lv_sub hl [0, 1, 2, 3, 4, 5] rfl) hf
    · rw [if_neg c_3] at hf
      refine lv_aload_n hx hb d_Reader_takeRuns_28 rfl (lv_at hl 1 rfl) ?_
      refine lv_iload_n hx hb d_Reader_takeRuns_29 rfl (lv_at hl 2 rfl) ?_
      refine lv_iload hx hb d_Reader_takeRuns_30 (lv_at hl 6 rfl) ?_
      refine lv_aload_n hx hb d_Reader_takeRuns_32 rfl (lv_at hl 1 rfl) ?_
      refine lv_iload_n hx hb d_Reader_takeRuns_33 rfl (lv_at hl 2 rfl) ?_
      refine lv_iload hx hb d_Reader_takeRuns_34 (lv_at hl 6 rfl) ?_
      obtain ⟨r_4, hf1, hf⟩ := bd_ex hf
      try dsimp only at hf
      have hPc := hP.sub (ws' := (wSy cI cZ cJ sy_a sy)) [4, 5, 6, 7, 8, 9, 10, 11, 12, 13] rfl
      have hDc := hD.sub (ws' := (wSy cI cZ cJ sy_a sy)) [4, 5, 6, 7, 8, 9, 10, 11, 12, 13] (by decide) rfl
      have hFc := va_free (wc := (wSy cI cZ cJ sy_a sy)) hD hS hA [4, 5, 6, 7, 8, 9, 10, 11, 12, 13] rfl
      refine va_calli (va_runV (As := [.int x2, .int x6]) (rest := [.int x6, .int x2, .ref (sy_a 0)]) ⟨hx, hb, hml, hown, hts⟩ (k_Symbols_foretoldRow l dC dI cI cZ cJ sy_a H.size hf1) (cwV 2 hts (gV t_527 t_400 t_401 t_62 t_402) rfl rfl rfl hd_Symbols_foretoldRow ⟨Nat.le_trans (Nat.le_of_ble_eq_true rfl) hRf, Nat.le_trans (Nat.le_of_ble_eq_true rfl) hRl⟩) ⟨kP_blind, va_recv hK hP (ci := 0) (q0 := 4) rfl rfl, kP_at hPc hK hDc hN⟩ rfl rfl hl.1 rfl (lv_room (Nat.le_of_ble_eq_true rfl)) d_Reader_takeRuns_36 hRc) hS (fun q _ h => hFc q h) hFc (fun r9 u t H1 locs ht hvm hw hB hz1 hk1 hS => ?_)
      rw [hw]
      obtain ⟨hP, hD⟩ := kQ_join (wr := (wRd cI cZ cJ rd_a (pb_a 0) rd ++ wPb cI cZ cJ pb_a lk_w v_a pb ++ wBr cI cZ cJ v_a v_b v)) (w1 := (wSy cI cZ cJ sy_a sy)) hP hD [4, 5, 6, 7, 8, 9, 10, 11, 12, 13] [0, 1, 2, 3] rfl rfl (by decide) (by decide) ht hk1 hFc hB
      generalize H1 = H at hP hS ⊢
      have hP : va_P (dC, dI) vwCl (wRd cI cZ cJ rd_a (pb_a 0) rd ++ wPb cI cZ cJ pb_a lk_w v_a pb ++ wBr cI cZ cJ v_a v_b v ++ wSy cI cZ cJ sy_a sy) H := hP.sub [0, 1, 2, 3, 4, 5, 6, 7, 8, 9, 10, 11, 12, 13] rfl
      have hD : va_D A (wRd cI cZ cJ rd_a (pb_a 0) rd ++ wPb cI cZ cJ pb_a lk_w v_a pb ++ wBr cI cZ cJ v_a v_b v ++ wSy cI cZ cJ sy_a sy) := hD.sub [0, 1, 2, 3, 4, 5, 6, 7, 8, 9, 10, 11, 12, 13] (by decide) rfl
      obtain ⟨⟨r_5, sy_6⟩, hf1, hf⟩ := bd_ex hf
      try dsimp only at hf
      have hPc := hP.sub (ws' := (wSy cI cZ cJ sy_a sy)) [4, 5, 6, 7, 8, 9, 10, 11, 12, 13] rfl
      have hDc := hD.sub (ws' := (wSy cI cZ cJ sy_a sy)) [4, 5, 6, 7, 8, 9, 10, 11, 12, 13] (by decide) rfl
      have hFc := va_free (wc := (wSy cI cZ cJ sy_a sy)) hD hS hA [4, 5, 6, 7, 8, 9, 10, 11, 12, 13] rfl
      refine va_calli (va_runV (As := [.int x2, .int x6, .int r_4]) (rest := []) ⟨hx, hb, hml, hown, hts⟩ (k_Symbols_setRow l dC dI cI cZ cJ sy_a H.size hf1) (cwV 3 hts (gV t_528 t_507 t_508 t_62 t_509) rfl rfl rfl hd_Symbols_setRow ⟨Nat.le_trans (Nat.le_of_ble_eq_true rfl) hRf, Nat.le_trans (Nat.le_of_ble_eq_true rfl) hRl⟩) ⟨kP_blind, va_recv hK hP (ci := 0) (q0 := 4) rfl rfl, kP_at hPc hK hDc hN⟩ rfl rfl hl.1 rfl (lv_room (Nat.le_of_ble_eq_true rfl)) d_Reader_takeRuns_39 hRc) hS (fun q _ h => hFc q h) hFc (fun r9 u t H1 locs ht hvm hw hB hz1 hk1 hS => ?_)
      rw [hw]
      obtain ⟨hP, hD⟩ := kQ_join (wr := (wRd cI cZ cJ rd_a (pb_a 0) rd ++ wPb cI cZ cJ pb_a lk_w v_a pb ++ wBr cI cZ cJ v_a v_b v)) (w1 := (wSy cI cZ cJ sy_a sy_6)) hP hD [4, 5, 6, 7, 8, 9, 10, 11, 12, 13] [0, 1, 2, 3] rfl rfl (by decide) (by decide) ht hk1 hFc hB
      generalize H1 = H at hP hS ⊢
      have hP : va_P (dC, dI) vwCl (wRd cI cZ cJ rd_a (pb_a 0) rd ++ wPb cI cZ cJ pb_a lk_w v_a pb ++ wBr cI cZ cJ v_a v_b v ++ wSy cI cZ cJ sy_a sy_6) H := hP.sub [0, 1, 2, 3, 4, 5, 6, 7, 8, 9, 10, 11, 12, 13] rfl
      have hD : va_D A (wRd cI cZ cJ rd_a (pb_a 0) rd ++ wPb cI cZ cJ pb_a lk_w v_a pb ++ wBr cI cZ cJ v_a v_b v ++ wSy cI cZ cJ sy_a sy_6) := hD.sub [0, 1, 2, 3, 4, 5, 6, 7, 8, 9, 10, 11, 12, 13] (by decide) rfl
      refine lv_pop hx hb d_Reader_takeRuns_42 rfl ?_
      obtain ⟨x6_7, ex6_7, hf⟩ := lt_ex hf
      try dsimp only at hf
      refine lv_iinc (v := x6_7) (lv' := [(6, .int x6_7), (0, .ref (rd_a 0)), (1, .ref (sy_a 0)), (2, .int x2), (3, .int x3), (4, .int x4), (5, .int x5)]) hx hb d_Reader_takeRuns_43 hl (k := 6) rfl (by rw [ex6_7]; rfl) (by decide) rfl (fun ls hl => ?_)
      refine lv_goto (tgt := 19) hx hb d_Reader_takeRuns_46 (by decide) ?_
      exact ih _ _ _ sy_6 x6_7 hP hD hS (lv_sub hl [1, 2, 3, 4, 5, 6, 0] rfl) hf
set_option maxHeartbeats 4000000 in
set_option maxRecDepth 100000 in
theorem L_P_Reader_takeRuns_52 {cells slots : Nat} {dC : Nat → ClassId} {dI : Nat → Nat → Nat} {cI cZ cJ : ClassId} {rd_a : Nat → Nat} {pb_a : Nat → Nat} {v_a v_b : Nat} {sy_a : Nat → Nat} {lk_w : Nat} {rd : Rd} {x2 : Int32} {x3 : Int32} {k81 : Pb → Br → Sy → Option (Int32 × Rd × Pb × Br × Sy)} {k97 : Pb → Br → Sy → Option (Int32 × Rd × Pb × Br × Sy)} {k143 : Pb → Br → Sy → Option (Int32 × Rd × Pb × Br × Sy)} {res : Int32 × Rd × Pb × Br × Sy} (C0 : cxt p c m s args R cells slots R_Reader c_Reader_takeRuns tb 8 (dC, dI) vwCl (TYS cI cZ cJ) A 4 86)
    (hk81 : ∀ (H : Heap) (locs : List Loc) (ls : Array Slot) (pb_9 : Pb) (v_10 : Br) (sy_11 : Sy), va_P (dC, dI) vwCl (wRd cI cZ cJ rd_a (pb_a 0) rd ++ wPb cI cZ cJ pb_a lk_w v_a pb_9 ++ wBr cI cZ cJ v_a v_b v_10 ++ wSy cI cZ cJ sy_a sy_11) H → va_D A (wRd cI cZ cJ rd_a (pb_a 0) rd ++ wPb cI cZ cJ pb_a lk_w v_a pb_9 ++ wBr cI cZ cJ v_a v_b v_10 ++ wSy cI cZ cJ sy_a sy_11) → va_S A s.heap H locs → lv_has ls 8 [(0, .ref (rd_a 0))] → k81 pb_9 v_10 sy_11 = some res → W p l e R s m args below meth c H locs cells slots Q (F0 m 81 ls []))
    (hk97 : ∀ (H : Heap) (locs : List Loc) (ls : Array Slot) (pb_12 : Pb) (v_13 : Br) (sy_14 : Sy), va_P (dC, dI) vwCl (wRd cI cZ cJ rd_a (pb_a 0) rd ++ wPb cI cZ cJ pb_a lk_w v_a pb_12 ++ wBr cI cZ cJ v_a v_b v_13 ++ wSy cI cZ cJ sy_a sy_14) H → va_D A (wRd cI cZ cJ rd_a (pb_a 0) rd ++ wPb cI cZ cJ pb_a lk_w v_a pb_12 ++ wBr cI cZ cJ v_a v_b v_13 ++ wSy cI cZ cJ sy_a sy_14) → va_S A s.heap H locs → lv_has ls 8 [(0, .ref (rd_a 0))] → k97 pb_12 v_13 sy_14 = some res → W p l e R s m args below meth c H locs cells slots Q (F0 m 97 ls []))
    (hk143 : ∀ (H : Heap) (locs : List Loc) (ls : Array Slot) (pb_15 : Pb) (v_16 : Br) (sy_17 : Sy), va_P (dC, dI) vwCl (wRd cI cZ cJ rd_a (pb_a 0) rd ++ wPb cI cZ cJ pb_a lk_w v_a pb_15 ++ wBr cI cZ cJ v_a v_b v_16 ++ wSy cI cZ cJ sy_a sy_17) H → va_D A (wRd cI cZ cJ rd_a (pb_a 0) rd ++ wPb cI cZ cJ pb_a lk_w v_a pb_15 ++ wBr cI cZ cJ v_a v_b v_16 ++ wSy cI cZ cJ sy_a sy_17) → va_S A s.heap H locs → lv_has ls 8 [] → k143 pb_15 v_16 sy_17 = some res → W p l e R s m args below meth c H locs cells slots Q (F0 m 143 ls [])) :
    ∀ (n : Nat) (H : Heap) (locs : List Loc) (ls : Array Slot) (pb : Pb) (v : Br) (sy : Sy) (x4 : Int32) (x5 : Int32) (x6 : Int32), va_P (dC, dI) vwCl (wRd cI cZ cJ rd_a (pb_a 0) rd ++ wPb cI cZ cJ pb_a lk_w v_a pb ++ wBr cI cZ cJ v_a v_b v ++ wSy cI cZ cJ sy_a sy) H → va_D A (wRd cI cZ cJ rd_a (pb_a 0) rd ++ wPb cI cZ cJ pb_a lk_w v_a pb ++ wBr cI cZ cJ v_a v_b v ++ wSy cI cZ cJ sy_a sy) → va_S A s.heap H locs → lv_has ls 8 [(0, .ref (rd_a 0)), (1, .ref (sy_a 0)), (2, .int x2), (3, .int x3), (4, .int x4), (5, .int x5), (6, .int x6)] → l_P_Reader_takeRuns_52 rd x2 x3 k81 k97 k143 n pb v sy x4 x5 x6 = some res → W p l e R s m args below meth c H locs cells slots Q (F0 m 52 ls []) := by
  obtain ⟨hx, hb, hml, hown, hts, hK, hA, hRf, hRl, hN, hRc⟩ := id C0
  intro n
  induction n with
  | zero =>
    intro H locs ls pb v sy x4 x5 x6 hP hD hS hl hf
    exact absurd hf (by simp [l_P_Reader_takeRuns_52])
  | succ n ih =>
    intro H locs ls pb v sy x4 x5 x6 hP hD hS hl hf
    rw [l_P_Reader_takeRuns_52] at hf
    refine lv_iload hx hb d_Reader_takeRuns_52 (lv_at hl 6 rfl) ?_
    refine lv_sipush (v := 24001) hx hb d_Reader_takeRuns_54 (by decide) ?_
    refine lv_icmp_ge (tgt := 143) hx hb d_Reader_takeRuns_57 (by decide) (fun c_18 => ?_) (fun c_18 => ?_)
    · rw [if_pos c_18] at hf
      exact hk143 _ _ _ pb v sy hP hD hS (lv_sub hl [] rfl) hf
    · rw [if_neg c_18] at hf
      refine lv_iload hx hb d_Reader_takeRuns_60 (lv_at hl 4 rfl) ?_
      refine lv_iload_n hx hb d_Reader_takeRuns_62 rfl (lv_at hl 3 rfl) ?_
      refine lv_icmp_ge (tgt := 143) hx hb d_Reader_takeRuns_63 (by decide) (fun c_19 => ?_) (fun c_19 => ?_)
      · rw [if_pos c_19] at hf
        exact hk143 _ _ _ pb v sy hP hD hS (lv_sub hl [] rfl) hf
      · rw [if_neg c_19] at hf
        refine lv_aload_n hx hb d_Reader_takeRuns_66 rfl (lv_at hl 0 rfl) ?_
        refine va_get (D := (dC, dI)) (ci := 5) (v := .ref (pb_a 0)) (C := R_Reader) (T := T_Reader) (N := 5) hx hb hts in_Reader hown hK hP 0 rfl rfl 1 (by decide) (hts _ t_185) (fun _ h9 => h9) rfl d_Reader_takeRuns_67 ?_
        obtain ⟨⟨r_20, pb_21, v_22⟩, hf1, hf⟩ := bd_ex hf
        try dsimp only at hf
        have hPc := hP.sub (ws' := (wPb cI cZ cJ pb_a lk_w v_a pb ++ wBr cI cZ cJ v_a v_b v)) [1, 2, 3] rfl
        have hDc := hD.sub (ws' := (wPb cI cZ cJ pb_a lk_w v_a pb ++ wBr cI cZ cJ v_a v_b v)) [1, 2, 3] (by decide) rfl
        have hFc := va_free (wc := (wPb cI cZ cJ pb_a lk_w v_a pb ++ wBr cI cZ cJ v_a v_b v)) hD hS hA [1, 2, 3] rfl
        refine va_calli (va_runU (As := []) (rest := []) ⟨hx, hb, hml, hown, hts⟩ (k_P_Bits_takeNumber l dC dI cI cZ cJ pb_a v_a v_b lk_w H.size hf1) (va_cwU 0 hts (gU t_463 t_465 t_467 t_464 t_57 t_468) rfl rfl rfl rfl hd_Bits_takeNumber.2 ⟨Nat.le_trans (Nat.le_of_ble_eq_true rfl) hRf, Nat.le_trans (Nat.le_of_ble_eq_true rfl) hRl⟩) ⟨kP_blind, va_recv hK hP (ci := 2) (q0 := 1) rfl rfl, kP_at hPc hK hDc hN⟩ rfl rfl hl.1 rfl (lv_room (Nat.le_of_ble_eq_true rfl)) d_Reader_takeRuns_70 hRc) hS (fun q _ h => hFc q h) hFc (fun r9 u t H1 locs ht hvm hw hB hz1 hk1 hS => ?_)
        rw [hw]
        obtain ⟨hP, hD⟩ := kQ_join (wr := (wRd cI cZ cJ rd_a (pb_a 0) rd ++ wSy cI cZ cJ sy_a sy)) (w1 := (wPb cI cZ cJ pb_a lk_w v_a pb_21 ++ wBr cI cZ cJ v_a v_b v_22)) hP hD [1, 2, 3] [0, 4, 5, 6, 7, 8, 9, 10, 11, 12, 13] rfl rfl (by decide) (by decide) ht hk1 hFc hB
        generalize H1 = H at hP hS ⊢
        have hP : va_P (dC, dI) vwCl (wRd cI cZ cJ rd_a (pb_a 0) rd ++ wPb cI cZ cJ pb_a lk_w v_a pb_21 ++ wBr cI cZ cJ v_a v_b v_22 ++ wSy cI cZ cJ sy_a sy) H := hP.sub [0, 11, 12, 13, 1, 2, 3, 4, 5, 6, 7, 8, 9, 10] rfl
        have hD : va_D A (wRd cI cZ cJ rd_a (pb_a 0) rd ++ wPb cI cZ cJ pb_a lk_w v_a pb_21 ++ wBr cI cZ cJ v_a v_b v_22 ++ wSy cI cZ cJ sy_a sy) := hD.sub [0, 11, 12, 13, 1, 2, 3, 4, 5, 6, 7, 8, 9, 10] (by decide) rfl
        refine lv_istore (lv' := [(7, .int r_20), (0, .ref (rd_a 0)), (1, .ref (sy_a 0)), (2, .int x2), (3, .int x3), (4, .int x4), (5, .int x5), (6, .int x6)]) hx hb d_Reader_takeRuns_73 hl (by decide) rfl (fun ls hl => ?_)
        refine lv_iload hx hb d_Reader_takeRuns_75 (lv_at hl 0 rfl) ?_
        refine lv_iconst (v := (-1)) hx hb d_Reader_takeRuns_77 (by decide) ?_
        refine lv_icmp_ne (tgt := 88) hx hb d_Reader_takeRuns_78 (by decide) (fun c_23 => ?_) (fun c_23 => ?_)
        · rw [if_neg c_23] at hf
          refine lv_iload hx hb d_Reader_takeRuns_88 (lv_at hl 0 rfl) ?_
          refine lv_iload_n hx hb d_Reader_takeRuns_90 rfl (lv_at hl 4 rfl) ?_
          refine lv_iload hx hb d_Reader_takeRuns_91 (lv_at hl 5 rfl) ?_
          refine lv_isub hx hb d_Reader_takeRuns_93 ?_
          refine lv_icmp_le (tgt := 103) hx hb d_Reader_takeRuns_94 (by decide) (fun c_24 => ?_) (fun c_24 => ?_)
          · rw [if_pos c_24] at hf
            refine lv_iload hx hb d_Reader_takeRuns_103 (lv_at hl 6 rfl) ?_
            have J118_25 : ∀ (H : Heap) (locs : List Loc) (ls : Array Slot) (sy_25 : Sy), va_P (dC, dI) vwCl (wRd cI cZ cJ rd_a (pb_a 0) rd ++ wPb cI cZ cJ pb_a lk_w v_a pb_21 ++ wBr cI cZ cJ v_a v_b v_22 ++ wSy cI cZ cJ sy_a sy_25) H → va_D A (wRd cI cZ cJ rd_a (pb_a 0) rd ++ wPb cI cZ cJ pb_a lk_w v_a pb_21 ++ wBr cI cZ cJ v_a v_b v_22 ++ wSy cI cZ cJ sy_a sy_25) → va_S A s.heap H locs → lv_has ls 8 [(0, .ref (rd_a 0)), (1, .ref (sy_a 0)), (2, .int x2), (3, .int x3), (4, .int x4), (5, .int x5), (6, .int x6), (7, .int r_20)] → j_P_Reader_takeRuns_118_26 x4 x5 x6 (l_P_Reader_takeRuns_52 rd x2 x3 k81 k97 k143 n) r_20 pb_21 v_22 sy_25 = some res → W p l e R s m args below meth c H locs cells slots Q (F0 m 118 ls []) := by
              intro H locs ls sy_25 hP hD hS hl hf
              rw [j_P_Reader_takeRuns_118_26] at hf
              refine lv_iload hx hb d_Reader_takeRuns_118 (lv_at hl 4 rfl) ?_
              refine lv_iload hx hb d_Reader_takeRuns_120 (lv_at hl 7 rfl) ?_
              refine lv_iadd hx hb d_Reader_takeRuns_122 ?_
              obtain ⟨x4_27, ex4_27, hf⟩ := lt_ex hf
              try dsimp only at hf
              refine tp_i ex4_27 ?_
              refine lv_istore (lv' := [(4, .int x4_27), (0, .ref (rd_a 0)), (1, .ref (sy_a 0)), (2, .int x2), (3, .int x3), (5, .int x5), (6, .int x6), (7, .int r_20)]) hx hb d_Reader_takeRuns_123 hl (by decide) rfl (fun ls hl => ?_)
              refine lv_iload hx hb d_Reader_takeRuns_125 (lv_at hl 5 rfl) ?_
              refine lv_if_ne (tgt := 134) hx hb d_Reader_takeRuns_127 (by decide) (fun c_28 => ?_) (fun c_28 => ?_)
              · rw [if_neg c_28] at hf
                refine lv_iconst (v := 0) hx hb d_Reader_takeRuns_134 (by decide) ?_
                refine lv_istore (lv' := [(5, .int 0), (4, .int x4_27), (0, .ref (rd_a 0)), (1, .ref (sy_a 0)), (2, .int x2), (3, .int x3), (6, .int x6), (7, .int r_20)]) hx hb d_Reader_takeRuns_135 hl (by decide) rfl (fun ls hl => ?_)
                obtain ⟨x6_29, ex6_29, hf⟩ := lt_ex hf
                try dsimp only at hf
                refine lv_iinc (v := x6_29) (lv' := [(6, .int x6_29), (5, .int 0), (4, .int x4_27), (0, .ref (rd_a 0)), (1, .ref (sy_a 0)), (2, .int x2), (3, .int x3), (7, .int r_20)]) hx hb d_Reader_takeRuns_137 hl (k := 6) rfl (by rw [ex6_29]; rfl) (by decide) rfl (fun ls hl => ?_)
                refine lv_goto (tgt := 52) hx hb d_Reader_takeRuns_140 (by decide) ?_
                exact ih _ _ _ pb_21 v_22 sy_25 x4_27 0 x6_29 hP hD hS (lv_sub hl [3, 4, 5, 6, 2, 1, 0] rfl) hf
              · rw [if_pos c_28] at hf
                refine lv_iconst (v := 1) hx hb d_Reader_takeRuns_130 (by decide) ?_
                refine lv_goto (tgt := 135) hx hb d_Reader_takeRuns_131 (by decide) ?_
                refine lv_istore (lv' := [(5, .int 1), (4, .int x4_27), (0, .ref (rd_a 0)), (1, .ref (sy_a 0)), (2, .int x2), (3, .int x3), (6, .int x6), (7, .int r_20)]) hx hb d_Reader_takeRuns_135 hl (by decide) rfl (fun ls hl => ?_)
                obtain ⟨x6_30, ex6_30, hf⟩ := lt_ex hf
                try dsimp only at hf
                refine lv_iinc (v := x6_30) (lv' := [(6, .int x6_30), (5, .int 1), (4, .int x4_27), (0, .ref (rd_a 0)), (1, .ref (sy_a 0)), (2, .int x2), (3, .int x3), (7, .int r_20)]) hx hb d_Reader_takeRuns_137 hl (k := 6) rfl (by rw [ex6_30]; rfl) (by decide) rfl (fun ls hl => ?_)
                refine lv_goto (tgt := 52) hx hb d_Reader_takeRuns_140 (by decide) ?_
                exact ih _ _ _ pb_21 v_22 sy_25 x4_27 1 x6_30 hP hD hS (lv_sub hl [3, 4, 5, 6, 2, 1, 0] rfl) hf
            refine lv_if_eq (tgt := 118) hx hb d_Reader_takeRuns_105 (by decide) (fun c_31 => ?_) (fun c_31 => ?_)
            · rw [if_pos c_31] at hf
              exact J118_25 _ _ _ sy hP hD hS (lv_sub hl [1, 2, 3, 4, 5, 6, 7, 0] rfl) hf
            · rw [if_neg c_31] at hf
              refine lv_aload_n hx hb d_Reader_takeRuns_108 rfl (lv_at hl 1 rfl) ?_
              refine lv_aload_n hx hb d_Reader_takeRuns_109 rfl (lv_at hl 2 rfl) ?_
              refine lv_iload_n hx hb d_Reader_takeRuns_110 rfl (lv_at hl 3 rfl) ?_
              refine lv_iload hx hb d_Reader_takeRuns_111 (lv_at hl 5 rfl) ?_
              refine lv_iload hx hb d_Reader_takeRuns_113 (lv_at hl 0 rfl) ?_
              obtain ⟨sy_32, hf1, hf⟩ := bd_ex hf
              try dsimp only at hf
              have hPc := hP.sub (ws' := (wRd cI cZ cJ rd_a (pb_a 0) rd ++ wSy cI cZ cJ sy_a sy)) [0, 4, 5, 6, 7, 8, 9, 10, 11, 12, 13] rfl
              have hDc := hD.sub (ws' := (wRd cI cZ cJ rd_a (pb_a 0) rd ++ wSy cI cZ cJ sy_a sy)) [0, 4, 5, 6, 7, 8, 9, 10, 11, 12, 13] (by decide) rfl
              have hFc := va_free (wc := (wRd cI cZ cJ rd_a (pb_a 0) rd ++ wSy cI cZ cJ sy_a sy)) hD hS hA [0, 4, 5, 6, 7, 8, 9, 10, 11, 12, 13] rfl
              refine va_callv (va_runV (As := [.ref (sy_a 0), .int x2, .int x4, .int r_20]) (rest := []) ⟨hx, hb, hml, hown, hts⟩ (k_P_Reader_turnRun l dC dI cI cZ cJ rd_a sy_a (pb_a 0) H.size hf1) (cwV 4 hts (gV t_533 t_535 t_18 t_61 t_536) rfl rfl rfl hd_Reader_turnRun ⟨Nat.le_trans (Nat.le_of_ble_eq_true rfl) hRf, Nat.le_trans (Nat.le_of_ble_eq_true rfl) hRl⟩) ⟨kP_blind, va_recv hK hP (ci := 5) (q0 := 0) rfl rfl, kP_at hPc hK hDc hN⟩ rfl rfl hl.1 rfl (lv_room (Nat.le_of_ble_eq_true rfl)) d_Reader_takeRuns_115 hRc) hS (fun q _ h => hFc q h) hFc (fun u t H1 locs ht hvm hw hB hz1 hk1 hS => ?_)
              obtain ⟨hP, hD⟩ := kQ_join (wr := (wPb cI cZ cJ pb_a lk_w v_a pb_21 ++ wBr cI cZ cJ v_a v_b v_22)) (w1 := (wRd cI cZ cJ rd_a (pb_a 0) rd ++ wSy cI cZ cJ sy_a sy_32)) hP hD [0, 4, 5, 6, 7, 8, 9, 10, 11, 12, 13] [1, 2, 3] rfl rfl (by decide) (by decide) ht hk1 hFc hB
              generalize H1 = H at hP hS ⊢
              have hP : va_P (dC, dI) vwCl (wRd cI cZ cJ rd_a (pb_a 0) rd ++ wPb cI cZ cJ pb_a lk_w v_a pb_21 ++ wBr cI cZ cJ v_a v_b v_22 ++ wSy cI cZ cJ sy_a sy_32) H := hP.sub [3, 0, 1, 2, 4, 5, 6, 7, 8, 9, 10, 11, 12, 13] rfl
              have hD : va_D A (wRd cI cZ cJ rd_a (pb_a 0) rd ++ wPb cI cZ cJ pb_a lk_w v_a pb_21 ++ wBr cI cZ cJ v_a v_b v_22 ++ wSy cI cZ cJ sy_a sy_32) := hD.sub [3, 0, 1, 2, 4, 5, 6, 7, 8, 9, 10, 11, 12, 13] (by decide) rfl
              exact J118_25 _ _ _ sy_32 hP hD hS (lv_sub hl [1, 2, 3, 4, 5, 6, 7, 0] rfl) hf
          · rw [if_neg c_24] at hf
            exact hk97 _ _ _ pb_21 v_22 sy hP hD hS (lv_sub hl [1] rfl) hf
        · rw [if_pos c_23] at hf
          exact hk81 _ _ _ pb_21 v_22 sy hP hD hS (lv_sub hl [1] rfl) hf
set_option maxHeartbeats 4000000 in
set_option maxRecDepth 100000 in
theorem B_P_Reader_takeRuns {cells slots : Nat} {dC : Nat → ClassId} {dI : Nat → Nat → Nat} {cI cZ cJ : ClassId} {rd_a : Nat → Nat} {pb_a : Nat → Nat} {v_a v_b : Nat} {sy_a : Nat → Nat} {lk_w : Nat} {rd : Rd} {pb : Pb} {v : Br} {sy : Sy} {x2 : Int32} {res : Int32 × Rd × Pb × Br × Sy} (C0 : cxt p c m s args R cells slots R_Reader c_Reader_takeRuns tb 8 (dC, dI) vwCl (TYS cI cZ cJ) A 4 86)
    (hr87 : ∀ (H : Heap) (locs : List Loc) (ls : Array Slot) (v : Int32) (rd' : Rd) (pb' : Pb) (v' : Br) (sy' : Sy), vp_nar .boolean v = v → va_P (dC, dI) vwCl (wRd cI cZ cJ rd_a (pb_a 0) rd' ++ wPb cI cZ cJ pb_a lk_w v_a pb' ++ wBr cI cZ cJ v_a v_b v' ++ wSy cI cZ cJ sy_a sy') H → va_D A (wRd cI cZ cJ rd_a (pb_a 0) rd' ++ wPb cI cZ cJ pb_a lk_w v_a pb' ++ wBr cI cZ cJ v_a v_b v' ++ wSy cI cZ cJ sy_a sy') → va_S A s.heap H locs → some (v, rd', pb', v', sy') = some res → W p l e R s m args below meth c H locs cells slots Q (F0 m 87 ls [.int v]))
    (hr102 : ∀ (H : Heap) (locs : List Loc) (ls : Array Slot) (v : Int32) (rd' : Rd) (pb' : Pb) (v' : Br) (sy' : Sy), vp_nar .boolean v = v → va_P (dC, dI) vwCl (wRd cI cZ cJ rd_a (pb_a 0) rd' ++ wPb cI cZ cJ pb_a lk_w v_a pb' ++ wBr cI cZ cJ v_a v_b v' ++ wSy cI cZ cJ sy_a sy') H → va_D A (wRd cI cZ cJ rd_a (pb_a 0) rd' ++ wPb cI cZ cJ pb_a lk_w v_a pb' ++ wBr cI cZ cJ v_a v_b v' ++ wSy cI cZ cJ sy_a sy') → va_S A s.heap H locs → some (v, rd', pb', v', sy') = some res → W p l e R s m args below meth c H locs cells slots Q (F0 m 102 ls [.int v]))
    (hr144 : ∀ (H : Heap) (locs : List Loc) (ls : Array Slot) (v : Int32) (rd' : Rd) (pb' : Pb) (v' : Br) (sy' : Sy), vp_nar .boolean v = v → va_P (dC, dI) vwCl (wRd cI cZ cJ rd_a (pb_a 0) rd' ++ wPb cI cZ cJ pb_a lk_w v_a pb' ++ wBr cI cZ cJ v_a v_b v' ++ wSy cI cZ cJ sy_a sy') H → va_D A (wRd cI cZ cJ rd_a (pb_a 0) rd' ++ wPb cI cZ cJ pb_a lk_w v_a pb' ++ wBr cI cZ cJ v_a v_b v' ++ wSy cI cZ cJ sy_a sy') → va_S A s.heap H locs → some (v, rd', pb', v', sy') = some res → W p l e R s m args below meth c H locs cells slots Q (F0 m 144 ls [.int v]))
    {H : Heap} {locs : List Loc} {ls : Array Slot} (hP : va_P (dC, dI) vwCl (wRd cI cZ cJ rd_a (pb_a 0) rd ++ wPb cI cZ cJ pb_a lk_w v_a pb ++ wBr cI cZ cJ v_a v_b v ++ wSy cI cZ cJ sy_a sy) H) (hD : va_D A (wRd cI cZ cJ rd_a (pb_a 0) rd ++ wPb cI cZ cJ pb_a lk_w v_a pb ++ wBr cI cZ cJ v_a v_b v ++ wSy cI cZ cJ sy_a sy)) (hS : va_S A s.heap H locs) (hl : lv_has ls 8 [(0, .ref (rd_a 0)), (1, .ref (sy_a 0)), (2, .int x2)]) (hf : f_P_Reader_takeRuns rd pb v sy x2 = some res) : W p l e R s m args below meth c H locs cells slots Q (F0 m 0 ls []) := by
  obtain ⟨hx, hb, hml, hown, hts, hK, hA, hRf, hRl, hN, hRc⟩ := id C0
  rw [f_P_Reader_takeRuns] at hf
  refine lv_aload_n hx hb d_Reader_takeRuns_0 rfl (lv_at hl 0 rfl) ?_
  refine va_get (D := (dC, dI)) (ci := 5) (v := .int (Rd_w rd)) (C := R_Reader) (T := T_Reader) (N := 5) hx hb hts in_Reader hown hK hP 0 rfl rfl 4 (by decide) (hts _ t_188) (fun _ h9 => h9) rfl d_Reader_takeRuns_1 ?_
  refine lv_aload_n hx hb d_Reader_takeRuns_4 rfl (lv_at hl 0 rfl) ?_
  refine va_get (D := (dC, dI)) (ci := 5) (v := .int (Rd_h rd)) (C := R_Reader) (T := T_Reader) (N := 5) hx hb hts in_Reader hown hK hP 0 rfl rfl 3 (by decide) (hts _ t_187) (fun _ h9 => h9) rfl d_Reader_takeRuns_5 ?_
  refine lv_imul hx hb d_Reader_takeRuns_8 ?_
  obtain ⟨x3_1, ex3_1, hf⟩ := lt_ex hf
  try dsimp only at hf
  refine tp_i ex3_1 ?_
  refine lv_istore_n (lv' := [(3, .int x3_1), (0, .ref (rd_a 0)), (1, .ref (sy_a 0)), (2, .int x2)]) hx hb d_Reader_takeRuns_9 rfl hl (by decide) rfl (fun ls hl => ?_)
  refine lv_iconst (v := 0) hx hb d_Reader_takeRuns_10 (by decide) ?_
  refine lv_istore (lv' := [(4, .int 0), (3, .int x3_1), (0, .ref (rd_a 0)), (1, .ref (sy_a 0)), (2, .int x2)]) hx hb d_Reader_takeRuns_11 hl (by decide) rfl (fun ls hl => ?_)
  refine lv_iconst (v := 0) hx hb d_Reader_takeRuns_13 (by decide) ?_
  refine lv_istore (lv' := [(5, .int 0), (4, .int 0), (3, .int x3_1), (0, .ref (rd_a 0)), (1, .ref (sy_a 0)), (2, .int x2)]) hx hb d_Reader_takeRuns_14 hl (by decide) rfl (fun ls hl => ?_)
  refine lv_iconst (v := 0) hx hb d_Reader_takeRuns_16 (by decide) ?_
  refine lv_istore (lv' := [(6, .int 0), (5, .int 0), (4, .int 0), (3, .int x3_1), (0, .ref (rd_a 0)), (1, .ref (sy_a 0)), (2, .int x2)]) hx hb d_Reader_takeRuns_17 hl (by decide) rfl (fun ls hl => ?_)
  refine L_P_Reader_takeRuns_19 C0 (fun H locs ls sy_8 hP hD hS hl hf => ?_) 100000 _ _ _ sy 0 hP hD hS (lv_sub hl [4, 5, 6, 3, 2, 1, 0] rfl) hf
  try dsimp only at hf
  refine lv_iconst (v := 0) hx hb d_Reader_takeRuns_49 (by decide) ?_
  refine lv_istore (lv' := [(6, .int 0), (0, .ref (rd_a 0)), (1, .ref (sy_a 0)), (2, .int x2), (3, .int x3_1), (4, .int 0), (5, .int 0)]) hx hb d_Reader_takeRuns_50 hl (by decide) rfl (fun ls hl => ?_)
  refine L_P_Reader_takeRuns_52 C0 (fun H locs ls pb_33 v_34 sy_35 hP hD hS hl hf => ?_) (fun H locs ls pb_36 v_37 sy_38 hP hD hS hl hf => ?_) (fun H locs ls pb_39 v_40 sy_41 hP hD hS hl hf => ?_) 100000 _ _ _ pb v sy_8 0 0 0 hP hD hS (lv_sub hl [1, 2, 3, 4, 5, 6, 0] rfl) hf
  · try dsimp only at hf
    refine lv_aload_n hx hb d_Reader_takeRuns_81 rfl (lv_at hl 0 rfl) ?_
    refine lv_bipush (v := 7) hx hb d_Reader_takeRuns_82 (by decide) ?_
    obtain ⟨⟨r_42, rd_43⟩, hf1, hf⟩ := bd_ex hf
    try dsimp only at hf
    have hPc := hP.sub (ws' := (wRd cI cZ cJ rd_a (pb_a 0) rd)) [0] rfl
    have hDc := hD.sub (ws' := (wRd cI cZ cJ rd_a (pb_a 0) rd)) [0] (by decide) rfl
    have hFc := va_free (wc := (wRd cI cZ cJ rd_a (pb_a 0) rd)) hD hS hA [0] rfl
    refine va_calli (va_runV (As := [.int 7]) (rest := []) ⟨hx, hb, hml, hown, hts⟩ (k_P_Reader_refuse l dC dI cI cZ cJ rd_a (pb_a 0) H.size hf1) (cwV 1 hts (gV t_485 t_487 t_12 t_61 t_488) rfl rfl rfl hd_Reader_refuse ⟨Nat.le_trans (Nat.le_of_ble_eq_true rfl) hRf, Nat.le_trans (Nat.le_of_ble_eq_true rfl) hRl⟩) ⟨kP_blind, va_recv hK hP (ci := 5) (q0 := 0) rfl rfl, kP_at hPc hK hDc hN⟩ rfl rfl hl.1 rfl (lv_room (Nat.le_of_ble_eq_true rfl)) d_Reader_takeRuns_84 hRc) hS (fun q _ h => hFc q h) hFc (fun r9 u t H1 locs ht hvm hw hB hz1 hk1 hS => ?_)
    rw [hw.1]
    obtain ⟨hP, hD⟩ := kQ_join (wr := (wPb cI cZ cJ pb_a lk_w v_a pb_33 ++ wBr cI cZ cJ v_a v_b v_34 ++ wSy cI cZ cJ sy_a sy_35)) (w1 := (wRd cI cZ cJ rd_a (pb_a 0) rd_43)) hP hD [0] [1, 2, 3, 4, 5, 6, 7, 8, 9, 10, 11, 12, 13] rfl rfl (by decide) (by decide) ht hk1 hFc hB
    generalize H1 = H at hP hS ⊢
    have hP : va_P (dC, dI) vwCl (wRd cI cZ cJ rd_a (pb_a 0) rd_43 ++ wPb cI cZ cJ pb_a lk_w v_a pb_33 ++ wBr cI cZ cJ v_a v_b v_34 ++ wSy cI cZ cJ sy_a sy_35) H := hP.sub [13, 0, 1, 2, 3, 4, 5, 6, 7, 8, 9, 10, 11, 12] rfl
    have hD : va_D A (wRd cI cZ cJ rd_a (pb_a 0) rd_43 ++ wPb cI cZ cJ pb_a lk_w v_a pb_33 ++ wBr cI cZ cJ v_a v_b v_34 ++ wSy cI cZ cJ sy_a sy_35) := hD.sub [13, 0, 1, 2, 3, 4, 5, 6, 7, 8, 9, 10, 11, 12] (by decide) rfl
    obtain ⟨h_z, hf⟩ := gd_ex hf
    exact hr87 _ _ _ r_42  rd_43 pb_33 v_34 sy_35 (of_decide_eq_true h_z) hP hD hS hf
  · try dsimp only at hf
    refine lv_aload_n hx hb d_Reader_takeRuns_97 rfl (lv_at hl 0 rfl) ?_
    refine lv_iconst (v := 5) hx hb d_Reader_takeRuns_98 (by decide) ?_
    obtain ⟨⟨r_44, rd_45⟩, hf1, hf⟩ := bd_ex hf
    try dsimp only at hf
    have hPc := hP.sub (ws' := (wRd cI cZ cJ rd_a (pb_a 0) rd)) [0] rfl
    have hDc := hD.sub (ws' := (wRd cI cZ cJ rd_a (pb_a 0) rd)) [0] (by decide) rfl
    have hFc := va_free (wc := (wRd cI cZ cJ rd_a (pb_a 0) rd)) hD hS hA [0] rfl
    refine va_calli (va_runV (As := [.int 5]) (rest := []) ⟨hx, hb, hml, hown, hts⟩ (k_P_Reader_refuse l dC dI cI cZ cJ rd_a (pb_a 0) H.size hf1) (cwV 1 hts (gV t_485 t_487 t_12 t_61 t_488) rfl rfl rfl hd_Reader_refuse ⟨Nat.le_trans (Nat.le_of_ble_eq_true rfl) hRf, Nat.le_trans (Nat.le_of_ble_eq_true rfl) hRl⟩) ⟨kP_blind, va_recv hK hP (ci := 5) (q0 := 0) rfl rfl, kP_at hPc hK hDc hN⟩ rfl rfl hl.1 rfl (lv_room (Nat.le_of_ble_eq_true rfl)) d_Reader_takeRuns_99 hRc) hS (fun q _ h => hFc q h) hFc (fun r9 u t H1 locs ht hvm hw hB hz1 hk1 hS => ?_)
    rw [hw.1]
    obtain ⟨hP, hD⟩ := kQ_join (wr := (wPb cI cZ cJ pb_a lk_w v_a pb_36 ++ wBr cI cZ cJ v_a v_b v_37 ++ wSy cI cZ cJ sy_a sy_38)) (w1 := (wRd cI cZ cJ rd_a (pb_a 0) rd_45)) hP hD [0] [1, 2, 3, 4, 5, 6, 7, 8, 9, 10, 11, 12, 13] rfl rfl (by decide) (by decide) ht hk1 hFc hB
    generalize H1 = H at hP hS ⊢
    have hP : va_P (dC, dI) vwCl (wRd cI cZ cJ rd_a (pb_a 0) rd_45 ++ wPb cI cZ cJ pb_a lk_w v_a pb_36 ++ wBr cI cZ cJ v_a v_b v_37 ++ wSy cI cZ cJ sy_a sy_38) H := hP.sub [13, 0, 1, 2, 3, 4, 5, 6, 7, 8, 9, 10, 11, 12] rfl
    have hD : va_D A (wRd cI cZ cJ rd_a (pb_a 0) rd_45 ++ wPb cI cZ cJ pb_a lk_w v_a pb_36 ++ wBr cI cZ cJ v_a v_b v_37 ++ wSy cI cZ cJ sy_a sy_38) := hD.sub [13, 0, 1, 2, 3, 4, 5, 6, 7, 8, 9, 10, 11, 12] (by decide) rfl
    obtain ⟨h_z, hf⟩ := gd_ex hf
    exact hr102 _ _ _ r_44  rd_45 pb_36 v_37 sy_38 (of_decide_eq_true h_z) hP hD hS hf
  · try dsimp only at hf
    refine lv_iconst (v := 1) hx hb d_Reader_takeRuns_143 (by decide) ?_
    exact hr144 _ _ _ 1 rd pb_39 v_40 sy_41 (by decide) hP hD hS hf
end
set_option maxHeartbeats 4000000 in
set_option maxRecDepth 100000 in
theorem k_P_Reader_takeRuns (l : Launch) (dC : Nat → ClassId) (dI : Nat → Nat → Nat) (cI cZ cJ : ClassId) (rd_a : Nat → Nat) (pb_a : Nat → Nat) (v_a v_b : Nat) (sy_a : Nat → Nat) (lk_w : Nat) (sz : Nat) {rd : Rd} {pb : Pb} {v : Br} {sy : Sy} {x2 : Int32} {r : Int32} {rd' : Rd} {pb' : Pb} {v' : Br} {sy' : Sy} (hf : f_P_Reader_takeRuns rd pb v sy x2 = some (r, rd', pb', v', sy')) :
    Met l y_Reader_takeRuns ws_Reader_takeRuns ({ frames := 4, cells := 0, slots := 0, locals := 86 }) (va_Pc [.ref (rd_a 0), .ref (sy_a 0), .int x2] (kP (dC, dI) vwCl (TYS cI cZ cJ) (wRd cI cZ cJ rd_a (pb_a 0) rd ++ wPb cI cZ cJ pb_a lk_w v_a pb ++ wBr cI cZ cJ v_a v_b v ++ wSy cI cZ cJ sy_a sy) sz)) (va_Qi (fun (q : Int32) (_ : Unit) => q = r ∧ vp_nar .boolean r = r) (fun _ t => kQ (dC, dI) vwCl (TYS cI cZ cJ) (wRd cI cZ cJ rd_a (pb_a 0) rd ++ wPb cI cZ cJ pb_a lk_w v_a pb ++ wBr cI cZ cJ v_a v_b v ++ wSy cI cZ cJ sy_a sy) sz (wRd cI cZ cJ rd_a (pb_a 0) rd' ++ wPb cI cZ cJ pb_a lk_w v_a pb' ++ wBr cI cZ cJ v_a v_b v' ++ wSy cI cZ cJ sy_a sy') t) (va_A (wRd cI cZ cJ rd_a (pb_a 0) rd ++ wPb cI cZ cJ pb_a lk_w v_a pb ++ wBr cI cZ cJ v_a v_b v ++ wSy cI cZ cJ sy_a sy) sz)) 0 0 (va_A (wRd cI cZ cJ rd_a (pb_a 0) rd ++ wPb cI cZ cJ pb_a lk_w v_a pb ++ wBr cI cZ cJ v_a v_b v ++ wSy cI cZ cJ sy_a sy) sz) := by
  refine Met.ofW (cc := c_Reader_takeRuns) (maxL := 8) (ret := (some .boolean)) (by decide) rfl ?_
  intro p e s m args below meth c s₁ B hml hv
  obtain ⟨rfl, hsz, hP, hK, hD0, hN⟩ := hv
  have hr := B.returns
  have hlocks := B.notSynchronized
  subst hsz
  have hD := hD0.self (sz := s.heap.size)
  have hl := lv_entry ([.ref (rd_a 0), .ref (sy_a 0), .int x2]) (n := 8) (Nat.le_of_ble_eq_true rfl)
  rw [lg_entry_eq]
  generalize (lg_sl ([.ref (rd_a 0), .ref (sy_a 0), .int x2]) ++ List.replicate (8 - (lg_sl ([.ref (rd_a 0), .ref (sy_a 0), .int x2])).length) Slot.unset).toArray = ls at hl ⊢
  refine B_P_Reader_takeRuns (A := va_A (wRd cI cZ cJ rd_a (pb_a 0) rd ++ wPb cI cZ cJ pb_a lk_w v_a pb ++ wBr cI cZ cJ v_a v_b v ++ wSy cI cZ cJ sy_a sy) s.heap.size) ⟨B.exec, B.bytes, hml, findClass_of_methodNamed B.named, fun w h => atoms_spec (ws := ws_Reader_takeRuns) B.pre w (List.mem_cons_of_mem _ h), hK, fun q h => Or.inr h, Nat.le_of_ble_eq_true rfl, Nat.le_of_ble_eq_true rfl, hN, Nat.le_of_ble_eq_true rfl, Nat.le_of_ble_eq_true rfl⟩ (fun H locs ls v rd'1 pb'1 v'1 sy'1 hz hP hD hS hf => ?_) (fun H locs ls v rd'1 pb'1 v'1 sy'1 hz hP hD hS hf => ?_) (fun H locs ls v rd'1 pb'1 v'1 sy'1 hz hP hD hS hf => ?_) hP hD va_S.rf hl hf
  · cases hf
    exact W.zret B.exec B.bytes hr (nz_n hz) (fun t ht hW => ⟨⟨_, (), rfl, ⟨rfl, hz⟩, ⟨by rw [ht]; exact hP, va_K.moved hW.alike hK, hD⟩⟩, hS.F ht⟩) hS.2.2 d_Reader_takeRuns_87
  · cases hf
    exact W.zret B.exec B.bytes hr (nz_n hz) (fun t ht hW => ⟨⟨_, (), rfl, ⟨rfl, hz⟩, ⟨by rw [ht]; exact hP, va_K.moved hW.alike hK, hD⟩⟩, hS.F ht⟩) hS.2.2 d_Reader_takeRuns_102
  · cases hf
    exact W.zret B.exec B.bytes hr (nz_n hz) (fun t ht hW => ⟨⟨_, (), rfl, ⟨rfl, hz⟩, ⟨by rw [ht]; exact hP, va_K.moved hW.alike hK, hD⟩⟩, hS.F ht⟩) hS.2.2 d_Reader_takeRuns_144

/-! P_Reader_takeSymbols -/
def l_P_Reader_takeSymbols_51 (x2 : Int32) (k73 : Rd → Pb → Br → Sy → Option (Int32 × Rd × Pb × Br × Sy)) (k100 : Rd → Pb → Br → Sy → Option (Int32 × Rd × Pb × Br × Sy)) (k108 : Rd → Pb → Br → Sy → Option (Int32 × Rd × Pb × Br × Sy)) : Nat → Rd → Pb → Br → Sy → Int32 → Option (Int32 × Rd × Pb × Br × Sy)
  | 0, _, _, _, _, _ => none
  | n + 1, rd, pb, v, sy, x3 => (if x2 ≤ x3 then k108 rd pb v sy else bd (f_P_Reader_takeSize rd pb v sy) <| fun (r_25, rd_26, pb_27, v_28, sy_29) => (if r_25 = 0 then k73 rd_26 pb_27 v_28 sy_29 else bd (f_P_Reader_takeBase rd_26 pb_27 v_28 sy_29 x3) <| fun (r_31, rd_32, pb_33, v_34, sy_35) => (if r_31 = 0 then k73 rd_32 pb_33 v_34 sy_35 else (if (Rd_br rd_32) = 0 then bd (f_P_Reader_takeSamples rd_32 pb_33 v_34 sy_35 x3) <| fun (pb_45, v_46, sy_47) => lt' (x3 + 1) <| fun x3_48 => (l_P_Reader_takeSymbols_51 x2 k73 k100 k108 n) rd_32 pb_45 v_46 sy_47 x3_48 else bd (f_P_Reader_takeRuns rd_32 pb_33 v_34 sy_35 x3) <| fun (r_38, rd_39, pb_40, v_41, sy_42) => (if r_38 = 0 then k100 rd_39 pb_40 v_41 sy_42 else lt' (x3 + 1) <| fun x3_44 => (l_P_Reader_takeSymbols_51 x2 k73 k100 k108 n) rd_39 pb_40 v_41 sy_42 x3_44)))))
def f_P_Reader_takeSymbols (rd : Rd) (pb : Pb) (v : Br) (sy : Sy) : Option (Int32 × Rd × Pb × Br × Sy) := bd (f_P_PlainBits_startReading pb v) <| fun (pb_1, v_2) => bd (f_P_Bits_takeNumber pb_1 v_2) <| fun (r_3, pb_4, v_5) => (if r_3 = (-1) then bd (f_P_Reader_refuse rd 7) <| fun (r_71, rd_72) => gd (decide (vp_nar .boolean r_71 = r_71)) <| some (r_71, rd_72, pb_4, v_5, sy) else (if r_3 ≤ 40 then lt' (Rd_s_h rd 0) <| fun rd_8 => lt' (Rd_s_w rd_8 0) <| fun rd_10 => l_P_Reader_takeSymbols_51 r_3 (fun rd_49 pb_50 v_51 sy_52 => some (0, rd_49, pb_50, v_51, sy_52)) (fun rd_53 pb_54 v_55 sy_56 => some (0, rd_53, pb_54, v_55, sy_56)) (fun rd_57 pb_58 v_59 sy_60 => (if r_3 = 0 then some (1, rd_57, pb_58, v_59, sy_60) else bd (f_P_PlainBits_takeBit pb_58 v_59 (-1)) <| fun (r_62, pb_63, v_64) => (if r_62 = 0 then some (1, rd_57, pb_63, v_64, sy_60) else bd (f_P_Reader_refuse rd_57 0) <| fun (r_66, rd_67) => (if r_66 = 0 then some (0, rd_67, pb_63, v_64, sy_60) else some (1, rd_67, pb_63, v_64, sy_60))))) 100000 rd_10 pb_4 v_5 sy 0 else bd (f_P_Reader_refuse rd 0) <| fun (r_69, rd_70) => gd (decide (vp_nar .boolean r_69 = r_69)) <| some (r_69, rd_70, pb_4, v_5, sy)))
section
variable {p : Program} {l : Launch} {e : Env} {R : Room} {s : State} {m : MethodId} {args : Array Value} {below : List Frame} {meth : Method} {c : Code} {Q : State → Prop} {A : Nat → Prop}
set_option maxHeartbeats 4000000 in
set_option maxRecDepth 100000 in
theorem L_P_Reader_takeSymbols_51 {cells slots : Nat} {dC : Nat → ClassId} {dI : Nat → Nat → Nat} {cI cZ cJ : ClassId} {rd_a : Nat → Nat} {pb_a : Nat → Nat} {v_a v_b : Nat} {sy_a : Nat → Nat} {lk_w : Nat} {x2 : Int32} {k73 : Rd → Pb → Br → Sy → Option (Int32 × Rd × Pb × Br × Sy)} {k100 : Rd → Pb → Br → Sy → Option (Int32 × Rd × Pb × Br × Sy)} {k108 : Rd → Pb → Br → Sy → Option (Int32 × Rd × Pb × Br × Sy)} {res : Int32 × Rd × Pb × Br × Sy} (C0 : cxt p c m s args R cells slots R_Reader c_Reader_takeSymbols tb 4 (dC, dI) vwCl (TYS cI cZ cJ) A 6 130)
    (hk73 : ∀ (H : Heap) (locs : List Loc) (ls : Array Slot) (rd_12 : Rd) (pb_13 : Pb) (v_14 : Br) (sy_15 : Sy), va_P (dC, dI) vwCl (wRd cI cZ cJ rd_a (pb_a 0) rd_12 ++ wPb cI cZ cJ pb_a lk_w v_a pb_13 ++ wBr cI cZ cJ v_a v_b v_14 ++ wSy cI cZ cJ sy_a sy_15) H → va_D A (wRd cI cZ cJ rd_a (pb_a 0) rd_12 ++ wPb cI cZ cJ pb_a lk_w v_a pb_13 ++ wBr cI cZ cJ v_a v_b v_14 ++ wSy cI cZ cJ sy_a sy_15) → va_S A s.heap H locs → lv_has ls 4 [] → k73 rd_12 pb_13 v_14 sy_15 = some res → W p l e R s m args below meth c H locs cells slots Q (F0 m 73 ls []))
    (hk100 : ∀ (H : Heap) (locs : List Loc) (ls : Array Slot) (rd_16 : Rd) (pb_17 : Pb) (v_18 : Br) (sy_19 : Sy), va_P (dC, dI) vwCl (wRd cI cZ cJ rd_a (pb_a 0) rd_16 ++ wPb cI cZ cJ pb_a lk_w v_a pb_17 ++ wBr cI cZ cJ v_a v_b v_18 ++ wSy cI cZ cJ sy_a sy_19) H → va_D A (wRd cI cZ cJ rd_a (pb_a 0) rd_16 ++ wPb cI cZ cJ pb_a lk_w v_a pb_17 ++ wBr cI cZ cJ v_a v_b v_18 ++ wSy cI cZ cJ sy_a sy_19) → va_S A s.heap H locs → lv_has ls 4 [] → k100 rd_16 pb_17 v_18 sy_19 = some res → W p l e R s m args below meth c H locs cells slots Q (F0 m 100 ls []))
    (hk108 : ∀ (H : Heap) (locs : List Loc) (ls : Array Slot) (rd_20 : Rd) (pb_21 : Pb) (v_22 : Br) (sy_23 : Sy), va_P (dC, dI) vwCl (wRd cI cZ cJ rd_a (pb_a 0) rd_20 ++ wPb cI cZ cJ pb_a lk_w v_a pb_21 ++ wBr cI cZ cJ v_a v_b v_22 ++ wSy cI cZ cJ sy_a sy_23) H → va_D A (wRd cI cZ cJ rd_a (pb_a 0) rd_20 ++ wPb cI cZ cJ pb_a lk_w v_a pb_21 ++ wBr cI cZ cJ v_a v_b v_22 ++ wSy cI cZ cJ sy_a sy_23) → va_S A s.heap H locs → lv_has ls 4 [(0, .ref (rd_a 0)), (2, .int x2)] → k108 rd_20 pb_21 v_22 sy_23 = some res → W p l e R s m args below meth c H locs cells slots Q (F0 m 108 ls [])) :
    ∀ (n : Nat) (H : Heap) (locs : List Loc) (ls : Array Slot) (rd : Rd) (pb : Pb) (v : Br) (sy : Sy) (x3 : Int32), va_P (dC, dI) vwCl (wRd cI cZ cJ rd_a (pb_a 0) rd ++ wPb cI cZ cJ pb_a lk_w v_a pb ++ wBr cI cZ cJ v_a v_b v ++ wSy cI cZ cJ sy_a sy) H → va_D A (wRd cI cZ cJ rd_a (pb_a 0) rd ++ wPb cI cZ cJ pb_a lk_w v_a pb ++ wBr cI cZ cJ v_a v_b v ++ wSy cI cZ cJ sy_a sy) → va_S A s.heap H locs → lv_has ls 4 [(0, .ref (rd_a 0)), (1, .ref (sy_a 0)), (2, .int x2), (3, .int x3)] → l_P_Reader_takeSymbols_51 x2 k73 k100 k108 n rd pb v sy x3 = some res → W p l e R s m args below meth c H locs cells slots Q (F0 m 51 ls []) := by
  obtain ⟨hx, hb, hml, hown, hts, hK, hA, hRf, hRl, hN, hRc⟩ := id C0
  intro n
  induction n with
  | zero =>
    intro H locs ls rd pb v sy x3 hP hD hS hl hf
    exact absurd hf (by simp [l_P_Reader_takeSymbols_51])
  | succ n ih =>
    intro H locs ls rd pb v sy x3 hP hD hS hl hf
    rw [l_P_Reader_takeSymbols_51] at hf
    refine lv_iload_n hx hb d_Reader_takeSymbols_51 rfl (lv_at hl 3 rfl) ?_
    refine lv_iload_n hx hb d_Reader_takeSymbols_52 rfl (lv_at hl 2 rfl) ?_
    refine lv_icmp_ge (tgt := 108) hx hb d_Reader_takeSymbols_53 (by decide) (fun c_24 => ?_) (fun c_24 => ?_)
    · rw [if_pos c_24] at hf
      exact hk108 _ _ _ rd pb v sy hP hD hS (lv_sub hl [0, 2] rfl) hf
    · rw [if_neg c_24] at hf
      refine lv_aload_n hx hb d_Reader_takeSymbols_56 rfl (lv_at hl 0 rfl) ?_
      refine lv_aload_n hx hb d_Reader_takeSymbols_57 rfl (lv_at hl 1 rfl) ?_
      obtain ⟨⟨r_25, rd_26, pb_27, v_28, sy_29⟩, hf1, hf⟩ := bd_ex hf
      try dsimp only at hf
      have hPc := hP.sub (ws' := (wRd cI cZ cJ rd_a (pb_a 0) rd ++ wPb cI cZ cJ pb_a lk_w v_a pb ++ wBr cI cZ cJ v_a v_b v ++ wSy cI cZ cJ sy_a sy)) [0, 1, 2, 3, 4, 5, 6, 7, 8, 9, 10, 11, 12, 13] rfl
      have hDc := hD.sub (ws' := (wRd cI cZ cJ rd_a (pb_a 0) rd ++ wPb cI cZ cJ pb_a lk_w v_a pb ++ wBr cI cZ cJ v_a v_b v ++ wSy cI cZ cJ sy_a sy)) [0, 1, 2, 3, 4, 5, 6, 7, 8, 9, 10, 11, 12, 13] (by decide) rfl
      have hFc := va_free (wc := (wRd cI cZ cJ rd_a (pb_a 0) rd ++ wPb cI cZ cJ pb_a lk_w v_a pb ++ wBr cI cZ cJ v_a v_b v ++ wSy cI cZ cJ sy_a sy)) hD hS hA [0, 1, 2, 3, 4, 5, 6, 7, 8, 9, 10, 11, 12, 13] rfl
      refine va_calli (va_runV (As := [.ref (sy_a 0)]) (rest := []) ⟨hx, hb, hml, hown, hts⟩ (k_P_Reader_takeSize l dC dI cI cZ cJ rd_a pb_a v_a v_b sy_a lk_w H.size hf1) (cwV 1 hts (gV t_489 t_491 t_13 t_61 t_492) rfl rfl rfl hd_Reader_takeSize ⟨Nat.le_trans (Nat.le_of_ble_eq_true rfl) hRf, Nat.le_trans (Nat.le_of_ble_eq_true rfl) hRl⟩) ⟨kP_blind, va_recv hK hP (ci := 5) (q0 := 0) rfl rfl, kP_at hPc hK hDc hN⟩ rfl rfl hl.1 rfl (lv_room (Nat.le_of_ble_eq_true rfl)) d_Reader_takeSymbols_58 hRc) hS (fun q _ h => hFc q h) hFc (fun r9 u t H1 locs ht hvm hw hB hz1 hk1 hS => ?_)
      rw [hw.1]
      obtain ⟨hP, hD⟩ := kQ_join (wr := ([] : va_W)) (w1 := (wRd cI cZ cJ rd_a (pb_a 0) rd_26 ++ wPb cI cZ cJ pb_a lk_w v_a pb_27 ++ wBr cI cZ cJ v_a v_b v_28 ++ wSy cI cZ cJ sy_a sy_29)) hP hD [0, 1, 2, 3, 4, 5, 6, 7, 8, 9, 10, 11, 12, 13] [] rfl rfl (by decide) (by decide) ht hk1 hFc hB
      generalize H1 = H at hP hS ⊢
      have hP : va_P (dC, dI) vwCl (wRd cI cZ cJ rd_a (pb_a 0) rd_26 ++ wPb cI cZ cJ pb_a lk_w v_a pb_27 ++ wBr cI cZ cJ v_a v_b v_28 ++ wSy cI cZ cJ sy_a sy_29) H := hP.sub [0, 1, 2, 3, 4, 5, 6, 7, 8, 9, 10, 11, 12, 13] rfl
      have hD : va_D A (wRd cI cZ cJ rd_a (pb_a 0) rd_26 ++ wPb cI cZ cJ pb_a lk_w v_a pb_27 ++ wBr cI cZ cJ v_a v_b v_28 ++ wSy cI cZ cJ sy_a sy_29) := hD.sub [0, 1, 2, 3, 4, 5, 6, 7, 8, 9, 10, 11, 12, 13] (by decide) rfl
      refine lv_if_eq (tgt := 73) hx hb d_Reader_takeSymbols_61 (by decide) (fun c_30 => ?_) (fun c_30 => ?_)
      · rw [if_pos c_30] at hf
        exact hk73 _ _ _ rd_26 pb_27 v_28 sy_29 hP hD hS (lv_sub hl [] rfl) hf
      · rw [if_neg c_30] at hf
        refine lv_aload_n hx hb d_Reader_takeSymbols_64 rfl (lv_at hl 0 rfl) ?_
        refine lv_aload_n hx hb d_Reader_takeSymbols_65 rfl (lv_at hl 1 rfl) ?_
        refine lv_iload_n hx hb d_Reader_takeSymbols_66 rfl (lv_at hl 3 rfl) ?_
        obtain ⟨⟨r_31, rd_32, pb_33, v_34, sy_35⟩, hf1, hf⟩ := bd_ex hf
        try dsimp only at hf
        have hPc := hP.sub (ws' := (wRd cI cZ cJ rd_a (pb_a 0) rd_26 ++ wPb cI cZ cJ pb_a lk_w v_a pb_27 ++ wBr cI cZ cJ v_a v_b v_28 ++ wSy cI cZ cJ sy_a sy_29)) [0, 1, 2, 3, 4, 5, 6, 7, 8, 9, 10, 11, 12, 13] rfl
        have hDc := hD.sub (ws' := (wRd cI cZ cJ rd_a (pb_a 0) rd_26 ++ wPb cI cZ cJ pb_a lk_w v_a pb_27 ++ wBr cI cZ cJ v_a v_b v_28 ++ wSy cI cZ cJ sy_a sy_29)) [0, 1, 2, 3, 4, 5, 6, 7, 8, 9, 10, 11, 12, 13] (by decide) rfl
        have hFc := va_free (wc := (wRd cI cZ cJ rd_a (pb_a 0) rd_26 ++ wPb cI cZ cJ pb_a lk_w v_a pb_27 ++ wBr cI cZ cJ v_a v_b v_28 ++ wSy cI cZ cJ sy_a sy_29)) hD hS hA [0, 1, 2, 3, 4, 5, 6, 7, 8, 9, 10, 11, 12, 13] rfl
        refine va_calli (va_runV (As := [.ref (sy_a 0), .int x3]) (rest := []) ⟨hx, hb, hml, hown, hts⟩ (k_P_Reader_takeBase l dC dI cI cZ cJ rd_a pb_a v_a v_b sy_a lk_w H.size hf1) (cwV 2 hts (gV t_516 t_518 t_15 t_61 t_519) rfl rfl rfl hd_Reader_takeBase ⟨Nat.le_trans (Nat.le_of_ble_eq_true rfl) hRf, Nat.le_trans (Nat.le_of_ble_eq_true rfl) hRl⟩) ⟨kP_blind, va_recv hK hP (ci := 5) (q0 := 0) rfl rfl, kP_at hPc hK hDc hN⟩ rfl rfl hl.1 rfl (lv_room (Nat.le_of_ble_eq_true rfl)) d_Reader_takeSymbols_67 hRc) hS (fun q _ h => hFc q h) hFc (fun r9 u t H1 locs ht hvm hw hB hz1 hk1 hS => ?_)
        rw [hw.1]
        obtain ⟨hP, hD⟩ := kQ_join (wr := ([] : va_W)) (w1 := (wRd cI cZ cJ rd_a (pb_a 0) rd_32 ++ wPb cI cZ cJ pb_a lk_w v_a pb_33 ++ wBr cI cZ cJ v_a v_b v_34 ++ wSy cI cZ cJ sy_a sy_35)) hP hD [0, 1, 2, 3, 4, 5, 6, 7, 8, 9, 10, 11, 12, 13] [] rfl rfl (by decide) (by decide) ht hk1 hFc hB
        generalize H1 = H at hP hS ⊢
        have hP : va_P (dC, dI) vwCl (wRd cI cZ cJ rd_a (pb_a 0) rd_32 ++ wPb cI cZ cJ pb_a lk_w v_a pb_33 ++ wBr cI cZ cJ v_a v_b v_34 ++ wSy cI cZ cJ sy_a sy_35) H := hP.sub [0, 1, 2, 3, 4, 5, 6, 7, 8, 9, 10, 11, 12, 13] rfl
        have hD : va_D A (wRd cI cZ cJ rd_a (pb_a 0) rd_32 ++ wPb cI cZ cJ pb_a lk_w v_a pb_33 ++ wBr cI cZ cJ v_a v_b v_34 ++ wSy cI cZ cJ sy_a sy_35) := hD.sub [0, 1, 2, 3, 4, 5, 6, 7, 8, 9, 10, 11, 12, 13] (by decide) rfl
        refine lv_if_ne (tgt := 75) hx hb d_Reader_takeSymbols_70 (by decide) (fun c_36 => ?_) (fun c_36 => ?_)
        · rw [if_neg c_36] at hf
          refine lv_aload_n hx hb d_Reader_takeSymbols_75 rfl (lv_at hl 0 rfl) ?_
          refine va_get (D := (dC, dI)) (ci := 5) (v := .int (Rd_br rd_32)) (C := R_Reader) (T := T_Reader) (N := 5) hx hb hts in_Reader hown hK hP 0 rfl rfl 2 (by decide) (hts _ t_186) (fun _ h9 => h9) rfl d_Reader_takeSymbols_76 ?_
          refine lv_if_ne (tgt := 91) hx hb d_Reader_takeSymbols_79 (by decide) (fun c_37 => ?_) (fun c_37 => ?_)
          · rw [if_neg c_37] at hf
            refine lv_aload_n hx hb d_Reader_takeSymbols_91 rfl (lv_at hl 0 rfl) ?_
            refine lv_aload_n hx hb d_Reader_takeSymbols_92 rfl (lv_at hl 1 rfl) ?_
            refine lv_iload_n hx hb d_Reader_takeSymbols_93 rfl (lv_at hl 3 rfl) ?_
            obtain ⟨⟨r_38, rd_39, pb_40, v_41, sy_42⟩, hf1, hf⟩ := bd_ex hf
            try dsimp only at hf
            have hPc := hP.sub (ws' := (wRd cI cZ cJ rd_a (pb_a 0) rd_32 ++ wPb cI cZ cJ pb_a lk_w v_a pb_33 ++ wBr cI cZ cJ v_a v_b v_34 ++ wSy cI cZ cJ sy_a sy_35)) [0, 1, 2, 3, 4, 5, 6, 7, 8, 9, 10, 11, 12, 13] rfl
            have hDc := hD.sub (ws' := (wRd cI cZ cJ rd_a (pb_a 0) rd_32 ++ wPb cI cZ cJ pb_a lk_w v_a pb_33 ++ wBr cI cZ cJ v_a v_b v_34 ++ wSy cI cZ cJ sy_a sy_35)) [0, 1, 2, 3, 4, 5, 6, 7, 8, 9, 10, 11, 12, 13] (by decide) rfl
            have hFc := va_free (wc := (wRd cI cZ cJ rd_a (pb_a 0) rd_32 ++ wPb cI cZ cJ pb_a lk_w v_a pb_33 ++ wBr cI cZ cJ v_a v_b v_34 ++ wSy cI cZ cJ sy_a sy_35)) hD hS hA [0, 1, 2, 3, 4, 5, 6, 7, 8, 9, 10, 11, 12, 13] rfl
            refine va_calli (va_runV (As := [.ref (sy_a 0), .int x3]) (rest := []) ⟨hx, hb, hml, hown, hts⟩ (k_P_Reader_takeRuns l dC dI cI cZ cJ rd_a pb_a v_a v_b sy_a lk_w H.size hf1) (cwV 2 hts (gV t_529 t_531 t_17 t_61 t_532) rfl rfl rfl hd_Reader_takeRuns ⟨Nat.le_trans (Nat.le_of_ble_eq_true rfl) hRf, Nat.le_trans (Nat.le_of_ble_eq_true rfl) hRl⟩) ⟨kP_blind, va_recv hK hP (ci := 5) (q0 := 0) rfl rfl, kP_at hPc hK hDc hN⟩ rfl rfl hl.1 rfl (lv_room (Nat.le_of_ble_eq_true rfl)) d_Reader_takeSymbols_94 hRc) hS (fun q _ h => hFc q h) hFc (fun r9 u t H1 locs ht hvm hw hB hz1 hk1 hS => ?_)
            rw [hw.1]
            obtain ⟨hP, hD⟩ := kQ_join (wr := ([] : va_W)) (w1 := (wRd cI cZ cJ rd_a (pb_a 0) rd_39 ++ wPb cI cZ cJ pb_a lk_w v_a pb_40 ++ wBr cI cZ cJ v_a v_b v_41 ++ wSy cI cZ cJ sy_a sy_42)) hP hD [0, 1, 2, 3, 4, 5, 6, 7, 8, 9, 10, 11, 12, 13] [] rfl rfl (by decide) (by decide) ht hk1 hFc hB
            generalize H1 = H at hP hS ⊢
            have hP : va_P (dC, dI) vwCl (wRd cI cZ cJ rd_a (pb_a 0) rd_39 ++ wPb cI cZ cJ pb_a lk_w v_a pb_40 ++ wBr cI cZ cJ v_a v_b v_41 ++ wSy cI cZ cJ sy_a sy_42) H := hP.sub [0, 1, 2, 3, 4, 5, 6, 7, 8, 9, 10, 11, 12, 13] rfl
            have hD : va_D A (wRd cI cZ cJ rd_a (pb_a 0) rd_39 ++ wPb cI cZ cJ pb_a lk_w v_a pb_40 ++ wBr cI cZ cJ v_a v_b v_41 ++ wSy cI cZ cJ sy_a sy_42) := hD.sub [0, 1, 2, 3, 4, 5, 6, 7, 8, 9, 10, 11, 12, 13] (by decide) rfl
            refine lv_if_ne (tgt := 102) hx hb d_Reader_takeSymbols_97 (by decide) (fun c_43 => ?_) (fun c_43 => ?_)
            · rw [if_neg c_43] at hf
              obtain ⟨x3_44, ex3_44, hf⟩ := lt_ex hf
              try dsimp only at hf
              refine lv_iinc (v := x3_44) (lv' := [(3, .int x3_44), (0, .ref (rd_a 0)), (1, .ref (sy_a 0)), (2, .int x2)]) hx hb d_Reader_takeSymbols_102 hl (k := 3) rfl (by rw [ex3_44]; rfl) (by decide) rfl (fun ls hl => ?_)
              refine lv_goto (tgt := 51) hx hb d_Reader_takeSymbols_105 (by decide) ?_
              exact ih _ _ _ rd_39 pb_40 v_41 sy_42 x3_44 hP hD hS (lv_sub hl [1, 2, 3, 0] rfl) hf
            · rw [if_pos c_43] at hf
              exact hk100 _ _ _ rd_39 pb_40 v_41 sy_42 hP hD hS (lv_sub hl [] rfl) hf
          · rw [if_pos c_37] at hf
            refine lv_aload_n hx hb d_Reader_takeSymbols_82 rfl (lv_at hl 0 rfl) ?_
            refine lv_aload_n hx hb d_Reader_takeSymbols_83 rfl (lv_at hl 1 rfl) ?_
            refine lv_iload_n hx hb d_Reader_takeSymbols_84 rfl (lv_at hl 3 rfl) ?_
            obtain ⟨⟨pb_45, v_46, sy_47⟩, hf1, hf⟩ := bd_ex hf
            try dsimp only at hf
            have hPc := hP.sub (ws' := (wRd cI cZ cJ rd_a (pb_a 0) rd_32 ++ wPb cI cZ cJ pb_a lk_w v_a pb_33 ++ wBr cI cZ cJ v_a v_b v_34 ++ wSy cI cZ cJ sy_a sy_35)) [0, 1, 2, 3, 4, 5, 6, 7, 8, 9, 10, 11, 12, 13] rfl
            have hDc := hD.sub (ws' := (wRd cI cZ cJ rd_a (pb_a 0) rd_32 ++ wPb cI cZ cJ pb_a lk_w v_a pb_33 ++ wBr cI cZ cJ v_a v_b v_34 ++ wSy cI cZ cJ sy_a sy_35)) [0, 1, 2, 3, 4, 5, 6, 7, 8, 9, 10, 11, 12, 13] (by decide) rfl
            have hFc := va_free (wc := (wRd cI cZ cJ rd_a (pb_a 0) rd_32 ++ wPb cI cZ cJ pb_a lk_w v_a pb_33 ++ wBr cI cZ cJ v_a v_b v_34 ++ wSy cI cZ cJ sy_a sy_35)) hD hS hA [0, 1, 2, 3, 4, 5, 6, 7, 8, 9, 10, 11, 12, 13] rfl
            refine va_callv (va_runV (As := [.ref (sy_a 0), .int x3]) (rest := []) ⟨hx, hb, hml, hown, hts⟩ (k_P_Reader_takeSamples l dC dI cI cZ cJ rd_a pb_a v_a v_b sy_a lk_w H.size hf1) (cwV 2 hts (gV t_522 t_524 t_16 t_61 t_525) rfl rfl rfl hd_Reader_takeSamples ⟨Nat.le_trans (Nat.le_of_ble_eq_true rfl) hRf, Nat.le_trans (Nat.le_of_ble_eq_true rfl) hRl⟩) ⟨kP_blind, va_recv hK hP (ci := 5) (q0 := 0) rfl rfl, kP_at hPc hK hDc hN⟩ rfl rfl hl.1 rfl (lv_room (Nat.le_of_ble_eq_true rfl)) d_Reader_takeSymbols_85 hRc) hS (fun q _ h => hFc q h) hFc (fun u t H1 locs ht hvm hw hB hz1 hk1 hS => ?_)
            obtain ⟨hP, hD⟩ := kQ_join (wr := ([] : va_W)) (w1 := (wRd cI cZ cJ rd_a (pb_a 0) rd_32 ++ wPb cI cZ cJ pb_a lk_w v_a pb_45 ++ wBr cI cZ cJ v_a v_b v_46 ++ wSy cI cZ cJ sy_a sy_47)) hP hD [0, 1, 2, 3, 4, 5, 6, 7, 8, 9, 10, 11, 12, 13] [] rfl rfl (by decide) (by decide) ht hk1 hFc hB
            generalize H1 = H at hP hS ⊢
            have hP : va_P (dC, dI) vwCl (wRd cI cZ cJ rd_a (pb_a 0) rd_32 ++ wPb cI cZ cJ pb_a lk_w v_a pb_45 ++ wBr cI cZ cJ v_a v_b v_46 ++ wSy cI cZ cJ sy_a sy_47) H := hP.sub [0, 1, 2, 3, 4, 5, 6, 7, 8, 9, 10, 11, 12, 13] rfl
            have hD : va_D A (wRd cI cZ cJ rd_a (pb_a 0) rd_32 ++ wPb cI cZ cJ pb_a lk_w v_a pb_45 ++ wBr cI cZ cJ v_a v_b v_46 ++ wSy cI cZ cJ sy_a sy_47) := hD.sub [0, 1, 2, 3, 4, 5, 6, 7, 8, 9, 10, 11, 12, 13] (by decide) rfl
            refine lv_goto (tgt := 102) hx hb d_Reader_takeSymbols_88 (by decide) ?_
            obtain ⟨x3_48, ex3_48, hf⟩ := lt_ex hf
            try dsimp only at hf
            refine lv_iinc (v := x3_48) (lv' := [(3, .int x3_48), (0, .ref (rd_a 0)), (1, .ref (sy_a 0)), (2, .int x2)]) hx hb d_Reader_takeSymbols_102 hl (k := 3) rfl (by rw [ex3_48]; rfl) (by decide) rfl (fun ls hl => ?_)
            refine lv_goto (tgt := 51) hx hb d_Reader_takeSymbols_105 (by decide) ?_
            exact ih _ _ _ rd_32 pb_45 v_46 sy_47 x3_48 hP hD hS (lv_sub hl [1, 2, 3, 0] rfl) hf
        · rw [if_pos c_36] at hf
          exact hk73 _ _ _ rd_32 pb_33 v_34 sy_35 hP hD hS (lv_sub hl [] rfl) hf
set_option maxHeartbeats 4000000 in
set_option maxRecDepth 100000 in
theorem B_P_Reader_takeSymbols {cells slots : Nat} {dC : Nat → ClassId} {dI : Nat → Nat → Nat} {cI cZ cJ : ClassId} {rd_a : Nat → Nat} {pb_a : Nat → Nat} {v_a v_b : Nat} {sy_a : Nat → Nat} {lk_w : Nat} {rd : Rd} {pb : Pb} {v : Br} {sy : Sy} {res : Int32 × Rd × Pb × Br × Sy} (C0 : cxt p c m s args R cells slots R_Reader c_Reader_takeSymbols tb 4 (dC, dI) vwCl (TYS cI cZ cJ) A 6 130)
    (hr26 : ∀ (H : Heap) (locs : List Loc) (ls : Array Slot) (v : Int32) (rd' : Rd) (pb' : Pb) (v' : Br) (sy' : Sy), vp_nar .boolean v = v → va_P (dC, dI) vwCl (wRd cI cZ cJ rd_a (pb_a 0) rd' ++ wPb cI cZ cJ pb_a lk_w v_a pb' ++ wBr cI cZ cJ v_a v_b v' ++ wSy cI cZ cJ sy_a sy') H → va_D A (wRd cI cZ cJ rd_a (pb_a 0) rd' ++ wPb cI cZ cJ pb_a lk_w v_a pb' ++ wBr cI cZ cJ v_a v_b v' ++ wSy cI cZ cJ sy_a sy') → va_S A s.heap H locs → some (v, rd', pb', v', sy') = some res → W p l e R s m args below meth c H locs cells slots Q (F0 m 26 ls [.int v]))
    (hr38 : ∀ (H : Heap) (locs : List Loc) (ls : Array Slot) (v : Int32) (rd' : Rd) (pb' : Pb) (v' : Br) (sy' : Sy), vp_nar .boolean v = v → va_P (dC, dI) vwCl (wRd cI cZ cJ rd_a (pb_a 0) rd' ++ wPb cI cZ cJ pb_a lk_w v_a pb' ++ wBr cI cZ cJ v_a v_b v' ++ wSy cI cZ cJ sy_a sy') H → va_D A (wRd cI cZ cJ rd_a (pb_a 0) rd' ++ wPb cI cZ cJ pb_a lk_w v_a pb' ++ wBr cI cZ cJ v_a v_b v' ++ wSy cI cZ cJ sy_a sy') → va_S A s.heap H locs → some (v, rd', pb', v', sy') = some res → W p l e R s m args below meth c H locs cells slots Q (F0 m 38 ls [.int v]))
    (hr74 : ∀ (H : Heap) (locs : List Loc) (ls : Array Slot) (v : Int32) (rd' : Rd) (pb' : Pb) (v' : Br) (sy' : Sy), vp_nar .boolean v = v → va_P (dC, dI) vwCl (wRd cI cZ cJ rd_a (pb_a 0) rd' ++ wPb cI cZ cJ pb_a lk_w v_a pb' ++ wBr cI cZ cJ v_a v_b v' ++ wSy cI cZ cJ sy_a sy') H → va_D A (wRd cI cZ cJ rd_a (pb_a 0) rd' ++ wPb cI cZ cJ pb_a lk_w v_a pb' ++ wBr cI cZ cJ v_a v_b v' ++ wSy cI cZ cJ sy_a sy') → va_S A s.heap H locs → some (v, rd', pb', v', sy') = some res → W p l e R s m args below meth c H locs cells slots Q (F0 m 74 ls [.int v]))
    (hr101 : ∀ (H : Heap) (locs : List Loc) (ls : Array Slot) (v : Int32) (rd' : Rd) (pb' : Pb) (v' : Br) (sy' : Sy), vp_nar .boolean v = v → va_P (dC, dI) vwCl (wRd cI cZ cJ rd_a (pb_a 0) rd' ++ wPb cI cZ cJ pb_a lk_w v_a pb' ++ wBr cI cZ cJ v_a v_b v' ++ wSy cI cZ cJ sy_a sy') H → va_D A (wRd cI cZ cJ rd_a (pb_a 0) rd' ++ wPb cI cZ cJ pb_a lk_w v_a pb' ++ wBr cI cZ cJ v_a v_b v' ++ wSy cI cZ cJ sy_a sy') → va_S A s.heap H locs → some (v, rd', pb', v', sy') = some res → W p l e R s m args below meth c H locs cells slots Q (F0 m 101 ls [.int v]))
    (hr136 : ∀ (H : Heap) (locs : List Loc) (ls : Array Slot) (v : Int32) (rd' : Rd) (pb' : Pb) (v' : Br) (sy' : Sy), vp_nar .boolean v = v → va_P (dC, dI) vwCl (wRd cI cZ cJ rd_a (pb_a 0) rd' ++ wPb cI cZ cJ pb_a lk_w v_a pb' ++ wBr cI cZ cJ v_a v_b v' ++ wSy cI cZ cJ sy_a sy') H → va_D A (wRd cI cZ cJ rd_a (pb_a 0) rd' ++ wPb cI cZ cJ pb_a lk_w v_a pb' ++ wBr cI cZ cJ v_a v_b v' ++ wSy cI cZ cJ sy_a sy') → va_S A s.heap H locs → some (v, rd', pb', v', sy') = some res → W p l e R s m args below meth c H locs cells slots Q (F0 m 136 ls [.int v]))
    {H : Heap} {locs : List Loc} {ls : Array Slot} (hP : va_P (dC, dI) vwCl (wRd cI cZ cJ rd_a (pb_a 0) rd ++ wPb cI cZ cJ pb_a lk_w v_a pb ++ wBr cI cZ cJ v_a v_b v ++ wSy cI cZ cJ sy_a sy) H) (hD : va_D A (wRd cI cZ cJ rd_a (pb_a 0) rd ++ wPb cI cZ cJ pb_a lk_w v_a pb ++ wBr cI cZ cJ v_a v_b v ++ wSy cI cZ cJ sy_a sy)) (hS : va_S A s.heap H locs) (hl : lv_has ls 4 [(0, .ref (rd_a 0)), (1, .ref (sy_a 0))]) (hf : f_P_Reader_takeSymbols rd pb v sy = some res) : W p l e R s m args below meth c H locs cells slots Q (F0 m 0 ls []) := by
  obtain ⟨hx, hb, hml, hown, hts, hK, hA, hRf, hRl, hN, hRc⟩ := id C0
  rw [f_P_Reader_takeSymbols] at hf
  refine lv_aload_n hx hb d_Reader_takeSymbols_0 rfl (lv_at hl 0 rfl) ?_
  refine va_get (D := (dC, dI)) (ci := 5) (v := .ref (pb_a 0)) (C := R_Reader) (T := T_Reader) (N := 5) hx hb hts in_Reader hown hK hP 0 rfl rfl 1 (by decide) (hts _ t_185) (fun _ h9 => h9) rfl d_Reader_takeSymbols_1 ?_
  obtain ⟨⟨pb_1, v_2⟩, hf1, hf⟩ := bd_ex hf
  try dsimp only at hf
  have hPc := hP.sub (ws' := (wPb cI cZ cJ pb_a lk_w v_a pb ++ wBr cI cZ cJ v_a v_b v)) [1, 2, 3] rfl
  have hDc := hD.sub (ws' := (wPb cI cZ cJ pb_a lk_w v_a pb ++ wBr cI cZ cJ v_a v_b v)) [1, 2, 3] (by decide) rfl
  have hFc := va_free (wc := (wPb cI cZ cJ pb_a lk_w v_a pb ++ wBr cI cZ cJ v_a v_b v)) hD hS hA [1, 2, 3] rfl
  refine va_callv (va_runU (As := []) (rest := []) ⟨hx, hb, hml, hown, hts⟩ (k_P_PlainBits_startReading l dC dI cI cZ cJ pb_a v_a v_b lk_w H.size hf1) (va_cwA 0 hts (gU t_445 t_447 t_459 t_460 t_59 t_461) rfl rfl rfl (hN.2 _ (by decide +kernel)) hdx_Bits_startReading ⟨Nat.le_trans (Nat.le_of_ble_eq_true rfl) hRf, Nat.le_trans (Nat.le_of_ble_eq_true rfl) hRl⟩) ⟨kP_blind, va_recv hK hP (ci := 2) (q0 := 1) rfl rfl, kP_at hPc hK hDc hN⟩ rfl rfl hl.1 rfl (lv_room (Nat.le_of_ble_eq_true rfl)) d_Reader_takeSymbols_4 hRc) hS (fun q _ h => hFc q h) hFc (fun u t H1 locs ht hvm hw hB hz1 hk1 hS => ?_)
  obtain ⟨hP, hD⟩ := kQ_join (wr := (wRd cI cZ cJ rd_a (pb_a 0) rd ++ wSy cI cZ cJ sy_a sy)) (w1 := (wPb cI cZ cJ pb_a lk_w v_a pb_1 ++ wBr cI cZ cJ v_a v_b v_2)) hP hD [1, 2, 3] [0, 4, 5, 6, 7, 8, 9, 10, 11, 12, 13] rfl rfl (by decide) (by decide) ht hk1 hFc hB
  generalize H1 = H at hP hS ⊢
  have hP : va_P (dC, dI) vwCl (wRd cI cZ cJ rd_a (pb_a 0) rd ++ wPb cI cZ cJ pb_a lk_w v_a pb_1 ++ wBr cI cZ cJ v_a v_b v_2 ++ wSy cI cZ cJ sy_a sy) H := hP.sub [0, 11, 12, 13, 1, 2, 3, 4, 5, 6, 7, 8, 9, 10] rfl
  have hD : va_D A (wRd cI cZ cJ rd_a (pb_a 0) rd ++ wPb cI cZ cJ pb_a lk_w v_a pb_1 ++ wBr cI cZ cJ v_a v_b v_2 ++ wSy cI cZ cJ sy_a sy) := hD.sub [0, 11, 12, 13, 1, 2, 3, 4, 5, 6, 7, 8, 9, 10] (by decide) rfl
  refine lv_aload_n hx hb d_Reader_takeSymbols_7 rfl (lv_at hl 0 rfl) ?_
  refine va_get (D := (dC, dI)) (ci := 5) (v := .ref (pb_a 0)) (C := R_Reader) (T := T_Reader) (N := 5) hx hb hts in_Reader hown hK hP 0 rfl rfl 1 (by decide) (hts _ t_185) (fun _ h9 => h9) rfl d_Reader_takeSymbols_8 ?_
  obtain ⟨⟨r_3, pb_4, v_5⟩, hf1, hf⟩ := bd_ex hf
  try dsimp only at hf
  have hPc := hP.sub (ws' := (wPb cI cZ cJ pb_a lk_w v_a pb_1 ++ wBr cI cZ cJ v_a v_b v_2)) [1, 2, 3] rfl
  have hDc := hD.sub (ws' := (wPb cI cZ cJ pb_a lk_w v_a pb_1 ++ wBr cI cZ cJ v_a v_b v_2)) [1, 2, 3] (by decide) rfl
  have hFc := va_free (wc := (wPb cI cZ cJ pb_a lk_w v_a pb_1 ++ wBr cI cZ cJ v_a v_b v_2)) hD hS hA [1, 2, 3] rfl
  refine va_calli (va_runU (As := []) (rest := []) ⟨hx, hb, hml, hown, hts⟩ (k_P_Bits_takeNumber l dC dI cI cZ cJ pb_a v_a v_b lk_w H.size hf1) (va_cwU 0 hts (gU t_463 t_465 t_467 t_464 t_57 t_468) rfl rfl rfl rfl hd_Bits_takeNumber.2 ⟨Nat.le_trans (Nat.le_of_ble_eq_true rfl) hRf, Nat.le_trans (Nat.le_of_ble_eq_true rfl) hRl⟩) ⟨kP_blind, va_recv hK hP (ci := 2) (q0 := 1) rfl rfl, kP_at hPc hK hDc hN⟩ rfl rfl hl.1 rfl (lv_room (Nat.le_of_ble_eq_true rfl)) d_Reader_takeSymbols_11 hRc) hS (fun q _ h => hFc q h) hFc (fun r9 u t H1 locs ht hvm hw hB hz1 hk1 hS => ?_)
  rw [hw]
  obtain ⟨hP, hD⟩ := kQ_join (wr := (wRd cI cZ cJ rd_a (pb_a 0) rd ++ wSy cI cZ cJ sy_a sy)) (w1 := (wPb cI cZ cJ pb_a lk_w v_a pb_4 ++ wBr cI cZ cJ v_a v_b v_5)) hP hD [1, 2, 3] [0, 4, 5, 6, 7, 8, 9, 10, 11, 12, 13] rfl rfl (by decide) (by decide) ht hk1 hFc hB
  generalize H1 = H at hP hS ⊢
  have hP : va_P (dC, dI) vwCl (wRd cI cZ cJ rd_a (pb_a 0) rd ++ wPb cI cZ cJ pb_a lk_w v_a pb_4 ++ wBr cI cZ cJ v_a v_b v_5 ++ wSy cI cZ cJ sy_a sy) H := hP.sub [0, 11, 12, 13, 1, 2, 3, 4, 5, 6, 7, 8, 9, 10] rfl
  have hD : va_D A (wRd cI cZ cJ rd_a (pb_a 0) rd ++ wPb cI cZ cJ pb_a lk_w v_a pb_4 ++ wBr cI cZ cJ v_a v_b v_5 ++ wSy cI cZ cJ sy_a sy) := hD.sub [0, 11, 12, 13, 1, 2, 3, 4, 5, 6, 7, 8, 9, 10] (by decide) rfl
  refine lv_istore_n (lv' := [(2, .int r_3), (0, .ref (rd_a 0)), (1, .ref (sy_a 0))]) hx hb d_Reader_takeSymbols_14 rfl hl (by decide) rfl (fun ls hl => ?_)
  refine lv_iload_n hx hb d_Reader_takeSymbols_15 rfl (lv_at hl 0 rfl) ?_
  refine lv_iconst (v := (-1)) hx hb d_Reader_takeSymbols_16 (by decide) ?_
  refine lv_icmp_ne (tgt := 27) hx hb d_Reader_takeSymbols_17 (by decide) (fun c_6 => ?_) (fun c_6 => ?_)
  · rw [if_neg c_6] at hf
    refine lv_iload_n hx hb d_Reader_takeSymbols_27 rfl (lv_at hl 0 rfl) ?_
    refine lv_bipush (v := 40) hx hb d_Reader_takeSymbols_28 (by decide) ?_
    refine lv_icmp_le (tgt := 39) hx hb d_Reader_takeSymbols_30 (by decide) (fun c_7 => ?_) (fun c_7 => ?_)
    · rw [if_pos c_7] at hf
      refine lv_aload_n hx hb d_Reader_takeSymbols_39 rfl (lv_at hl 1 rfl) ?_
      refine lv_iconst (v := 0) hx hb d_Reader_takeSymbols_40 (by decide) ?_
      refine va_put (D := (dC, dI)) (ci := 5) (v := .int 0) (ty := .int) (C := R_Reader) (T := T_Reader) (N := 5) hx hb hts in_Reader ty_Reader tyok_Reader nm_Reader hown hK hP hD hS 0 rfl rfl 3 (by decide) (hts _ t_187) (fun _ h9 => h9) rfl (by decide +kernel) rfl rfl (Nat.le_of_ble_eq_true rfl) d_Reader_takeSymbols_41 (fun H locs hP hD hS => ?_)
      obtain ⟨rd_8, erd_8, hf⟩ := lt_ex hf
      try dsimp only at hf
      have hP : va_P (dC, dI) vwCl (wRd cI cZ cJ rd_a (pb_a 0) rd_8 ++ wPb cI cZ cJ pb_a lk_w v_a pb_4 ++ wBr cI cZ cJ v_a v_b v_5 ++ wSy cI cZ cJ sy_a sy) H := by rw [erd_8]; exact hP
      have hD : va_D A (wRd cI cZ cJ rd_a (pb_a 0) rd_8 ++ wPb cI cZ cJ pb_a lk_w v_a pb_4 ++ wBr cI cZ cJ v_a v_b v_5 ++ wSy cI cZ cJ sy_a sy) := by rw [erd_8]; exact hD
      refine lv_aload_n hx hb d_Reader_takeSymbols_44 rfl (lv_at hl 1 rfl) ?_
      refine lv_iconst (v := 0) hx hb d_Reader_takeSymbols_45 (by decide) ?_
      refine va_put (D := (dC, dI)) (ci := 5) (v := .int 0) (ty := .int) (C := R_Reader) (T := T_Reader) (N := 5) hx hb hts in_Reader ty_Reader tyok_Reader nm_Reader hown hK hP hD hS 0 rfl rfl 4 (by decide) (hts _ t_188) (fun _ h9 => h9) rfl (by decide +kernel) rfl rfl (Nat.le_of_ble_eq_true rfl) d_Reader_takeSymbols_46 (fun H locs hP hD hS => ?_)
      obtain ⟨rd_10, erd_10, hf⟩ := lt_ex hf
      try dsimp only at hf
      have hP : va_P (dC, dI) vwCl (wRd cI cZ cJ rd_a (pb_a 0) rd_10 ++ wPb cI cZ cJ pb_a lk_w v_a pb_4 ++ wBr cI cZ cJ v_a v_b v_5 ++ wSy cI cZ cJ sy_a sy) H := by rw [erd_10]; exact hP
      have hD : va_D A (wRd cI cZ cJ rd_a (pb_a 0) rd_10 ++ wPb cI cZ cJ pb_a lk_w v_a pb_4 ++ wBr cI cZ cJ v_a v_b v_5 ++ wSy cI cZ cJ sy_a sy) := by rw [erd_10]; exact hD
      refine lv_iconst (v := 0) hx hb d_Reader_takeSymbols_49 (by decide) ?_
      refine lv_istore_n (lv' := [(3, .int 0), (2, .int r_3), (0, .ref (rd_a 0)), (1, .ref (sy_a 0))]) hx hb d_Reader_takeSymbols_50 rfl hl (by decide) rfl (fun ls hl => ?_)
      refine L_P_Reader_takeSymbols_51 C0 (fun H locs ls rd_49 pb_50 v_51 sy_52 hP hD hS hl hf => ?_) (fun H locs ls rd_53 pb_54 v_55 sy_56 hP hD hS hl hf => ?_) (fun H locs ls rd_57 pb_58 v_59 sy_60 hP hD hS hl hf => ?_) 100000 _ _ _ rd_10 pb_4 v_5 sy 0 hP hD hS (lv_sub hl [2, 3, 1, 0] rfl) hf
      · try dsimp only at hf
        refine lv_iconst (v := 0) hx hb d_Reader_takeSymbols_73 (by decide) ?_
        exact hr74 _ _ _ 0 rd_49 pb_50 v_51 sy_52 (by decide) hP hD hS hf
      · try dsimp only at hf
        refine lv_iconst (v := 0) hx hb d_Reader_takeSymbols_100 (by decide) ?_
        exact hr101 _ _ _ 0 rd_53 pb_54 v_55 sy_56 (by decide) hP hD hS hf
      · try dsimp only at hf
        refine lv_iload_n hx hb d_Reader_takeSymbols_108 rfl (lv_at hl 1 rfl) ?_
        refine lv_if_eq (tgt := 131) hx hb d_Reader_takeSymbols_109 (by decide) (fun c_61 => ?_) (fun c_61 => ?_)
        · rw [if_pos c_61] at hf
          refine lv_iconst (v := 1) hx hb d_Reader_takeSymbols_131 (by decide) ?_
          refine lv_goto (tgt := 136) hx hb d_Reader_takeSymbols_132 (by decide) ?_
          exact hr136 _ _ _ 1 rd_57 pb_58 v_59 sy_60 (by decide) hP hD hS hf
        · rw [if_neg c_61] at hf
          refine lv_aload_n hx hb d_Reader_takeSymbols_112 rfl (lv_at hl 0 rfl) ?_
          refine va_get (D := (dC, dI)) (ci := 5) (v := .ref (pb_a 0)) (C := R_Reader) (T := T_Reader) (N := 5) hx hb hts in_Reader hown hK hP 0 rfl rfl 1 (by decide) (hts _ t_185) (fun _ h9 => h9) rfl d_Reader_takeSymbols_113 ?_
          refine lv_iconst (v := (-1)) hx hb d_Reader_takeSymbols_116 (by decide) ?_
          obtain ⟨⟨r_62, pb_63, v_64⟩, hf1, hf⟩ := bd_ex hf
          try dsimp only at hf
          have hPc := hP.sub (ws' := (wPb cI cZ cJ pb_a lk_w v_a pb_58 ++ wBr cI cZ cJ v_a v_b v_59)) [1, 2, 3] rfl
          have hDc := hD.sub (ws' := (wPb cI cZ cJ pb_a lk_w v_a pb_58 ++ wBr cI cZ cJ v_a v_b v_59)) [1, 2, 3] (by decide) rfl
          have hFc := va_free (wc := (wPb cI cZ cJ pb_a lk_w v_a pb_58 ++ wBr cI cZ cJ v_a v_b v_59)) hD hS hA [1, 2, 3] rfl
          refine va_calli (va_runU (As := [.int (-1)]) (rest := []) ⟨hx, hb, hml, hown, hts⟩ (k_P_PlainBits_takeBit l dC dI cI cZ cJ pb_a v_a v_b lk_w H.size hf1) (va_cwA 1 hts (gU t_493 t_471 t_475 t_476 t_59 t_477) rfl rfl rfl (hN.2 _ (by decide +kernel)) hdx_Bits_takeBit ⟨Nat.le_trans (Nat.le_of_ble_eq_true rfl) hRf, Nat.le_trans (Nat.le_of_ble_eq_true rfl) hRl⟩) ⟨kP_blind, va_recv hK hP (ci := 2) (q0 := 1) rfl rfl, kP_at hPc hK hDc hN⟩ rfl rfl hl.1 rfl (lv_room (Nat.le_of_ble_eq_true rfl)) d_Reader_takeSymbols_117 hRc) hS (fun q _ h => hFc q h) hFc (fun r9 u t H1 locs ht hvm hw hB hz1 hk1 hS => ?_)
          rw [hw]
          obtain ⟨hP, hD⟩ := kQ_join (wr := (wRd cI cZ cJ rd_a (pb_a 0) rd_57 ++ wSy cI cZ cJ sy_a sy_60)) (w1 := (wPb cI cZ cJ pb_a lk_w v_a pb_63 ++ wBr cI cZ cJ v_a v_b v_64)) hP hD [1, 2, 3] [0, 4, 5, 6, 7, 8, 9, 10, 11, 12, 13] rfl rfl (by decide) (by decide) ht hk1 hFc hB
          generalize H1 = H at hP hS ⊢
          have hP : va_P (dC, dI) vwCl (wRd cI cZ cJ rd_a (pb_a 0) rd_57 ++ wPb cI cZ cJ pb_a lk_w v_a pb_63 ++ wBr cI cZ cJ v_a v_b v_64 ++ wSy cI cZ cJ sy_a sy_60) H := hP.sub [0, 11, 12, 13, 1, 2, 3, 4, 5, 6, 7, 8, 9, 10] rfl
          have hD : va_D A (wRd cI cZ cJ rd_a (pb_a 0) rd_57 ++ wPb cI cZ cJ pb_a lk_w v_a pb_63 ++ wBr cI cZ cJ v_a v_b v_64 ++ wSy cI cZ cJ sy_a sy_60) := hD.sub [0, 11, 12, 13, 1, 2, 3, 4, 5, 6, 7, 8, 9, 10] (by decide) rfl
          refine lv_if_eq (tgt := 131) hx hb d_Reader_takeSymbols_120 (by decide) (fun c_65 => ?_) (fun c_65 => ?_)
          · rw [if_pos c_65] at hf
            refine lv_iconst (v := 1) hx hb d_Reader_takeSymbols_131 (by decide) ?_
            refine lv_goto (tgt := 136) hx hb d_Reader_takeSymbols_132 (by decide) ?_
            exact hr136 _ _ _ 1 rd_57 pb_63 v_64 sy_60 (by decide) hP hD hS hf
          · rw [if_neg c_65] at hf
            refine lv_aload_n hx hb d_Reader_takeSymbols_123 rfl (lv_at hl 0 rfl) ?_
            refine lv_iconst (v := 0) hx hb d_Reader_takeSymbols_124 (by decide) ?_
            obtain ⟨⟨r_66, rd_67⟩, hf1, hf⟩ := bd_ex hf
            try dsimp only at hf
            have hPc := hP.sub (ws' := (wRd cI cZ cJ rd_a (pb_a 0) rd_57)) [0] rfl
            have hDc := hD.sub (ws' := (wRd cI cZ cJ rd_a (pb_a 0) rd_57)) [0] (by decide) rfl
            have hFc := va_free (wc := (wRd cI cZ cJ rd_a (pb_a 0) rd_57)) hD hS hA [0] rfl
            refine va_calli (va_runV (As := [.int 0]) (rest := []) ⟨hx, hb, hml, hown, hts⟩ (k_P_Reader_refuse l dC dI cI cZ cJ rd_a (pb_a 0) H.size hf1) (cwV 1 hts (gV t_485 t_487 t_12 t_61 t_488) rfl rfl rfl hd_Reader_refuse ⟨Nat.le_trans (Nat.le_of_ble_eq_true rfl) hRf, Nat.le_trans (Nat.le_of_ble_eq_true rfl) hRl⟩) ⟨kP_blind, va_recv hK hP (ci := 5) (q0 := 0) rfl rfl, kP_at hPc hK hDc hN⟩ rfl rfl hl.1 rfl (lv_room (Nat.le_of_ble_eq_true rfl)) d_Reader_takeSymbols_125 hRc) hS (fun q _ h => hFc q h) hFc (fun r9 u t H1 locs ht hvm hw hB hz1 hk1 hS => ?_)
            rw [hw.1]
            obtain ⟨hP, hD⟩ := kQ_join (wr := (wPb cI cZ cJ pb_a lk_w v_a pb_63 ++ wBr cI cZ cJ v_a v_b v_64 ++ wSy cI cZ cJ sy_a sy_60)) (w1 := (wRd cI cZ cJ rd_a (pb_a 0) rd_67)) hP hD [0] [1, 2, 3, 4, 5, 6, 7, 8, 9, 10, 11, 12, 13] rfl rfl (by decide) (by decide) ht hk1 hFc hB
            generalize H1 = H at hP hS ⊢
            have hP : va_P (dC, dI) vwCl (wRd cI cZ cJ rd_a (pb_a 0) rd_67 ++ wPb cI cZ cJ pb_a lk_w v_a pb_63 ++ wBr cI cZ cJ v_a v_b v_64 ++ wSy cI cZ cJ sy_a sy_60) H := hP.sub [13, 0, 1, 2, 3, 4, 5, 6, 7, 8, 9, 10, 11, 12] rfl
            have hD : va_D A (wRd cI cZ cJ rd_a (pb_a 0) rd_67 ++ wPb cI cZ cJ pb_a lk_w v_a pb_63 ++ wBr cI cZ cJ v_a v_b v_64 ++ wSy cI cZ cJ sy_a sy_60) := hD.sub [13, 0, 1, 2, 3, 4, 5, 6, 7, 8, 9, 10, 11, 12] (by decide) rfl
            refine lv_if_eq (tgt := 135) hx hb d_Reader_takeSymbols_128 (by decide) (fun c_68 => ?_) (fun c_68 => ?_)
            · rw [if_pos c_68] at hf
              refine lv_iconst (v := 0) hx hb d_Reader_takeSymbols_135 (by decide) ?_
              exact hr136 _ _ _ 0 rd_67 pb_63 v_64 sy_60 (by decide) hP hD hS hf
            · rw [if_neg c_68] at hf
              refine lv_iconst (v := 1) hx hb d_Reader_takeSymbols_131 (by decide) ?_
              refine lv_goto (tgt := 136) hx hb d_Reader_takeSymbols_132 (by decide) ?_
              exact hr136 _ _ _ 1 rd_67 pb_63 v_64 sy_60 (by decide) hP hD hS hf
    · rw [if_neg c_7] at hf
      refine lv_aload_n hx hb d_Reader_takeSymbols_33 rfl (lv_at hl 1 rfl) ?_
      refine lv_iconst (v := 0) hx hb d_Reader_takeSymbols_34 (by decide) ?_
      obtain ⟨⟨r_69, rd_70⟩, hf1, hf⟩ := bd_ex hf
      try dsimp only at hf
      have hPc := hP.sub (ws' := (wRd cI cZ cJ rd_a (pb_a 0) rd)) [0] rfl
      have hDc := hD.sub (ws' := (wRd cI cZ cJ rd_a (pb_a 0) rd)) [0] (by decide) rfl
      have hFc := va_free (wc := (wRd cI cZ cJ rd_a (pb_a 0) rd)) hD hS hA [0] rfl
      refine va_calli (va_runV (As := [.int 0]) (rest := []) ⟨hx, hb, hml, hown, hts⟩ (k_P_Reader_refuse l dC dI cI cZ cJ rd_a (pb_a 0) H.size hf1) (cwV 1 hts (gV t_485 t_487 t_12 t_61 t_488) rfl rfl rfl hd_Reader_refuse ⟨Nat.le_trans (Nat.le_of_ble_eq_true rfl) hRf, Nat.le_trans (Nat.le_of_ble_eq_true rfl) hRl⟩) ⟨kP_blind, va_recv hK hP (ci := 5) (q0 := 0) rfl rfl, kP_at hPc hK hDc hN⟩ rfl rfl hl.1 rfl (lv_room (Nat.le_of_ble_eq_true rfl)) d_Reader_takeSymbols_35 hRc) hS (fun q _ h => hFc q h) hFc (fun r9 u t H1 locs ht hvm hw hB hz1 hk1 hS => ?_)
      rw [hw.1]
      obtain ⟨hP, hD⟩ := kQ_join (wr := (wPb cI cZ cJ pb_a lk_w v_a pb_4 ++ wBr cI cZ cJ v_a v_b v_5 ++ wSy cI cZ cJ sy_a sy)) (w1 := (wRd cI cZ cJ rd_a (pb_a 0) rd_70)) hP hD [0] [1, 2, 3, 4, 5, 6, 7, 8, 9, 10, 11, 12, 13] rfl rfl (by decide) (by decide) ht hk1 hFc hB
      generalize H1 = H at hP hS ⊢
      have hP : va_P (dC, dI) vwCl (wRd cI cZ cJ rd_a (pb_a 0) rd_70 ++ wPb cI cZ cJ pb_a lk_w v_a pb_4 ++ wBr cI cZ cJ v_a v_b v_5 ++ wSy cI cZ cJ sy_a sy) H := hP.sub [13, 0, 1, 2, 3, 4, 5, 6, 7, 8, 9, 10, 11, 12] rfl
      have hD : va_D A (wRd cI cZ cJ rd_a (pb_a 0) rd_70 ++ wPb cI cZ cJ pb_a lk_w v_a pb_4 ++ wBr cI cZ cJ v_a v_b v_5 ++ wSy cI cZ cJ sy_a sy) := hD.sub [13, 0, 1, 2, 3, 4, 5, 6, 7, 8, 9, 10, 11, 12] (by decide) rfl
      obtain ⟨h_z, hf⟩ := gd_ex hf
      exact hr38 _ _ _ r_69  rd_70 pb_4 v_5 sy (of_decide_eq_true h_z) hP hD hS hf
  · rw [if_pos c_6] at hf
    refine lv_aload_n hx hb d_Reader_takeSymbols_20 rfl (lv_at hl 1 rfl) ?_
    refine lv_bipush (v := 7) hx hb d_Reader_takeSymbols_21 (by decide) ?_
    obtain ⟨⟨r_71, rd_72⟩, hf1, hf⟩ := bd_ex hf
    try dsimp only at hf
    have hPc := hP.sub (ws' := (wRd cI cZ cJ rd_a (pb_a 0) rd)) [0] rfl
    have hDc := hD.sub (ws' := (wRd cI cZ cJ rd_a (pb_a 0) rd)) [0] (by decide) rfl
    have hFc := va_free (wc := (wRd cI cZ cJ rd_a (pb_a 0) rd)) hD hS hA [0] rfl
    refine va_calli (va_runV (As := [.int 7]) (rest := []) ⟨hx, hb, hml, hown, hts⟩ (k_P_Reader_refuse l dC dI cI cZ cJ rd_a (pb_a 0) H.size hf1) (cwV 1 hts (gV t_485 t_487 t_12 t_61 t_488) rfl rfl rfl hd_Reader_refuse ⟨Nat.le_trans (Nat.le_of_ble_eq_true rfl) hRf, Nat.le_trans (Nat.le_of_ble_eq_true rfl) hRl⟩) ⟨kP_blind, va_recv hK hP (ci := 5) (q0 := 0) rfl rfl, kP_at hPc hK hDc hN⟩ rfl rfl hl.1 rfl (lv_room (Nat.le_of_ble_eq_true rfl)) d_Reader_takeSymbols_23 hRc) hS (fun q _ h => hFc q h) hFc (fun r9 u t H1 locs ht hvm hw hB hz1 hk1 hS => ?_)
    rw [hw.1]
    obtain ⟨hP, hD⟩ := kQ_join (wr := (wPb cI cZ cJ pb_a lk_w v_a pb_4 ++ wBr cI cZ cJ v_a v_b v_5 ++ wSy cI cZ cJ sy_a sy)) (w1 := (wRd cI cZ cJ rd_a (pb_a 0) rd_72)) hP hD [0] [1, 2, 3, 4, 5, 6, 7, 8, 9, 10, 11, 12, 13] rfl rfl (by decide) (by decide) ht hk1 hFc hB
    generalize H1 = H at hP hS ⊢
    have hP : va_P (dC, dI) vwCl (wRd cI cZ cJ rd_a (pb_a 0) rd_72 ++ wPb cI cZ cJ pb_a lk_w v_a pb_4 ++ wBr cI cZ cJ v_a v_b v_5 ++ wSy cI cZ cJ sy_a sy) H := hP.sub [13, 0, 1, 2, 3, 4, 5, 6, 7, 8, 9, 10, 11, 12] rfl
    have hD : va_D A (wRd cI cZ cJ rd_a (pb_a 0) rd_72 ++ wPb cI cZ cJ pb_a lk_w v_a pb_4 ++ wBr cI cZ cJ v_a v_b v_5 ++ wSy cI cZ cJ sy_a sy) := hD.sub [13, 0, 1, 2, 3, 4, 5, 6, 7, 8, 9, 10, 11, 12] (by decide) rfl
    obtain ⟨h_z, hf⟩ := gd_ex hf
    exact hr26 _ _ _ r_71  rd_72 pb_4 v_5 sy (of_decide_eq_true h_z) hP hD hS hf
end
set_option maxHeartbeats 4000000 in
set_option maxRecDepth 100000 in
theorem k_P_Reader_takeSymbols (l : Launch) (dC : Nat → ClassId) (dI : Nat → Nat → Nat) (cI cZ cJ : ClassId) (rd_a : Nat → Nat) (pb_a : Nat → Nat) (v_a v_b : Nat) (sy_a : Nat → Nat) (lk_w : Nat) (sz : Nat) {rd : Rd} {pb : Pb} {v : Br} {sy : Sy} {r : Int32} {rd' : Rd} {pb' : Pb} {v' : Br} {sy' : Sy} (hf : f_P_Reader_takeSymbols rd pb v sy = some (r, rd', pb', v', sy')) :
    Met l y_Reader_takeSymbols ws_Reader_takeSymbols ({ frames := 6, cells := 0, slots := 0, locals := 130 }) (va_Pc [.ref (rd_a 0), .ref (sy_a 0)] (kP (dC, dI) vwCl (TYS cI cZ cJ) (wRd cI cZ cJ rd_a (pb_a 0) rd ++ wPb cI cZ cJ pb_a lk_w v_a pb ++ wBr cI cZ cJ v_a v_b v ++ wSy cI cZ cJ sy_a sy) sz)) (va_Qi (fun (q : Int32) (_ : Unit) => q = r ∧ vp_nar .boolean r = r) (fun _ t => kQ (dC, dI) vwCl (TYS cI cZ cJ) (wRd cI cZ cJ rd_a (pb_a 0) rd ++ wPb cI cZ cJ pb_a lk_w v_a pb ++ wBr cI cZ cJ v_a v_b v ++ wSy cI cZ cJ sy_a sy) sz (wRd cI cZ cJ rd_a (pb_a 0) rd' ++ wPb cI cZ cJ pb_a lk_w v_a pb' ++ wBr cI cZ cJ v_a v_b v' ++ wSy cI cZ cJ sy_a sy') t) (va_A (wRd cI cZ cJ rd_a (pb_a 0) rd ++ wPb cI cZ cJ pb_a lk_w v_a pb ++ wBr cI cZ cJ v_a v_b v ++ wSy cI cZ cJ sy_a sy) sz)) 0 0 (va_A (wRd cI cZ cJ rd_a (pb_a 0) rd ++ wPb cI cZ cJ pb_a lk_w v_a pb ++ wBr cI cZ cJ v_a v_b v ++ wSy cI cZ cJ sy_a sy) sz) := by
  refine Met.ofW (cc := c_Reader_takeSymbols) (maxL := 4) (ret := (some .boolean)) (by decide) rfl ?_
  intro p e s m args below meth c s₁ B hml hv
  obtain ⟨rfl, hsz, hP, hK, hD0, hN⟩ := hv
  have hr := B.returns
  have hlocks := B.notSynchronized
  subst hsz
  have hD := hD0.self (sz := s.heap.size)
  have hl := lv_entry ([.ref (rd_a 0), .ref (sy_a 0)]) (n := 4) (Nat.le_of_ble_eq_true rfl)
  rw [lg_entry_eq]
  generalize (lg_sl ([.ref (rd_a 0), .ref (sy_a 0)]) ++ List.replicate (4 - (lg_sl ([.ref (rd_a 0), .ref (sy_a 0)])).length) Slot.unset).toArray = ls at hl ⊢
  refine B_P_Reader_takeSymbols (A := va_A (wRd cI cZ cJ rd_a (pb_a 0) rd ++ wPb cI cZ cJ pb_a lk_w v_a pb ++ wBr cI cZ cJ v_a v_b v ++ wSy cI cZ cJ sy_a sy) s.heap.size) ⟨B.exec, B.bytes, hml, findClass_of_methodNamed B.named, fun w h => atoms_spec (ws := ws_Reader_takeSymbols) B.pre w (List.mem_cons_of_mem _ h), hK, fun q h => Or.inr h, Nat.le_of_ble_eq_true rfl, Nat.le_of_ble_eq_true rfl, hN, Nat.le_of_ble_eq_true rfl, Nat.le_of_ble_eq_true rfl⟩ (fun H locs ls v rd'1 pb'1 v'1 sy'1 hz hP hD hS hf => ?_) (fun H locs ls v rd'1 pb'1 v'1 sy'1 hz hP hD hS hf => ?_) (fun H locs ls v rd'1 pb'1 v'1 sy'1 hz hP hD hS hf => ?_) (fun H locs ls v rd'1 pb'1 v'1 sy'1 hz hP hD hS hf => ?_) (fun H locs ls v rd'1 pb'1 v'1 sy'1 hz hP hD hS hf => ?_) hP hD va_S.rf hl hf
  · cases hf
    exact W.zret B.exec B.bytes hr (nz_n hz) (fun t ht hW => ⟨⟨_, (), rfl, ⟨rfl, hz⟩, ⟨by rw [ht]; exact hP, va_K.moved hW.alike hK, hD⟩⟩, hS.F ht⟩) hS.2.2 d_Reader_takeSymbols_26
  · cases hf
    exact W.zret B.exec B.bytes hr (nz_n hz) (fun t ht hW => ⟨⟨_, (), rfl, ⟨rfl, hz⟩, ⟨by rw [ht]; exact hP, va_K.moved hW.alike hK, hD⟩⟩, hS.F ht⟩) hS.2.2 d_Reader_takeSymbols_38
  · cases hf
    exact W.zret B.exec B.bytes hr (nz_n hz) (fun t ht hW => ⟨⟨_, (), rfl, ⟨rfl, hz⟩, ⟨by rw [ht]; exact hP, va_K.moved hW.alike hK, hD⟩⟩, hS.F ht⟩) hS.2.2 d_Reader_takeSymbols_74
  · cases hf
    exact W.zret B.exec B.bytes hr (nz_n hz) (fun t ht hW => ⟨⟨_, (), rfl, ⟨rfl, hz⟩, ⟨by rw [ht]; exact hP, va_K.moved hW.alike hK, hD⟩⟩, hS.F ht⟩) hS.2.2 d_Reader_takeSymbols_101
  · cases hf
    exact W.zret B.exec B.bytes hr (nz_n hz) (fun t ht hW => ⟨⟨_, (), rfl, ⟨rfl, hz⟩, ⟨by rw [ht]; exact hP, va_K.moved hW.alike hK, hD⟩⟩, hS.F ht⟩) hS.2.2 d_Reader_takeSymbols_136

/-! P_Reader_takeExports -/
def l_P_Reader_takeExports_77 (rd : Rd) (pb : Pb) (v : Br) (x2 : Int32) (x3 : Int32) (x4 : Int32) (x5 : Int32) (k100 : Sy → Option (Int32 × Rd × Pb × Br × Sy)) : Nat → Sy → Int32 → Option (Int32 × Rd × Pb × Br × Sy)
  | 0, _, _ => none
  | n + 1, sy, x6 => (if x5 ≤ x6 then k100 sy else gd (inb (x3 + x6) 40) <| lt' (Sy_s_ex sy (upd (Sy_ex sy) (x3 + x6).toNatClampNeg (vp_nar .boolean x2))) <| fun sy_21 => lt' (x6 + 1) <| fun x6_23 => (l_P_Reader_takeExports_77 rd pb v x2 x3 x4 x5 k100 n) sy_21 x6_23)
def j_P_Reader_takeExports_74_17 (rd : Rd) (sy : Sy) (x2 : Int32) (x3 : Int32) (x4 : Int32) (rc7 : Pb → Br → Sy → Int32 → Int32 → Int32 → Option (Int32 × Rd × Pb × Br × Sy)) (r_12 : Int32) (pb_13 : Pb) (v_14 : Br) : Option (Int32 × Rd × Pb × Br × Sy) := l_P_Reader_takeExports_77 rd pb_13 v_14 x2 x3 x4 r_12 (fun sy_24 => lt' (x3 + r_12) <| fun x3_25 => (if x2 = 0 then lt' (x4 + 1) <| fun x4_28 => rc7 pb_13 v_14 sy_24 1 x3_25 x4_28 else lt' (x4 + 1) <| fun x4_27 => rc7 pb_13 v_14 sy_24 0 x3_25 x4_27)) 100000 sy 0
def l_P_Reader_takeExports_7 (rd : Rd) (k39 : Pb → Br → Sy → Option (Int32 × Rd × Pb × Br × Sy)) (k67 : Pb → Br → Sy → Option (Int32 × Rd × Pb × Br × Sy)) (k121 : Pb → Br → Sy → Option (Int32 × Rd × Pb × Br × Sy)) : Nat → Pb → Br → Sy → Int32 → Int32 → Int32 → Option (Int32 × Rd × Pb × Br × Sy)
  | 0, _, _, _, _, _, _ => none
  | n + 1, pb, v, sy, x2, x3, x4 => (if (Sy_n sy) < x4 then k121 pb v sy else (if (Sy_n sy) ≤ x3 then k121 pb v sy else bd (f_P_Bits_takeNumber pb v) <| fun (r_12, pb_13, v_14) => (if r_12 = (-1) then k39 pb_13 v_14 sy else (if ((Sy_n sy) - x3) < r_12 then k67 pb_13 v_14 sy else (if r_12 = 0 then (if x4 ≤ 0 then j_P_Reader_takeExports_74_17 rd sy x2 x3 x4 (l_P_Reader_takeExports_7 rd k39 k67 k121 n) r_12 pb_13 v_14 else k67 pb_13 v_14 sy) else j_P_Reader_takeExports_74_17 rd sy x2 x3 x4 (l_P_Reader_takeExports_7 rd k39 k67 k121 n) r_12 pb_13 v_14)))))
def f_P_Reader_takeExports (rd : Rd) (pb : Pb) (v : Br) (sy : Sy) : Option (Int32 × Rd × Pb × Br × Sy) := l_P_Reader_takeExports_7 rd (fun pb_31 v_32 sy_33 => bd (f_P_Reader_refuse rd 7) <| fun (r_40, rd_41) => gd (decide (vp_nar .boolean r_40 = r_40)) <| some (r_40, rd_41, pb_31, v_32, sy_33)) (fun pb_34 v_35 sy_36 => bd (f_P_Reader_refuse rd 6) <| fun (r_42, rd_43) => gd (decide (vp_nar .boolean r_42 = r_42)) <| some (r_42, rd_43, pb_34, v_35, sy_36)) (fun pb_37 v_38 sy_39 => some (1, rd, pb_37, v_38, sy_39)) 100000 pb v sy 0 0 0
section
variable {p : Program} {l : Launch} {e : Env} {R : Room} {s : State} {m : MethodId} {args : Array Value} {below : List Frame} {meth : Method} {c : Code} {Q : State → Prop} {A : Nat → Prop}
set_option maxHeartbeats 4000000 in
set_option maxRecDepth 100000 in
theorem L_P_Reader_takeExports_77 {cells slots : Nat} {dC : Nat → ClassId} {dI : Nat → Nat → Nat} {cI cZ cJ : ClassId} {rd_a : Nat → Nat} {pb_a : Nat → Nat} {v_a v_b : Nat} {sy_a : Nat → Nat} {lk_w : Nat} {rd : Rd} {pb : Pb} {v : Br} {x2 : Int32} {x3 : Int32} {x4 : Int32} {x5 : Int32} {k100 : Sy → Option (Int32 × Rd × Pb × Br × Sy)} {res : Int32 × Rd × Pb × Br × Sy} (C0 : cxt p c m s args R cells slots R_Reader c_Reader_takeExports tb 7 (dC, dI) vwCl (TYS cI cZ cJ) A 4 86)
    (hk100 : ∀ (H : Heap) (locs : List Loc) (ls : Array Slot) (sy_18 : Sy), va_P (dC, dI) vwCl (wRd cI cZ cJ rd_a (pb_a 0) rd ++ wPb cI cZ cJ pb_a lk_w v_a pb ++ wBr cI cZ cJ v_a v_b v ++ wSy cI cZ cJ sy_a sy_18) H → va_D A (wRd cI cZ cJ rd_a (pb_a 0) rd ++ wPb cI cZ cJ pb_a lk_w v_a pb ++ wBr cI cZ cJ v_a v_b v ++ wSy cI cZ cJ sy_a sy_18) → va_S A s.heap H locs → lv_has ls 7 [(0, .ref (rd_a 0)), (1, .ref (sy_a 0)), (2, .int x2), (3, .int x3), (4, .int x4), (5, .int x5)] → k100 sy_18 = some res → W p l e R s m args below meth c H locs cells slots Q (F0 m 100 ls [])) :
    ∀ (n : Nat) (H : Heap) (locs : List Loc) (ls : Array Slot) (sy : Sy) (x6 : Int32), va_P (dC, dI) vwCl (wRd cI cZ cJ rd_a (pb_a 0) rd ++ wPb cI cZ cJ pb_a lk_w v_a pb ++ wBr cI cZ cJ v_a v_b v ++ wSy cI cZ cJ sy_a sy) H → va_D A (wRd cI cZ cJ rd_a (pb_a 0) rd ++ wPb cI cZ cJ pb_a lk_w v_a pb ++ wBr cI cZ cJ v_a v_b v ++ wSy cI cZ cJ sy_a sy) → va_S A s.heap H locs → lv_has ls 7 [(0, .ref (rd_a 0)), (1, .ref (sy_a 0)), (2, .int x2), (3, .int x3), (4, .int x4), (5, .int x5), (6, .int x6)] → l_P_Reader_takeExports_77 rd pb v x2 x3 x4 x5 k100 n sy x6 = some res → W p l e R s m args below meth c H locs cells slots Q (F0 m 77 ls []) := by
  obtain ⟨hx, hb, hml, hown, hts, hK, hA, hRf, hRl, hN, hRc⟩ := id C0
  intro n
  induction n with
  | zero =>
    intro H locs ls sy x6 hP hD hS hl hf
    exact absurd hf (by simp [l_P_Reader_takeExports_77])
  | succ n ih =>
    intro H locs ls sy x6 hP hD hS hl hf
    rw [l_P_Reader_takeExports_77] at hf
    refine lv_iload hx hb d_Reader_takeExports_77 (lv_at hl 6 rfl) ?_
    refine lv_iload hx hb d_Reader_takeExports_79 (lv_at hl 5 rfl) ?_
    refine lv_icmp_ge (tgt := 100) hx hb d_Reader_takeExports_81 (by decide) (fun c_19 => ?_) (fun c_19 => ?_)
    · rw [if_pos c_19] at hf
      exact hk100 _ _ _ sy hP hD hS (lv_sub hl [0, 1, 2, 3, 4, 5] rfl) hf
    · rw [if_neg c_19] at hf
      refine lv_aload_n hx hb d_Reader_takeExports_84 rfl (lv_at hl 1 rfl) ?_
      refine va_get (D := (dC, dI)) (ci := 0) (v := .ref (sy_a 3)) (C := R_Symbols) (T := T_Symbols) (N := 10) hx hb hts in_Symbols hown hK hP 4 rfl rfl 2 (by decide) (hts _ t_215) (fun _ h9 => h9) rfl d_Reader_takeExports_85 ?_
      refine lv_iload_n hx hb d_Reader_takeExports_88 rfl (lv_at hl 3 rfl) ?_
      refine lv_iload hx hb d_Reader_takeExports_89 (lv_at hl 6 rfl) ?_
      refine lv_iadd hx hb d_Reader_takeExports_91 ?_
      refine lv_iload_n hx hb d_Reader_takeExports_92 rfl (lv_at hl 2 rfl) ?_
      obtain ⟨h_20, hf⟩ := gd_ex hf
      refine va_zast (f := Sy_ex sy) hx hb hK hP hD hS 7 1 rfl rfl (inb_in h_20) d_Reader_takeExports_93 (fun H locs hP hD hS => ?_)
      obtain ⟨sy_21, esy_21, hf⟩ := lt_ex hf
      try dsimp only at hf
      have hP : va_P (dC, dI) vwCl (wRd cI cZ cJ rd_a (pb_a 0) rd ++ wPb cI cZ cJ pb_a lk_w v_a pb ++ wBr cI cZ cJ v_a v_b v ++ wSy cI cZ cJ sy_a sy_21) H := by rw [esy_21]; exact hP
      have hD : va_D A (wRd cI cZ cJ rd_a (pb_a 0) rd ++ wPb cI cZ cJ pb_a lk_w v_a pb ++ wBr cI cZ cJ v_a v_b v ++ wSy cI cZ cJ sy_a sy_21) := by rw [esy_21]; exact hD
      obtain ⟨x6_23, ex6_23, hf⟩ := lt_ex hf
      try dsimp only at hf
      refine lv_iinc (v := x6_23) (lv' := [(6, .int x6_23), (0, .ref (rd_a 0)), (1, .ref (sy_a 0)), (2, .int x2), (3, .int x3), (4, .int x4), (5, .int x5)]) hx hb d_Reader_takeExports_94 hl (k := 6) rfl (by rw [ex6_23]; rfl) (by decide) rfl (fun ls hl => ?_)
      refine lv_goto (tgt := 77) hx hb d_Reader_takeExports_97 (by decide) ?_
      exact ih _ _ _ sy_21 x6_23 hP hD hS (lv_sub hl [1, 2, 3, 4, 5, 6, 0] rfl) hf
set_option maxHeartbeats 4000000 in
set_option maxRecDepth 100000 in
theorem L_P_Reader_takeExports_7 {cells slots : Nat} {dC : Nat → ClassId} {dI : Nat → Nat → Nat} {cI cZ cJ : ClassId} {rd_a : Nat → Nat} {pb_a : Nat → Nat} {v_a v_b : Nat} {sy_a : Nat → Nat} {lk_w : Nat} {rd : Rd} {k39 : Pb → Br → Sy → Option (Int32 × Rd × Pb × Br × Sy)} {k67 : Pb → Br → Sy → Option (Int32 × Rd × Pb × Br × Sy)} {k121 : Pb → Br → Sy → Option (Int32 × Rd × Pb × Br × Sy)} {res : Int32 × Rd × Pb × Br × Sy} (C0 : cxt p c m s args R cells slots R_Reader c_Reader_takeExports tb 7 (dC, dI) vwCl (TYS cI cZ cJ) A 4 86)
    (hk39 : ∀ (H : Heap) (locs : List Loc) (ls : Array Slot) (pb_1 : Pb) (v_2 : Br) (sy_3 : Sy), va_P (dC, dI) vwCl (wRd cI cZ cJ rd_a (pb_a 0) rd ++ wPb cI cZ cJ pb_a lk_w v_a pb_1 ++ wBr cI cZ cJ v_a v_b v_2 ++ wSy cI cZ cJ sy_a sy_3) H → va_D A (wRd cI cZ cJ rd_a (pb_a 0) rd ++ wPb cI cZ cJ pb_a lk_w v_a pb_1 ++ wBr cI cZ cJ v_a v_b v_2 ++ wSy cI cZ cJ sy_a sy_3) → va_S A s.heap H locs → lv_has ls 7 [(0, .ref (rd_a 0))] → k39 pb_1 v_2 sy_3 = some res → W p l e R s m args below meth c H locs cells slots Q (F0 m 39 ls []))
    (hk67 : ∀ (H : Heap) (locs : List Loc) (ls : Array Slot) (pb_4 : Pb) (v_5 : Br) (sy_6 : Sy), va_P (dC, dI) vwCl (wRd cI cZ cJ rd_a (pb_a 0) rd ++ wPb cI cZ cJ pb_a lk_w v_a pb_4 ++ wBr cI cZ cJ v_a v_b v_5 ++ wSy cI cZ cJ sy_a sy_6) H → va_D A (wRd cI cZ cJ rd_a (pb_a 0) rd ++ wPb cI cZ cJ pb_a lk_w v_a pb_4 ++ wBr cI cZ cJ v_a v_b v_5 ++ wSy cI cZ cJ sy_a sy_6) → va_S A s.heap H locs → lv_has ls 7 [(0, .ref (rd_a 0))] → k67 pb_4 v_5 sy_6 = some res → W p l e R s m args below meth c H locs cells slots Q (F0 m 67 ls []))
    (hk121 : ∀ (H : Heap) (locs : List Loc) (ls : Array Slot) (pb_7 : Pb) (v_8 : Br) (sy_9 : Sy), va_P (dC, dI) vwCl (wRd cI cZ cJ rd_a (pb_a 0) rd ++ wPb cI cZ cJ pb_a lk_w v_a pb_7 ++ wBr cI cZ cJ v_a v_b v_8 ++ wSy cI cZ cJ sy_a sy_9) H → va_D A (wRd cI cZ cJ rd_a (pb_a 0) rd ++ wPb cI cZ cJ pb_a lk_w v_a pb_7 ++ wBr cI cZ cJ v_a v_b v_8 ++ wSy cI cZ cJ sy_a sy_9) → va_S A s.heap H locs → lv_has ls 7 [] → k121 pb_7 v_8 sy_9 = some res → W p l e R s m args below meth c H locs cells slots Q (F0 m 121 ls [])) :
    ∀ (n : Nat) (H : Heap) (locs : List Loc) (ls : Array Slot) (pb : Pb) (v : Br) (sy : Sy) (x2 : Int32) (x3 : Int32) (x4 : Int32), va_P (dC, dI) vwCl (wRd cI cZ cJ rd_a (pb_a 0) rd ++ wPb cI cZ cJ pb_a lk_w v_a pb ++ wBr cI cZ cJ v_a v_b v ++ wSy cI cZ cJ sy_a sy) H → va_D A (wRd cI cZ cJ rd_a (pb_a 0) rd ++ wPb cI cZ cJ pb_a lk_w v_a pb ++ wBr cI cZ cJ v_a v_b v ++ wSy cI cZ cJ sy_a sy) → va_S A s.heap H locs → lv_has ls 7 [(0, .ref (rd_a 0)), (1, .ref (sy_a 0)), (2, .int x2), (3, .int x3), (4, .int x4)] → l_P_Reader_takeExports_7 rd k39 k67 k121 n pb v sy x2 x3 x4 = some res → W p l e R s m args below meth c H locs cells slots Q (F0 m 7 ls []) := by
  obtain ⟨hx, hb, hml, hown, hts, hK, hA, hRf, hRl, hN, hRc⟩ := id C0
  intro n
  induction n with
  | zero =>
    intro H locs ls pb v sy x2 x3 x4 hP hD hS hl hf
    exact absurd hf (by simp [l_P_Reader_takeExports_7])
  | succ n ih =>
    intro H locs ls pb v sy x2 x3 x4 hP hD hS hl hf
    rw [l_P_Reader_takeExports_7] at hf
    refine lv_iload hx hb d_Reader_takeExports_7 (lv_at hl 4 rfl) ?_
    refine lv_aload_n hx hb d_Reader_takeExports_9 rfl (lv_at hl 1 rfl) ?_
    refine va_get (D := (dC, dI)) (ci := 0) (v := .int (Sy_n sy)) (C := R_Symbols) (T := T_Symbols) (N := 10) hx hb hts in_Symbols hown hK hP 4 rfl rfl 7 (by decide) (hts _ t_233) (fun _ h9 => h9) rfl d_Reader_takeExports_10 ?_
    refine lv_icmp_gt (tgt := 121) hx hb d_Reader_takeExports_13 (by decide) (fun c_10 => ?_) (fun c_10 => ?_)
    · rw [if_pos c_10] at hf
      exact hk121 _ _ _ pb v sy hP hD hS (lv_sub hl [] rfl) hf
    · rw [if_neg c_10] at hf
      refine lv_iload_n hx hb d_Reader_takeExports_16 rfl (lv_at hl 3 rfl) ?_
      refine lv_aload_n hx hb d_Reader_takeExports_17 rfl (lv_at hl 1 rfl) ?_
      refine va_get (D := (dC, dI)) (ci := 0) (v := .int (Sy_n sy)) (C := R_Symbols) (T := T_Symbols) (N := 10) hx hb hts in_Symbols hown hK hP 4 rfl rfl 7 (by decide) (hts _ t_233) (fun _ h9 => h9) rfl d_Reader_takeExports_18 ?_
      refine lv_icmp_ge (tgt := 121) hx hb d_Reader_takeExports_21 (by decide) (fun c_11 => ?_) (fun c_11 => ?_)
      · rw [if_pos c_11] at hf
        exact hk121 _ _ _ pb v sy hP hD hS (lv_sub hl [] rfl) hf
      · rw [if_neg c_11] at hf
        refine lv_aload_n hx hb d_Reader_takeExports_24 rfl (lv_at hl 0 rfl) ?_
        refine va_get (D := (dC, dI)) (ci := 5) (v := .ref (pb_a 0)) (C := R_Reader) (T := T_Reader) (N := 5) hx hb hts in_Reader hown hK hP 0 rfl rfl 1 (by decide) (hts _ t_185) (fun _ h9 => h9) rfl d_Reader_takeExports_25 ?_
        obtain ⟨⟨r_12, pb_13, v_14⟩, hf1, hf⟩ := bd_ex hf
        try dsimp only at hf
        have hPc := hP.sub (ws' := (wPb cI cZ cJ pb_a lk_w v_a pb ++ wBr cI cZ cJ v_a v_b v)) [1, 2, 3] rfl
        have hDc := hD.sub (ws' := (wPb cI cZ cJ pb_a lk_w v_a pb ++ wBr cI cZ cJ v_a v_b v)) [1, 2, 3] (by decide) rfl
        have hFc := va_free (wc := (wPb cI cZ cJ pb_a lk_w v_a pb ++ wBr cI cZ cJ v_a v_b v)) hD hS hA [1, 2, 3] rfl
        refine va_calli (va_runU (As := []) (rest := []) ⟨hx, hb, hml, hown, hts⟩ (k_P_Bits_takeNumber l dC dI cI cZ cJ pb_a v_a v_b lk_w H.size hf1) (va_cwU 0 hts (gU t_463 t_465 t_467 t_464 t_57 t_468) rfl rfl rfl rfl hd_Bits_takeNumber.2 ⟨Nat.le_trans (Nat.le_of_ble_eq_true rfl) hRf, Nat.le_trans (Nat.le_of_ble_eq_true rfl) hRl⟩) ⟨kP_blind, va_recv hK hP (ci := 2) (q0 := 1) rfl rfl, kP_at hPc hK hDc hN⟩ rfl rfl hl.1 rfl (lv_room (Nat.le_of_ble_eq_true rfl)) d_Reader_takeExports_28 hRc) hS (fun q _ h => hFc q h) hFc (fun r9 u t H1 locs ht hvm hw hB hz1 hk1 hS => ?_)
        rw [hw]
        obtain ⟨hP, hD⟩ := kQ_join (wr := (wRd cI cZ cJ rd_a (pb_a 0) rd ++ wSy cI cZ cJ sy_a sy)) (w1 := (wPb cI cZ cJ pb_a lk_w v_a pb_13 ++ wBr cI cZ cJ v_a v_b v_14)) hP hD [1, 2, 3] [0, 4, 5, 6, 7, 8, 9, 10, 11, 12, 13] rfl rfl (by decide) (by decide) ht hk1 hFc hB
        generalize H1 = H at hP hS ⊢
        have hP : va_P (dC, dI) vwCl (wRd cI cZ cJ rd_a (pb_a 0) rd ++ wPb cI cZ cJ pb_a lk_w v_a pb_13 ++ wBr cI cZ cJ v_a v_b v_14 ++ wSy cI cZ cJ sy_a sy) H := hP.sub [0, 11, 12, 13, 1, 2, 3, 4, 5, 6, 7, 8, 9, 10] rfl
        have hD : va_D A (wRd cI cZ cJ rd_a (pb_a 0) rd ++ wPb cI cZ cJ pb_a lk_w v_a pb_13 ++ wBr cI cZ cJ v_a v_b v_14 ++ wSy cI cZ cJ sy_a sy) := hD.sub [0, 11, 12, 13, 1, 2, 3, 4, 5, 6, 7, 8, 9, 10] (by decide) rfl
        refine lv_istore (lv' := [(5, .int r_12), (0, .ref (rd_a 0)), (1, .ref (sy_a 0)), (2, .int x2), (3, .int x3), (4, .int x4)]) hx hb d_Reader_takeExports_31 hl (by decide) rfl (fun ls hl => ?_)
        refine lv_iload hx hb d_Reader_takeExports_33 (lv_at hl 0 rfl) ?_
        refine lv_iconst (v := (-1)) hx hb d_Reader_takeExports_35 (by decide) ?_
        refine lv_icmp_ne (tgt := 46) hx hb d_Reader_takeExports_36 (by decide) (fun c_15 => ?_) (fun c_15 => ?_)
        · rw [if_neg c_15] at hf
          refine lv_iload hx hb d_Reader_takeExports_46 (lv_at hl 0 rfl) ?_
          refine lv_aload_n hx hb d_Reader_takeExports_48 rfl (lv_at hl 2 rfl) ?_
          refine va_get (D := (dC, dI)) (ci := 0) (v := .int (Sy_n sy)) (C := R_Symbols) (T := T_Symbols) (N := 10) hx hb hts in_Symbols hown hK hP 4 rfl rfl 7 (by decide) (hts _ t_233) (fun _ h9 => h9) rfl d_Reader_takeExports_49 ?_
          refine lv_iload_n hx hb d_Reader_takeExports_52 rfl (lv_at hl 4 rfl) ?_
          refine lv_isub hx hb d_Reader_takeExports_53 ?_
          refine lv_icmp_gt (tgt := 67) hx hb d_Reader_takeExports_54 (by decide) (fun c_16 => ?_) (fun c_16 => ?_)
          · rw [if_pos c_16] at hf
            exact hk67 _ _ _ pb_13 v_14 sy hP hD hS (lv_sub hl [1] rfl) hf
          · rw [if_neg c_16] at hf
            refine lv_iload hx hb d_Reader_takeExports_57 (lv_at hl 0 rfl) ?_
            have J74_16 : ∀ (H : Heap) (locs : List Loc) (ls : Array Slot), va_P (dC, dI) vwCl (wRd cI cZ cJ rd_a (pb_a 0) rd ++ wPb cI cZ cJ pb_a lk_w v_a pb_13 ++ wBr cI cZ cJ v_a v_b v_14 ++ wSy cI cZ cJ sy_a sy) H → va_D A (wRd cI cZ cJ rd_a (pb_a 0) rd ++ wPb cI cZ cJ pb_a lk_w v_a pb_13 ++ wBr cI cZ cJ v_a v_b v_14 ++ wSy cI cZ cJ sy_a sy) → va_S A s.heap H locs → lv_has ls 7 [(0, .ref (rd_a 0)), (1, .ref (sy_a 0)), (2, .int x2), (3, .int x3), (4, .int x4), (5, .int r_12)] → j_P_Reader_takeExports_74_17 rd sy x2 x3 x4 (l_P_Reader_takeExports_7 rd k39 k67 k121 n) r_12 pb_13 v_14 = some res → W p l e R s m args below meth c H locs cells slots Q (F0 m 74 ls []) := by
              intro H locs ls hP hD hS hl hf
              rw [j_P_Reader_takeExports_74_17] at hf
              refine lv_iconst (v := 0) hx hb d_Reader_takeExports_74 (by decide) ?_
              refine lv_istore (lv' := [(6, .int 0), (0, .ref (rd_a 0)), (1, .ref (sy_a 0)), (2, .int x2), (3, .int x3), (4, .int x4), (5, .int r_12)]) hx hb d_Reader_takeExports_75 hl (by decide) rfl (fun ls hl => ?_)
              refine L_P_Reader_takeExports_77 C0 (fun H locs ls sy_24 hP hD hS hl hf => ?_) 100000 _ _ _ sy 0 hP hD hS (lv_sub hl [1, 2, 3, 4, 5, 6, 0] rfl) hf
              try dsimp only at hf
              refine lv_iload_n hx hb d_Reader_takeExports_100 rfl (lv_at hl 3 rfl) ?_
              refine lv_iload hx hb d_Reader_takeExports_101 (lv_at hl 5 rfl) ?_
              refine lv_iadd hx hb d_Reader_takeExports_103 ?_
              obtain ⟨x3_25, ex3_25, hf⟩ := lt_ex hf
              try dsimp only at hf
              refine tp_i ex3_25 ?_
              refine lv_istore_n (lv' := [(3, .int x3_25), (0, .ref (rd_a 0)), (1, .ref (sy_a 0)), (2, .int x2), (4, .int x4), (5, .int r_12)]) hx hb d_Reader_takeExports_104 rfl hl (by decide) rfl (fun ls hl => ?_)
              refine lv_iload_n hx hb d_Reader_takeExports_105 rfl (lv_at hl 3 rfl) ?_
              refine lv_if_ne (tgt := 113) hx hb d_Reader_takeExports_106 (by decide) (fun c_26 => ?_) (fun c_26 => ?_)
              · rw [if_neg c_26] at hf
                refine lv_iconst (v := 0) hx hb d_Reader_takeExports_113 (by decide) ?_
                refine lv_istore_n (lv' := [(2, .int 0), (3, .int x3_25), (0, .ref (rd_a 0)), (1, .ref (sy_a 0)), (4, .int x4), (5, .int r_12)]) hx hb d_Reader_takeExports_114 rfl hl (by decide) rfl (fun ls hl => ?_)
                obtain ⟨x4_27, ex4_27, hf⟩ := lt_ex hf
                try dsimp only at hf
                refine lv_iinc (v := x4_27) (lv' := [(4, .int x4_27), (2, .int 0), (3, .int x3_25), (0, .ref (rd_a 0)), (1, .ref (sy_a 0)), (5, .int r_12)]) hx hb d_Reader_takeExports_115 hl (k := 4) rfl (by rw [ex4_27]; rfl) (by decide) rfl (fun ls hl => ?_)
                refine lv_goto (tgt := 7) hx hb d_Reader_takeExports_118 (by decide) ?_
                exact ih _ _ _ pb_13 v_14 sy_24 0 x3_25 x4_27 hP hD hS (lv_sub hl [3, 4, 1, 2, 0] rfl) hf
              · rw [if_pos c_26] at hf
                refine lv_iconst (v := 1) hx hb d_Reader_takeExports_109 (by decide) ?_
                refine lv_goto (tgt := 114) hx hb d_Reader_takeExports_110 (by decide) ?_
                refine lv_istore_n (lv' := [(2, .int 1), (3, .int x3_25), (0, .ref (rd_a 0)), (1, .ref (sy_a 0)), (4, .int x4), (5, .int r_12)]) hx hb d_Reader_takeExports_114 rfl hl (by decide) rfl (fun ls hl => ?_)
                obtain ⟨x4_28, ex4_28, hf⟩ := lt_ex hf
                try dsimp only at hf
                refine lv_iinc (v := x4_28) (lv' := [(4, .int x4_28), (2, .int 1), (3, .int x3_25), (0, .ref (rd_a 0)), (1, .ref (sy_a 0)), (5, .int r_12)]) hx hb d_Reader_takeExports_115 hl (k := 4) rfl (by rw [ex4_28]; rfl) (by decide) rfl (fun ls hl => ?_)
                refine lv_goto (tgt := 7) hx hb d_Reader_takeExports_118 (by decide) ?_
                exact ih _ _ _ pb_13 v_14 sy_24 1 x3_25 x4_28 hP hD hS (lv_sub hl [3, 4, 1, 2, 0] rfl) hf
            refine lv_if_ne (tgt := 74) hx hb d_Reader_takeExports_59 (by decide) (fun c_29 => ?_) (fun c_29 => ?_)
            · rw [if_neg c_29] at hf
              exact J74_16 _ _ _  hP hD hS (lv_sub hl [1, 2, 3, 4, 5, 0] rfl) hf
            · rw [if_pos c_29] at hf
              refine lv_iload hx hb d_Reader_takeExports_62 (lv_at hl 5 rfl) ?_
              refine lv_if_le (tgt := 74) hx hb d_Reader_takeExports_64 (by decide) (fun c_30 => ?_) (fun c_30 => ?_)
              · rw [if_pos c_30] at hf
                exact J74_16 _ _ _  hP hD hS (lv_sub hl [1, 2, 3, 4, 5, 0] rfl) hf
              · rw [if_neg c_30] at hf
                exact hk67 _ _ _ pb_13 v_14 sy hP hD hS (lv_sub hl [1] rfl) hf
        · rw [if_pos c_15] at hf
          exact hk39 _ _ _ pb_13 v_14 sy hP hD hS (lv_sub hl [1] rfl) hf
set_option maxHeartbeats 4000000 in
set_option maxRecDepth 100000 in
theorem B_P_Reader_takeExports {cells slots : Nat} {dC : Nat → ClassId} {dI : Nat → Nat → Nat} {cI cZ cJ : ClassId} {rd_a : Nat → Nat} {pb_a : Nat → Nat} {v_a v_b : Nat} {sy_a : Nat → Nat} {lk_w : Nat} {rd : Rd} {pb : Pb} {v : Br} {sy : Sy} {res : Int32 × Rd × Pb × Br × Sy} (C0 : cxt p c m s args R cells slots R_Reader c_Reader_takeExports tb 7 (dC, dI) vwCl (TYS cI cZ cJ) A 4 86)
    (hr45 : ∀ (H : Heap) (locs : List Loc) (ls : Array Slot) (v : Int32) (rd' : Rd) (pb' : Pb) (v' : Br) (sy' : Sy), vp_nar .boolean v = v → va_P (dC, dI) vwCl (wRd cI cZ cJ rd_a (pb_a 0) rd' ++ wPb cI cZ cJ pb_a lk_w v_a pb' ++ wBr cI cZ cJ v_a v_b v' ++ wSy cI cZ cJ sy_a sy') H → va_D A (wRd cI cZ cJ rd_a (pb_a 0) rd' ++ wPb cI cZ cJ pb_a lk_w v_a pb' ++ wBr cI cZ cJ v_a v_b v' ++ wSy cI cZ cJ sy_a sy') → va_S A s.heap H locs → some (v, rd', pb', v', sy') = some res → W p l e R s m args below meth c H locs cells slots Q (F0 m 45 ls [.int v]))
    (hr73 : ∀ (H : Heap) (locs : List Loc) (ls : Array Slot) (v : Int32) (rd' : Rd) (pb' : Pb) (v' : Br) (sy' : Sy), vp_nar .boolean v = v → va_P (dC, dI) vwCl (wRd cI cZ cJ rd_a (pb_a 0) rd' ++ wPb cI cZ cJ pb_a lk_w v_a pb' ++ wBr cI cZ cJ v_a v_b v' ++ wSy cI cZ cJ sy_a sy') H → va_D A (wRd cI cZ cJ rd_a (pb_a 0) rd' ++ wPb cI cZ cJ pb_a lk_w v_a pb' ++ wBr cI cZ cJ v_a v_b v' ++ wSy cI cZ cJ sy_a sy') → va_S A s.heap H locs → some (v, rd', pb', v', sy') = some res → W p l e R s m args below meth c H locs cells slots Q (F0 m 73 ls [.int v]))
    (hr122 : ∀ (H : Heap) (locs : List Loc) (ls : Array Slot) (v : Int32) (rd' : Rd) (pb' : Pb) (v' : Br) (sy' : Sy), vp_nar .boolean v = v → va_P (dC, dI) vwCl (wRd cI cZ cJ rd_a (pb_a 0) rd' ++ wPb cI cZ cJ pb_a lk_w v_a pb' ++ wBr cI cZ cJ v_a v_b v' ++ wSy cI cZ cJ sy_a sy') H → va_D A (wRd cI cZ cJ rd_a (pb_a 0) rd' ++ wPb cI cZ cJ pb_a lk_w v_a pb' ++ wBr cI cZ cJ v_a v_b v' ++ wSy cI cZ cJ sy_a sy') → va_S A s.heap H locs → some (v, rd', pb', v', sy') = some res → W p l e R s m args below meth c H locs cells slots Q (F0 m 122 ls [.int v]))
    {H : Heap} {locs : List Loc} {ls : Array Slot} (hP : va_P (dC, dI) vwCl (wRd cI cZ cJ rd_a (pb_a 0) rd ++ wPb cI cZ cJ pb_a lk_w v_a pb ++ wBr cI cZ cJ v_a v_b v ++ wSy cI cZ cJ sy_a sy) H) (hD : va_D A (wRd cI cZ cJ rd_a (pb_a 0) rd ++ wPb cI cZ cJ pb_a lk_w v_a pb ++ wBr cI cZ cJ v_a v_b v ++ wSy cI cZ cJ sy_a sy)) (hS : va_S A s.heap H locs) (hl : lv_has ls 7 [(0, .ref (rd_a 0)), (1, .ref (sy_a 0))]) (hf : f_P_Reader_takeExports rd pb v sy = some res) : W p l e R s m args below meth c H locs cells slots Q (F0 m 0 ls []) := by
  obtain ⟨hx, hb, hml, hown, hts, hK, hA, hRf, hRl, hN, hRc⟩ := id C0
  rw [f_P_Reader_takeExports] at hf
  refine lv_iconst (v := 0) hx hb d_Reader_takeExports_0 (by decide) ?_
  refine lv_istore_n (lv' := [(2, .int 0), (0, .ref (rd_a 0)), (1, .ref (sy_a 0))]) hx hb d_Reader_takeExports_1 rfl hl (by decide) rfl (fun ls hl => ?_)
  refine lv_iconst (v := 0) hx hb d_Reader_takeExports_2 (by decide) ?_
  refine lv_istore_n (lv' := [(3, .int 0), (2, .int 0), (0, .ref (rd_a 0)), (1, .ref (sy_a 0))]) hx hb d_Reader_takeExports_3 rfl hl (by decide) rfl (fun ls hl => ?_)
  refine lv_iconst (v := 0) hx hb d_Reader_takeExports_4 (by decide) ?_
  refine lv_istore (lv' := [(4, .int 0), (3, .int 0), (2, .int 0), (0, .ref (rd_a 0)), (1, .ref (sy_a 0))]) hx hb d_Reader_takeExports_5 hl (by decide) rfl (fun ls hl => ?_)
  refine L_P_Reader_takeExports_7 C0 (fun H locs ls pb_31 v_32 sy_33 hP hD hS hl hf => ?_) (fun H locs ls pb_34 v_35 sy_36 hP hD hS hl hf => ?_) (fun H locs ls pb_37 v_38 sy_39 hP hD hS hl hf => ?_) 100000 _ _ _ pb v sy 0 0 0 hP hD hS (lv_sub hl [3, 4, 2, 1, 0] rfl) hf
  · try dsimp only at hf
    refine lv_aload_n hx hb d_Reader_takeExports_39 rfl (lv_at hl 0 rfl) ?_
    refine lv_bipush (v := 7) hx hb d_Reader_takeExports_40 (by decide) ?_
    obtain ⟨⟨r_40, rd_41⟩, hf1, hf⟩ := bd_ex hf
    try dsimp only at hf
    have hPc := hP.sub (ws' := (wRd cI cZ cJ rd_a (pb_a 0) rd)) [0] rfl
    have hDc := hD.sub (ws' := (wRd cI cZ cJ rd_a (pb_a 0) rd)) [0] (by decide) rfl
    have hFc := va_free (wc := (wRd cI cZ cJ rd_a (pb_a 0) rd)) hD hS hA [0] rfl
    refine va_calli (va_runV (As := [.int 7]) (rest := []) ⟨hx, hb, hml, hown, hts⟩ (k_P_Reader_refuse l dC dI cI cZ cJ rd_a (pb_a 0) H.size hf1) (cwV 1 hts (gV t_485 t_487 t_12 t_61 t_488) rfl rfl rfl hd_Reader_refuse ⟨Nat.le_trans (Nat.le_of_ble_eq_true rfl) hRf, Nat.le_trans (Nat.le_of_ble_eq_true rfl) hRl⟩) ⟨kP_blind, va_recv hK hP (ci := 5) (q0 := 0) rfl rfl, kP_at hPc hK hDc hN⟩ rfl rfl hl.1 rfl (lv_room (Nat.le_of_ble_eq_true rfl)) d_Reader_takeExports_42 hRc) hS (fun q _ h => hFc q h) hFc (fun r9 u t H1 locs ht hvm hw hB hz1 hk1 hS => ?_)
    rw [hw.1]
    obtain ⟨hP, hD⟩ := kQ_join (wr := (wPb cI cZ cJ pb_a lk_w v_a pb_31 ++ wBr cI cZ cJ v_a v_b v_32 ++ wSy cI cZ cJ sy_a sy_33)) (w1 := (wRd cI cZ cJ rd_a (pb_a 0) rd_41)) hP hD [0] [1, 2, 3, 4, 5, 6, 7, 8, 9, 10, 11, 12, 13] rfl rfl (by decide) (by decide) ht hk1 hFc hB
    generalize H1 = H at hP hS ⊢
    have hP : va_P (dC, dI) vwCl (wRd cI cZ cJ rd_a (pb_a 0) rd_41 ++ wPb cI cZ cJ pb_a lk_w v_a pb_31 ++ wBr cI cZ cJ v_a v_b v_32 ++ wSy cI cZ cJ sy_a sy_33) H := hP.sub [13, 0, 1, 2, 3, 4, 5, 6, 7, 8, 9, 10, 11, 12] rfl
    have hD : va_D A (wRd cI cZ cJ rd_a (pb_a 0) rd_41 ++ wPb cI cZ cJ pb_a lk_w v_a pb_31 ++ wBr cI cZ cJ v_a v_b v_32 ++ wSy cI cZ cJ sy_a sy_33) := hD.sub [13, 0, 1, 2, 3, 4, 5, 6, 7, 8, 9, 10, 11, 12] (by decide) rfl
    obtain ⟨h_z, hf⟩ := gd_ex hf
    exact hr45 _ _ _ r_40  rd_41 pb_31 v_32 sy_33 (of_decide_eq_true h_z) hP hD hS hf
  · try dsimp only at hf
    refine lv_aload_n hx hb d_Reader_takeExports_67 rfl (lv_at hl 0 rfl) ?_
    refine lv_bipush (v := 6) hx hb d_Reader_takeExports_68 (by decide) ?_
    obtain ⟨⟨r_42, rd_43⟩, hf1, hf⟩ := bd_ex hf
    try dsimp only at hf
    have hPc := hP.sub (ws' := (wRd cI cZ cJ rd_a (pb_a 0) rd)) [0] rfl
    have hDc := hD.sub (ws' := (wRd cI cZ cJ rd_a (pb_a 0) rd)) [0] (by decide) rfl
    have hFc := va_free (wc := (wRd cI cZ cJ rd_a (pb_a 0) rd)) hD hS hA [0] rfl
    refine va_calli (va_runV (As := [.int 6]) (rest := []) ⟨hx, hb, hml, hown, hts⟩ (k_P_Reader_refuse l dC dI cI cZ cJ rd_a (pb_a 0) H.size hf1) (cwV 1 hts (gV t_485 t_487 t_12 t_61 t_488) rfl rfl rfl hd_Reader_refuse ⟨Nat.le_trans (Nat.le_of_ble_eq_true rfl) hRf, Nat.le_trans (Nat.le_of_ble_eq_true rfl) hRl⟩) ⟨kP_blind, va_recv hK hP (ci := 5) (q0 := 0) rfl rfl, kP_at hPc hK hDc hN⟩ rfl rfl hl.1 rfl (lv_room (Nat.le_of_ble_eq_true rfl)) d_Reader_takeExports_70 hRc) hS (fun q _ h => hFc q h) hFc (fun r9 u t H1 locs ht hvm hw hB hz1 hk1 hS => ?_)
    rw [hw.1]
    obtain ⟨hP, hD⟩ := kQ_join (wr := (wPb cI cZ cJ pb_a lk_w v_a pb_34 ++ wBr cI cZ cJ v_a v_b v_35 ++ wSy cI cZ cJ sy_a sy_36)) (w1 := (wRd cI cZ cJ rd_a (pb_a 0) rd_43)) hP hD [0] [1, 2, 3, 4, 5, 6, 7, 8, 9, 10, 11, 12, 13] rfl rfl (by decide) (by decide) ht hk1 hFc hB
    generalize H1 = H at hP hS ⊢
    have hP : va_P (dC, dI) vwCl (wRd cI cZ cJ rd_a (pb_a 0) rd_43 ++ wPb cI cZ cJ pb_a lk_w v_a pb_34 ++ wBr cI cZ cJ v_a v_b v_35 ++ wSy cI cZ cJ sy_a sy_36) H := hP.sub [13, 0, 1, 2, 3, 4, 5, 6, 7, 8, 9, 10, 11, 12] rfl
    have hD : va_D A (wRd cI cZ cJ rd_a (pb_a 0) rd_43 ++ wPb cI cZ cJ pb_a lk_w v_a pb_34 ++ wBr cI cZ cJ v_a v_b v_35 ++ wSy cI cZ cJ sy_a sy_36) := hD.sub [13, 0, 1, 2, 3, 4, 5, 6, 7, 8, 9, 10, 11, 12] (by decide) rfl
    obtain ⟨h_z, hf⟩ := gd_ex hf
    exact hr73 _ _ _ r_42  rd_43 pb_34 v_35 sy_36 (of_decide_eq_true h_z) hP hD hS hf
  · try dsimp only at hf
    refine lv_iconst (v := 1) hx hb d_Reader_takeExports_121 (by decide) ?_
    exact hr122 _ _ _ 1 rd pb_37 v_38 sy_39 (by decide) hP hD hS hf
end
set_option maxHeartbeats 4000000 in
set_option maxRecDepth 100000 in
theorem k_P_Reader_takeExports (l : Launch) (dC : Nat → ClassId) (dI : Nat → Nat → Nat) (cI cZ cJ : ClassId) (rd_a : Nat → Nat) (pb_a : Nat → Nat) (v_a v_b : Nat) (sy_a : Nat → Nat) (lk_w : Nat) (sz : Nat) {rd : Rd} {pb : Pb} {v : Br} {sy : Sy} {r : Int32} {rd' : Rd} {pb' : Pb} {v' : Br} {sy' : Sy} (hf : f_P_Reader_takeExports rd pb v sy = some (r, rd', pb', v', sy')) :
    Met l y_Reader_takeExports ws_Reader_takeExports ({ frames := 4, cells := 0, slots := 0, locals := 86 }) (va_Pc [.ref (rd_a 0), .ref (sy_a 0)] (kP (dC, dI) vwCl (TYS cI cZ cJ) (wRd cI cZ cJ rd_a (pb_a 0) rd ++ wPb cI cZ cJ pb_a lk_w v_a pb ++ wBr cI cZ cJ v_a v_b v ++ wSy cI cZ cJ sy_a sy) sz)) (va_Qi (fun (q : Int32) (_ : Unit) => q = r ∧ vp_nar .boolean r = r) (fun _ t => kQ (dC, dI) vwCl (TYS cI cZ cJ) (wRd cI cZ cJ rd_a (pb_a 0) rd ++ wPb cI cZ cJ pb_a lk_w v_a pb ++ wBr cI cZ cJ v_a v_b v ++ wSy cI cZ cJ sy_a sy) sz (wRd cI cZ cJ rd_a (pb_a 0) rd' ++ wPb cI cZ cJ pb_a lk_w v_a pb' ++ wBr cI cZ cJ v_a v_b v' ++ wSy cI cZ cJ sy_a sy') t) (va_A (wRd cI cZ cJ rd_a (pb_a 0) rd ++ wPb cI cZ cJ pb_a lk_w v_a pb ++ wBr cI cZ cJ v_a v_b v ++ wSy cI cZ cJ sy_a sy) sz)) 0 0 (va_A (wRd cI cZ cJ rd_a (pb_a 0) rd ++ wPb cI cZ cJ pb_a lk_w v_a pb ++ wBr cI cZ cJ v_a v_b v ++ wSy cI cZ cJ sy_a sy) sz) := by
  refine Met.ofW (cc := c_Reader_takeExports) (maxL := 7) (ret := (some .boolean)) (by decide) rfl ?_
  intro p e s m args below meth c s₁ B hml hv
  obtain ⟨rfl, hsz, hP, hK, hD0, hN⟩ := hv
  have hr := B.returns
  have hlocks := B.notSynchronized
  subst hsz
  have hD := hD0.self (sz := s.heap.size)
  have hl := lv_entry ([.ref (rd_a 0), .ref (sy_a 0)]) (n := 7) (Nat.le_of_ble_eq_true rfl)
  rw [lg_entry_eq]
  generalize (lg_sl ([.ref (rd_a 0), .ref (sy_a 0)]) ++ List.replicate (7 - (lg_sl ([.ref (rd_a 0), .ref (sy_a 0)])).length) Slot.unset).toArray = ls at hl ⊢
  refine B_P_Reader_takeExports (A := va_A (wRd cI cZ cJ rd_a (pb_a 0) rd ++ wPb cI cZ cJ pb_a lk_w v_a pb ++ wBr cI cZ cJ v_a v_b v ++ wSy cI cZ cJ sy_a sy) s.heap.size) ⟨B.exec, B.bytes, hml, findClass_of_methodNamed B.named, fun w h => atoms_spec (ws := ws_Reader_takeExports) B.pre w (List.mem_cons_of_mem _ h), hK, fun q h => Or.inr h, Nat.le_of_ble_eq_true rfl, Nat.le_of_ble_eq_true rfl, hN, Nat.le_of_ble_eq_true rfl, Nat.le_of_ble_eq_true rfl⟩ (fun H locs ls v rd'1 pb'1 v'1 sy'1 hz hP hD hS hf => ?_) (fun H locs ls v rd'1 pb'1 v'1 sy'1 hz hP hD hS hf => ?_) (fun H locs ls v rd'1 pb'1 v'1 sy'1 hz hP hD hS hf => ?_) hP hD va_S.rf hl hf
  · cases hf
    exact W.zret B.exec B.bytes hr (nz_n hz) (fun t ht hW => ⟨⟨_, (), rfl, ⟨rfl, hz⟩, ⟨by rw [ht]; exact hP, va_K.moved hW.alike hK, hD⟩⟩, hS.F ht⟩) hS.2.2 d_Reader_takeExports_45
  · cases hf
    exact W.zret B.exec B.bytes hr (nz_n hz) (fun t ht hW => ⟨⟨_, (), rfl, ⟨rfl, hz⟩, ⟨by rw [ht]; exact hP, va_K.moved hW.alike hK, hD⟩⟩, hS.F ht⟩) hS.2.2 d_Reader_takeExports_73
  · cases hf
    exact W.zret B.exec B.bytes hr (nz_n hz) (fun t ht hW => ⟨⟨_, (), rfl, ⟨rfl, hz⟩, ⟨by rw [ht]; exact hP, va_K.moved hW.alike hK, hD⟩⟩, hS.F ht⟩) hS.2.2 d_Reader_takeExports_122

