theorem t_230 : (.fieldLink R_Symbols 40 "SymbolDictionaries$Symbols" "size" "I" : Cond) ∈ tb := List.mem_filter.mpr ⟨List.mem_of_getElem? (i := 230) (by decide +kernel), by decide +kernel⟩
theorem t_218 : (.fieldLink R_Symbols 22 "SymbolDictionaries$Symbols" "bases" "[I" : Cond) ∈ tb := List.mem_filter.mpr ⟨List.mem_of_getElem? (i := 218) (by decide +kernel), by decide +kernel⟩
theorem t_222 : (.fieldLink R_Symbols 25 "SymbolDictionaries$Symbols" "dxs" "[I" : Cond) ∈ tb := List.mem_filter.mpr ⟨List.mem_of_getElem? (i := 222) (by decide +kernel), by decide +kernel⟩
theorem t_225 : (.fieldLink R_Symbols 28 "SymbolDictionaries$Symbols" "dys" "[I" : Cond) ∈ tb := List.mem_filter.mpr ⟨List.mem_of_getElem? (i := 225) (by decide +kernel), by decide +kernel⟩
theorem t_234 : (.fieldLink R_Symbols 34 "SymbolDictionaries$Symbols" "rows" "[I" : Cond) ∈ tb := List.mem_filter.mpr ⟨List.mem_of_getElem? (i := 234) (by decide +kernel), by decide +kernel⟩
theorem t_206 : (.fieldLink R_Symbols 9 "SymbolDictionaries$Symbols" "widths" "[I" : Cond) ∈ tb := List.mem_filter.mpr ⟨List.mem_of_getElem? (i := 206) (by decide +kernel), by decide +kernel⟩
theorem t_404 : (.methodLink R_Symbols 52 y_Symbols_withinWidth : Cond) ∈ tb := List.mem_filter.mpr ⟨List.mem_of_getElem? (i := 404) (by decide +kernel), by decide +kernel⟩
theorem t_406 : (.instanceMethod y_Symbols_withinWidth : Cond) ∈ tb := List.mem_filter.mpr ⟨List.mem_of_getElem? (i := 406) (by decide +kernel), by decide +kernel⟩
theorem t_8 : (.selects R_Symbols y_Symbols_withinWidth y_Symbols_withinWidth : Cond) ∈ tb := List.mem_filter.mpr ⟨List.mem_of_getElem? (i := 8) (by decide +kernel), by decide +kernel⟩
theorem t_62 : (.initialized R_Symbols : Cond) ∈ tb := List.mem_filter.mpr ⟨List.mem_of_getElem? (i := 62) (by decide +kernel), by decide +kernel⟩
theorem t_407 : (.code y_Symbols_withinWidth c_Symbols_withinWidth 3 (some .int) : Cond) ∈ tb := List.mem_filter.mpr ⟨List.mem_of_getElem? (i := 407) (by decide +kernel), by decide +kernel⟩
theorem t_510 : (.methodLink R_Symbols 56 y_Integer_bitCount : Cond) ∈ tb := List.mem_filter.mpr ⟨List.mem_of_getElem? (i := 510) (by decide +kernel), by decide +kernel⟩
theorem t_511 : (.static y_Integer_bitCount : Cond) ∈ tb := List.mem_filter.mpr ⟨List.mem_of_getElem? (i := 511) (by decide +kernel), by decide +kernel⟩
theorem t_69 : (.initialized R_Integer : Cond) ∈ tb := List.mem_filter.mpr ⟨List.mem_of_getElem? (i := 69) (by decide +kernel), by decide +kernel⟩
theorem t_512 : (.code y_Integer_bitCount c_Integer_bitCount 1 (some .int) : Cond) ∈ tb := List.mem_filter.mpr ⟨List.mem_of_getElem? (i := 512) (by decide +kernel), by decide +kernel⟩
theorem t_403 : (.methodLink R_Symbols 62 y_Symbols_rowOf : Cond) ∈ tb := List.mem_filter.mpr ⟨List.mem_of_getElem? (i := 403) (by decide +kernel), by decide +kernel⟩
theorem t_396 : (.instanceMethod y_Symbols_rowOf : Cond) ∈ tb := List.mem_filter.mpr ⟨List.mem_of_getElem? (i := 396) (by decide +kernel), by decide +kernel⟩
theorem t_397 : (.selects R_Symbols y_Symbols_rowOf y_Symbols_rowOf : Cond) ∈ tb := List.mem_filter.mpr ⟨List.mem_of_getElem? (i := 397) (by decide +kernel), by decide +kernel⟩
theorem t_398 : (.code y_Symbols_rowOf c_Symbols_rowOf 3 (some .int) : Cond) ∈ tb := List.mem_filter.mpr ⟨List.mem_of_getElem? (i := 398) (by decide +kernel), by decide +kernel⟩
theorem t_210 : (.fieldLink R_Symbols 15 "SymbolDictionaries$Symbols" "heights" "[I" : Cond) ∈ tb := List.mem_filter.mpr ⟨List.mem_of_getElem? (i := 210) (by decide +kernel), by decide +kernel⟩
theorem t_292 : (.methodLink R_Symbols 65 y_Symbols_comesBefore : Cond) ∈ tb := List.mem_filter.mpr ⟨List.mem_of_getElem? (i := 292) (by decide +kernel), by decide +kernel⟩
theorem t_293 : (.instanceMethod y_Symbols_comesBefore : Cond) ∈ tb := List.mem_filter.mpr ⟨List.mem_of_getElem? (i := 293) (by decide +kernel), by decide +kernel⟩
theorem t_294 : (.selects R_Symbols y_Symbols_comesBefore y_Symbols_comesBefore : Cond) ∈ tb := List.mem_filter.mpr ⟨List.mem_of_getElem? (i := 294) (by decide +kernel), by decide +kernel⟩
theorem t_295 : (.code y_Symbols_comesBefore c_Symbols_comesBefore 3 (some .boolean) : Cond) ∈ tb := List.mem_filter.mpr ⟨List.mem_of_getElem? (i := 295) (by decide +kernel), by decide +kernel⟩
theorem t_235 : (.fieldLink R_Symbols 37 "SymbolDictionaries$Symbols" "firstOfClass" "[I" : Cond) ∈ tb := List.mem_filter.mpr ⟨List.mem_of_getElem? (i := 235) (by decide +kernel), by decide +kernel⟩
theorem t_810 : (.methodLink R_Symbols 72 y_Symbols_difference : Cond) ∈ tb := List.mem_filter.mpr ⟨List.mem_of_getElem? (i := 810) (by decide +kernel), by decide +kernel⟩
theorem t_791 : (.instanceMethod y_Symbols_difference : Cond) ∈ tb := List.mem_filter.mpr ⟨List.mem_of_getElem? (i := 791) (by decide +kernel), by decide +kernel⟩
theorem t_792 : (.selects R_Symbols y_Symbols_difference y_Symbols_difference : Cond) ∈ tb := List.mem_filter.mpr ⟨List.mem_of_getElem? (i := 792) (by decide +kernel), by decide +kernel⟩
theorem t_793 : (.code y_Symbols_difference c_Symbols_difference 5 (some .int) : Cond) ∈ tb := List.mem_filter.mpr ⟨List.mem_of_getElem? (i := 793) (by decide +kernel), by decide +kernel⟩
theorem t_806 : (.methodLink R_Symbols 69 y_Symbols_firstFitting : Cond) ∈ tb := List.mem_filter.mpr ⟨List.mem_of_getElem? (i := 806) (by decide +kernel), by decide +kernel⟩
theorem t_808 : (.instanceMethod y_Symbols_firstFitting : Cond) ∈ tb := List.mem_filter.mpr ⟨List.mem_of_getElem? (i := 808) (by decide +kernel), by decide +kernel⟩
theorem t_22 : (.selects R_Symbols y_Symbols_firstFitting y_Symbols_firstFitting : Cond) ∈ tb := List.mem_filter.mpr ⟨List.mem_of_getElem? (i := 22) (by decide +kernel), by decide +kernel⟩
theorem t_809 : (.code y_Symbols_firstFitting c_Symbols_firstFitting 6 (some .int) : Cond) ∈ tb := List.mem_filter.mpr ⟨List.mem_of_getElem? (i := 809) (by decide +kernel), by decide +kernel⟩
theorem t_228 : (.fieldLink R_Symbols 31 "SymbolDictionaries$Symbols" "classOf" "[I" : Cond) ∈ tb := List.mem_filter.mpr ⟨List.mem_of_getElem? (i := 228) (by decide +kernel), by decide +kernel⟩
theorem t_214 : (.fieldLink R_Symbols 18 "SymbolDictionaries$Symbols" "exported" "[Z" : Cond) ∈ tb := List.mem_filter.mpr ⟨List.mem_of_getElem? (i := 214) (by decide +kernel), by decide +kernel⟩
theorem t_502 : (.methodLink R_Symbols 44 y_Symbols_refine : Cond) ∈ tb := List.mem_filter.mpr ⟨List.mem_of_getElem? (i := 502) (by decide +kernel), by decide +kernel⟩
theorem t_503 : (.instanceMethod y_Symbols_refine : Cond) ∈ tb := List.mem_filter.mpr ⟨List.mem_of_getElem? (i := 503) (by decide +kernel), by decide +kernel⟩
theorem t_504 : (.selects R_Symbols y_Symbols_refine y_Symbols_refine : Cond) ∈ tb := List.mem_filter.mpr ⟨List.mem_of_getElem? (i := 504) (by decide +kernel), by decide +kernel⟩
theorem t_505 : (.code y_Symbols_refine c_Symbols_refine 5 none : Cond) ∈ tb := List.mem_filter.mpr ⟨List.mem_of_getElem? (i := 505) (by decide +kernel), by decide +kernel⟩
theorem t_506 : (.methodLink R_Symbols 48 y_Symbols_setRow : Cond) ∈ tb := List.mem_filter.mpr ⟨List.mem_of_getElem? (i := 506) (by decide +kernel), by decide +kernel⟩
theorem t_507 : (.instanceMethod y_Symbols_setRow : Cond) ∈ tb := List.mem_filter.mpr ⟨List.mem_of_getElem? (i := 507) (by decide +kernel), by decide +kernel⟩
theorem t_508 : (.selects R_Symbols y_Symbols_setRow y_Symbols_setRow : Cond) ∈ tb := List.mem_filter.mpr ⟨List.mem_of_getElem? (i := 508) (by decide +kernel), by decide +kernel⟩
theorem t_509 : (.code y_Symbols_setRow c_Symbols_setRow 5 (some .int) : Cond) ∈ tb := List.mem_filter.mpr ⟨List.mem_of_getElem? (i := 509) (by decide +kernel), by decide +kernel⟩
abbrev ws_Integer_bitCount : List Cond := .code y_Integer_bitCount c_Integer_bitCount 1 (some .int) :: tb
theorem hd_Integer_bitCount : y_Integer_bitCount.cls = R_Integer ∧ y_Integer_bitCount.cls ≠ "java/lang/invoke/MethodHandle" ∧ y_Integer_bitCount.cls ≠ "java/lang/invoke/VarHandle" ∧ (parseMethodDescriptor y_Integer_bitCount.desc).map (fun d => d.parameters.length) = some 1 := by decide +kernel
theorem d_Integer_bitCount_0 : decode c_Integer_bitCount 0 = .ok (.iload_n 0, 1) := by decide +kernel
theorem d_Integer_bitCount_1 : decode c_Integer_bitCount 1 = .ok (.iload_n 0, 1) := by decide +kernel
theorem d_Integer_bitCount_2 : decode c_Integer_bitCount 2 = .ok (.iconst 1, 1) := by decide +kernel
theorem d_Integer_bitCount_3 : decode c_Integer_bitCount 3 = .ok (.iushr, 1) := by decide +kernel
theorem d_Integer_bitCount_4 : decode c_Integer_bitCount 4 = .ok (.ldc_w 265, 3) := by decide +kernel
theorem d_Integer_bitCount_7 : decode c_Integer_bitCount 7 = .ok (.iand, 1) := by decide +kernel
theorem d_Integer_bitCount_8 : decode c_Integer_bitCount 8 = .ok (.isub, 1) := by decide +kernel
theorem d_Integer_bitCount_9 : decode c_Integer_bitCount 9 = .ok (.istore_n 0, 1) := by decide +kernel
theorem d_Integer_bitCount_10 : decode c_Integer_bitCount 10 = .ok (.iload_n 0, 1) := by decide +kernel
theorem d_Integer_bitCount_11 : decode c_Integer_bitCount 11 = .ok (.ldc_w 266, 3) := by decide +kernel
theorem d_Integer_bitCount_14 : decode c_Integer_bitCount 14 = .ok (.iand, 1) := by decide +kernel
theorem d_Integer_bitCount_15 : decode c_Integer_bitCount 15 = .ok (.iload_n 0, 1) := by decide +kernel
theorem d_Integer_bitCount_16 : decode c_Integer_bitCount 16 = .ok (.iconst 2, 1) := by decide +kernel
theorem d_Integer_bitCount_17 : decode c_Integer_bitCount 17 = .ok (.iushr, 1) := by decide +kernel
theorem d_Integer_bitCount_18 : decode c_Integer_bitCount 18 = .ok (.ldc_w 266, 3) := by decide +kernel
theorem d_Integer_bitCount_21 : decode c_Integer_bitCount 21 = .ok (.iand, 1) := by decide +kernel
theorem d_Integer_bitCount_22 : decode c_Integer_bitCount 22 = .ok (.iadd, 1) := by decide +kernel
theorem d_Integer_bitCount_23 : decode c_Integer_bitCount 23 = .ok (.istore_n 0, 1) := by decide +kernel
theorem d_Integer_bitCount_24 : decode c_Integer_bitCount 24 = .ok (.iload_n 0, 1) := by decide +kernel
theorem d_Integer_bitCount_25 : decode c_Integer_bitCount 25 = .ok (.iload_n 0, 1) := by decide +kernel
theorem d_Integer_bitCount_26 : decode c_Integer_bitCount 26 = .ok (.iconst 4, 1) := by decide +kernel
theorem d_Integer_bitCount_27 : decode c_Integer_bitCount 27 = .ok (.iushr, 1) := by decide +kernel
theorem d_Integer_bitCount_28 : decode c_Integer_bitCount 28 = .ok (.iadd, 1) := by decide +kernel
theorem d_Integer_bitCount_29 : decode c_Integer_bitCount 29 = .ok (.ldc_w 267, 3) := by decide +kernel
theorem d_Integer_bitCount_32 : decode c_Integer_bitCount 32 = .ok (.iand, 1) := by decide +kernel
theorem d_Integer_bitCount_33 : decode c_Integer_bitCount 33 = .ok (.istore_n 0, 1) := by decide +kernel
theorem d_Integer_bitCount_34 : decode c_Integer_bitCount 34 = .ok (.iload_n 0, 1) := by decide +kernel
theorem d_Integer_bitCount_35 : decode c_Integer_bitCount 35 = .ok (.iload_n 0, 1) := by decide +kernel
theorem d_Integer_bitCount_36 : decode c_Integer_bitCount 36 = .ok (.bipush 8, 2) := by decide +kernel
theorem d_Integer_bitCount_38 : decode c_Integer_bitCount 38 = .ok (.iushr, 1) := by decide +kernel
theorem d_Integer_bitCount_39 : decode c_Integer_bitCount 39 = .ok (.iadd, 1) := by decide +kernel
theorem d_Integer_bitCount_40 : decode c_Integer_bitCount 40 = .ok (.istore_n 0, 1) := by decide +kernel
theorem d_Integer_bitCount_41 : decode c_Integer_bitCount 41 = .ok (.iload_n 0, 1) := by decide +kernel
theorem d_Integer_bitCount_42 : decode c_Integer_bitCount 42 = .ok (.iload_n 0, 1) := by decide +kernel
theorem d_Integer_bitCount_43 : decode c_Integer_bitCount 43 = .ok (.bipush 16, 2) := by decide +kernel
theorem d_Integer_bitCount_45 : decode c_Integer_bitCount 45 = .ok (.iushr, 1) := by decide +kernel
theorem d_Integer_bitCount_46 : decode c_Integer_bitCount 46 = .ok (.iadd, 1) := by decide +kernel
theorem d_Integer_bitCount_47 : decode c_Integer_bitCount 47 = .ok (.istore_n 0, 1) := by decide +kernel
theorem d_Integer_bitCount_48 : decode c_Integer_bitCount 48 = .ok (.iload_n 0, 1) := by decide +kernel
theorem d_Integer_bitCount_49 : decode c_Integer_bitCount 49 = .ok (.bipush 63, 2) := by decide +kernel
theorem d_Integer_bitCount_51 : decode c_Integer_bitCount 51 = .ok (.iand, 1) := by decide +kernel
theorem d_Integer_bitCount_52 : decode c_Integer_bitCount 52 = .ok (.ireturn, 1) := by decide +kernel
abbrev ws_Symbols_removeAll : List Cond := .code y_Symbols_removeAll c_Symbols_removeAll 1 none :: tb
theorem hd_Symbols_removeAll : y_Symbols_removeAll.cls = R_Symbols ∧ y_Symbols_removeAll.cls ≠ "java/lang/invoke/MethodHandle" ∧ y_Symbols_removeAll.cls ≠ "java/lang/invoke/VarHandle" ∧ (parseMethodDescriptor y_Symbols_removeAll.desc).map (fun d => d.parameters.length) = some 0 := by decide +kernel
theorem d_Symbols_removeAll_0 : decode c_Symbols_removeAll 0 = .ok (.aload_n 0, 1) := by decide +kernel
theorem d_Symbols_removeAll_1 : decode c_Symbols_removeAll 1 = .ok (.iconst 0, 1) := by decide +kernel
theorem d_Symbols_removeAll_2 : decode c_Symbols_removeAll 2 = .ok (.putfield 40, 3) := by decide +kernel
theorem d_Symbols_removeAll_5 : decode c_Symbols_removeAll 5 = .ok (.return_, 1) := by decide +kernel
abbrev ws_Symbols_refine : List Cond := .code y_Symbols_refine c_Symbols_refine 5 none :: tb
theorem hd_Symbols_refine : y_Symbols_refine.cls = R_Symbols ∧ y_Symbols_refine.cls ≠ "java/lang/invoke/MethodHandle" ∧ y_Symbols_refine.cls ≠ "java/lang/invoke/VarHandle" ∧ (parseMethodDescriptor y_Symbols_refine.desc).map (fun d => d.parameters.length) = some 4 := by decide +kernel
theorem d_Symbols_refine_0 : decode c_Symbols_refine 0 = .ok (.aload_n 0, 1) := by decide +kernel
theorem d_Symbols_refine_1 : decode c_Symbols_refine 1 = .ok (.getfield 22, 3) := by decide +kernel
theorem d_Symbols_refine_4 : decode c_Symbols_refine 4 = .ok (.iload_n 1, 1) := by decide +kernel
theorem d_Symbols_refine_5 : decode c_Symbols_refine 5 = .ok (.iload_n 2, 1) := by decide +kernel
theorem d_Symbols_refine_6 : decode c_Symbols_refine 6 = .ok (.iastore, 1) := by decide +kernel
theorem d_Symbols_refine_7 : decode c_Symbols_refine 7 = .ok (.aload_n 0, 1) := by decide +kernel
theorem d_Symbols_refine_8 : decode c_Symbols_refine 8 = .ok (.getfield 25, 3) := by decide +kernel
theorem d_Symbols_refine_11 : decode c_Symbols_refine 11 = .ok (.iload_n 1, 1) := by decide +kernel
theorem d_Symbols_refine_12 : decode c_Symbols_refine 12 = .ok (.iload_n 3, 1) := by decide +kernel
theorem d_Symbols_refine_13 : decode c_Symbols_refine 13 = .ok (.iastore, 1) := by decide +kernel
theorem d_Symbols_refine_14 : decode c_Symbols_refine 14 = .ok (.aload_n 0, 1) := by decide +kernel
theorem d_Symbols_refine_15 : decode c_Symbols_refine 15 = .ok (.getfield 28, 3) := by decide +kernel
theorem d_Symbols_refine_18 : decode c_Symbols_refine 18 = .ok (.iload_n 1, 1) := by decide +kernel
theorem d_Symbols_refine_19 : decode c_Symbols_refine 19 = .ok (.iload 4, 2) := by decide +kernel
theorem d_Symbols_refine_21 : decode c_Symbols_refine 21 = .ok (.iastore, 1) := by decide +kernel
theorem d_Symbols_refine_22 : decode c_Symbols_refine 22 = .ok (.return_, 1) := by decide +kernel
abbrev ws_Symbols_rowOf : List Cond := .code y_Symbols_rowOf c_Symbols_rowOf 3 (some .int) :: tb
theorem hd_Symbols_rowOf : y_Symbols_rowOf.cls = R_Symbols ∧ y_Symbols_rowOf.cls ≠ "java/lang/invoke/MethodHandle" ∧ y_Symbols_rowOf.cls ≠ "java/lang/invoke/VarHandle" ∧ (parseMethodDescriptor y_Symbols_rowOf.desc).map (fun d => d.parameters.length) = some 2 := by decide +kernel
theorem d_Symbols_rowOf_0 : decode c_Symbols_rowOf 0 = .ok (.aload_n 0, 1) := by decide +kernel
theorem d_Symbols_rowOf_1 : decode c_Symbols_rowOf 1 = .ok (.getfield 34, 3) := by decide +kernel
theorem d_Symbols_rowOf_4 : decode c_Symbols_rowOf 4 = .ok (.iload_n 1, 1) := by decide +kernel
theorem d_Symbols_rowOf_5 : decode c_Symbols_rowOf 5 = .ok (.bipush 16, 2) := by decide +kernel
theorem d_Symbols_rowOf_7 : decode c_Symbols_rowOf 7 = .ok (.imul, 1) := by decide +kernel
theorem d_Symbols_rowOf_8 : decode c_Symbols_rowOf 8 = .ok (.iload_n 2, 1) := by decide +kernel
theorem d_Symbols_rowOf_9 : decode c_Symbols_rowOf 9 = .ok (.iadd, 1) := by decide +kernel
theorem d_Symbols_rowOf_10 : decode c_Symbols_rowOf 10 = .ok (.iaload, 1) := by decide +kernel
theorem d_Symbols_rowOf_11 : decode c_Symbols_rowOf 11 = .ok (.ireturn, 1) := by decide +kernel
abbrev ws_Symbols_withinWidth : List Cond := .code y_Symbols_withinWidth c_Symbols_withinWidth 3 (some .int) :: tb
theorem hd_Symbols_withinWidth : y_Symbols_withinWidth.cls = R_Symbols ∧ y_Symbols_withinWidth.cls ≠ "java/lang/invoke/MethodHandle" ∧ y_Symbols_withinWidth.cls ≠ "java/lang/invoke/VarHandle" ∧ (parseMethodDescriptor y_Symbols_withinWidth.desc).map (fun d => d.parameters.length) = some 2 := by decide +kernel
theorem d_Symbols_withinWidth_0 : decode c_Symbols_withinWidth 0 = .ok (.iload_n 2, 1) := by decide +kernel
theorem d_Symbols_withinWidth_1 : decode c_Symbols_withinWidth 1 = .ok (.iconst 1, 1) := by decide +kernel
theorem d_Symbols_withinWidth_2 : decode c_Symbols_withinWidth 2 = .ok (.aload_n 0, 1) := by decide +kernel
theorem d_Symbols_withinWidth_3 : decode c_Symbols_withinWidth 3 = .ok (.getfield 9, 3) := by decide +kernel
theorem d_Symbols_withinWidth_6 : decode c_Symbols_withinWidth 6 = .ok (.iload_n 1, 1) := by decide +kernel
theorem d_Symbols_withinWidth_7 : decode c_Symbols_withinWidth 7 = .ok (.iaload, 1) := by decide +kernel
theorem d_Symbols_withinWidth_8 : decode c_Symbols_withinWidth 8 = .ok (.ishl, 1) := by decide +kernel
theorem d_Symbols_withinWidth_9 : decode c_Symbols_withinWidth 9 = .ok (.iconst 1, 1) := by decide +kernel
theorem d_Symbols_withinWidth_10 : decode c_Symbols_withinWidth 10 = .ok (.isub, 1) := by decide +kernel
theorem d_Symbols_withinWidth_11 : decode c_Symbols_withinWidth 11 = .ok (.iand, 1) := by decide +kernel
theorem d_Symbols_withinWidth_12 : decode c_Symbols_withinWidth 12 = .ok (.ireturn, 1) := by decide +kernel
abbrev ws_Symbols_setRow : List Cond := .code y_Symbols_setRow c_Symbols_setRow 5 (some .int) :: tb
theorem hd_Symbols_setRow : y_Symbols_setRow.cls = R_Symbols ∧ y_Symbols_setRow.cls ≠ "java/lang/invoke/MethodHandle" ∧ y_Symbols_setRow.cls ≠ "java/lang/invoke/VarHandle" ∧ (parseMethodDescriptor y_Symbols_setRow.desc).map (fun d => d.parameters.length) = some 3 := by decide +kernel
theorem d_Symbols_setRow_0 : decode c_Symbols_setRow 0 = .ok (.aload_n 0, 1) := by decide +kernel
theorem d_Symbols_setRow_1 : decode c_Symbols_setRow 1 = .ok (.iload_n 1, 1) := by decide +kernel
theorem d_Symbols_setRow_2 : decode c_Symbols_setRow 2 = .ok (.iload_n 3, 1) := by decide +kernel
theorem d_Symbols_setRow_3 : decode c_Symbols_setRow 3 = .ok (.invokevirtual 52, 3) := by decide +kernel
theorem d_Symbols_setRow_6 : decode c_Symbols_setRow 6 = .ok (.istore 4, 2) := by decide +kernel
theorem d_Symbols_setRow_8 : decode c_Symbols_setRow 8 = .ok (.aload_n 0, 1) := by decide +kernel
theorem d_Symbols_setRow_9 : decode c_Symbols_setRow 9 = .ok (.getfield 34, 3) := by decide +kernel
theorem d_Symbols_setRow_12 : decode c_Symbols_setRow 12 = .ok (.iload_n 1, 1) := by decide +kernel
theorem d_Symbols_setRow_13 : decode c_Symbols_setRow 13 = .ok (.bipush 16, 2) := by decide +kernel
theorem d_Symbols_setRow_15 : decode c_Symbols_setRow 15 = .ok (.imul, 1) := by decide +kernel
theorem d_Symbols_setRow_16 : decode c_Symbols_setRow 16 = .ok (.iload_n 2, 1) := by decide +kernel
theorem d_Symbols_setRow_17 : decode c_Symbols_setRow 17 = .ok (.iadd, 1) := by decide +kernel
theorem d_Symbols_setRow_18 : decode c_Symbols_setRow 18 = .ok (.iload 4, 2) := by decide +kernel
theorem d_Symbols_setRow_20 : decode c_Symbols_setRow 20 = .ok (.iastore, 1) := by decide +kernel
theorem d_Symbols_setRow_21 : decode c_Symbols_setRow 21 = .ok (.iload 4, 2) := by decide +kernel
theorem d_Symbols_setRow_23 : decode c_Symbols_setRow 23 = .ok (.invokestatic 56, 3) := by decide +kernel
theorem d_Symbols_setRow_26 : decode c_Symbols_setRow 26 = .ok (.ireturn, 1) := by decide +kernel
abbrev ws_Symbols_isBlack : List Cond := .code y_Symbols_isBlack c_Symbols_isBlack 4 (some .boolean) :: tb
theorem hd_Symbols_isBlack : y_Symbols_isBlack.cls = R_Symbols ∧ y_Symbols_isBlack.cls ≠ "java/lang/invoke/MethodHandle" ∧ y_Symbols_isBlack.cls ≠ "java/lang/invoke/VarHandle" ∧ (parseMethodDescriptor y_Symbols_isBlack.desc).map (fun d => d.parameters.length) = some 3 := by decide +kernel
theorem d_Symbols_isBlack_0 : decode c_Symbols_isBlack 0 = .ok (.aload_n 0, 1) := by decide +kernel
theorem d_Symbols_isBlack_1 : decode c_Symbols_isBlack 1 = .ok (.iload_n 1, 1) := by decide +kernel
theorem d_Symbols_isBlack_2 : decode c_Symbols_isBlack 2 = .ok (.iload_n 3, 1) := by decide +kernel
theorem d_Symbols_isBlack_3 : decode c_Symbols_isBlack 3 = .ok (.invokevirtual 62, 3) := by decide +kernel
theorem d_Symbols_isBlack_6 : decode c_Symbols_isBlack 6 = .ok (.iload_n 2, 1) := by decide +kernel
theorem d_Symbols_isBlack_7 : decode c_Symbols_isBlack 7 = .ok (.ishr, 1) := by decide +kernel
theorem d_Symbols_isBlack_8 : decode c_Symbols_isBlack 8 = .ok (.iconst 1, 1) := by decide +kernel
theorem d_Symbols_isBlack_9 : decode c_Symbols_isBlack 9 = .ok (.iand, 1) := by decide +kernel
theorem d_Symbols_isBlack_10 : decode c_Symbols_isBlack 10 = .ok (.iconst 1, 1) := by decide +kernel
theorem d_Symbols_isBlack_11 : decode c_Symbols_isBlack 11 = .ok (.if_icmp .ne 7, 3) := by decide +kernel
theorem d_Symbols_isBlack_14 : decode c_Symbols_isBlack 14 = .ok (.iconst 1, 1) := by decide +kernel
theorem d_Symbols_isBlack_15 : decode c_Symbols_isBlack 15 = .ok (.goto 4, 3) := by decide +kernel
theorem d_Symbols_isBlack_18 : decode c_Symbols_isBlack 18 = .ok (.iconst 0, 1) := by decide +kernel
theorem d_Symbols_isBlack_19 : decode c_Symbols_isBlack 19 = .ok (.ireturn, 1) := by decide +kernel
abbrev ws_Symbols_turn : List Cond := .code y_Symbols_turn c_Symbols_turn 4 none :: tb
theorem hd_Symbols_turn : y_Symbols_turn.cls = R_Symbols ∧ y_Symbols_turn.cls ≠ "java/lang/invoke/MethodHandle" ∧ y_Symbols_turn.cls ≠ "java/lang/invoke/VarHandle" ∧ (parseMethodDescriptor y_Symbols_turn.desc).map (fun d => d.parameters.length) = some 3 := by decide +kernel
theorem d_Symbols_turn_0 : decode c_Symbols_turn 0 = .ok (.aload_n 0, 1) := by decide +kernel
theorem d_Symbols_turn_1 : decode c_Symbols_turn 1 = .ok (.getfield 34, 3) := by decide +kernel
theorem d_Symbols_turn_4 : decode c_Symbols_turn 4 = .ok (.iload_n 1, 1) := by decide +kernel
theorem d_Symbols_turn_5 : decode c_Symbols_turn 5 = .ok (.bipush 16, 2) := by decide +kernel
theorem d_Symbols_turn_7 : decode c_Symbols_turn 7 = .ok (.imul, 1) := by decide +kernel
theorem d_Symbols_turn_8 : decode c_Symbols_turn 8 = .ok (.iload_n 3, 1) := by decide +kernel
theorem d_Symbols_turn_9 : decode c_Symbols_turn 9 = .ok (.iadd, 1) := by decide +kernel
theorem d_Symbols_turn_10 : decode c_Symbols_turn 10 = .ok (.dup2, 1) := by decide +kernel
theorem d_Symbols_turn_11 : decode c_Symbols_turn 11 = .ok (.iaload, 1) := by decide +kernel
theorem d_Symbols_turn_12 : decode c_Symbols_turn 12 = .ok (.iconst 1, 1) := by decide +kernel
theorem d_Symbols_turn_13 : decode c_Symbols_turn 13 = .ok (.iload_n 2, 1) := by decide +kernel
theorem d_Symbols_turn_14 : decode c_Symbols_turn 14 = .ok (.ishl, 1) := by decide +kernel
theorem d_Symbols_turn_15 : decode c_Symbols_turn 15 = .ok (.ixor, 1) := by decide +kernel
theorem d_Symbols_turn_16 : decode c_Symbols_turn 16 = .ok (.iastore, 1) := by decide +kernel
theorem d_Symbols_turn_17 : decode c_Symbols_turn 17 = .ok (.return_, 1) := by decide +kernel
abbrev ws_Symbols_blackOf : List Cond := .code y_Symbols_blackOf c_Symbols_blackOf 4 (some .int) :: tb
theorem hd_Symbols_blackOf : y_Symbols_blackOf.cls = R_Symbols ∧ y_Symbols_blackOf.cls ≠ "java/lang/invoke/MethodHandle" ∧ y_Symbols_blackOf.cls ≠ "java/lang/invoke/VarHandle" ∧ (parseMethodDescriptor y_Symbols_blackOf.desc).map (fun d => d.parameters.length) = some 1 := by decide +kernel
theorem d_Symbols_blackOf_0 : decode c_Symbols_blackOf 0 = .ok (.iconst 0, 1) := by decide +kernel
theorem d_Symbols_blackOf_1 : decode c_Symbols_blackOf 1 = .ok (.istore_n 2, 1) := by decide +kernel
theorem d_Symbols_blackOf_2 : decode c_Symbols_blackOf 2 = .ok (.iconst 0, 1) := by decide +kernel
theorem d_Symbols_blackOf_3 : decode c_Symbols_blackOf 3 = .ok (.istore_n 3, 1) := by decide +kernel
theorem d_Symbols_blackOf_4 : decode c_Symbols_blackOf 4 = .ok (.iload_n 3, 1) := by decide +kernel
theorem d_Symbols_blackOf_5 : decode c_Symbols_blackOf 5 = .ok (.aload_n 0, 1) := by decide +kernel
theorem d_Symbols_blackOf_6 : decode c_Symbols_blackOf 6 = .ok (.getfield 15, 3) := by decide +kernel
theorem d_Symbols_blackOf_9 : decode c_Symbols_blackOf 9 = .ok (.iload_n 1, 1) := by decide +kernel
theorem d_Symbols_blackOf_10 : decode c_Symbols_blackOf 10 = .ok (.iaload, 1) := by decide +kernel
theorem d_Symbols_blackOf_11 : decode c_Symbols_blackOf 11 = .ok (.if_icmp .ge 21, 3) := by decide +kernel
theorem d_Symbols_blackOf_14 : decode c_Symbols_blackOf 14 = .ok (.iload_n 2, 1) := by decide +kernel
theorem d_Symbols_blackOf_15 : decode c_Symbols_blackOf 15 = .ok (.aload_n 0, 1) := by decide +kernel
theorem d_Symbols_blackOf_16 : decode c_Symbols_blackOf 16 = .ok (.iload_n 1, 1) := by decide +kernel
theorem d_Symbols_blackOf_17 : decode c_Symbols_blackOf 17 = .ok (.iload_n 3, 1) := by decide +kernel
theorem d_Symbols_blackOf_18 : decode c_Symbols_blackOf 18 = .ok (.invokevirtual 62, 3) := by decide +kernel
theorem d_Symbols_blackOf_21 : decode c_Symbols_blackOf 21 = .ok (.invokestatic 56, 3) := by decide +kernel
theorem d_Symbols_blackOf_24 : decode c_Symbols_blackOf 24 = .ok (.iadd, 1) := by decide +kernel
theorem d_Symbols_blackOf_25 : decode c_Symbols_blackOf 25 = .ok (.istore_n 2, 1) := by decide +kernel
theorem d_Symbols_blackOf_26 : decode c_Symbols_blackOf 26 = .ok (.iinc 3 1, 3) := by decide +kernel
theorem d_Symbols_blackOf_29 : decode c_Symbols_blackOf 29 = .ok (.goto (-25), 3) := by decide +kernel
theorem d_Symbols_blackOf_32 : decode c_Symbols_blackOf 32 = .ok (.iload_n 2, 1) := by decide +kernel
theorem d_Symbols_blackOf_33 : decode c_Symbols_blackOf 33 = .ok (.ireturn, 1) := by decide +kernel
abbrev ws_Symbols_foretoldRow : List Cond := .code y_Symbols_foretoldRow c_Symbols_foretoldRow 8 (some .int) :: tb
theorem hd_Symbols_foretoldRow : y_Symbols_foretoldRow.cls = R_Symbols ∧ y_Symbols_foretoldRow.cls ≠ "java/lang/invoke/MethodHandle" ∧ y_Symbols_foretoldRow.cls ≠ "java/lang/invoke/VarHandle" ∧ (parseMethodDescriptor y_Symbols_foretoldRow.desc).map (fun d => d.parameters.length) = some 2 := by decide +kernel
theorem d_Symbols_foretoldRow_0 : decode c_Symbols_foretoldRow 0 = .ok (.aload_n 0, 1) := by decide +kernel
theorem d_Symbols_foretoldRow_1 : decode c_Symbols_foretoldRow 1 = .ok (.getfield 22, 3) := by decide +kernel
theorem d_Symbols_foretoldRow_4 : decode c_Symbols_foretoldRow 4 = .ok (.iload_n 1, 1) := by decide +kernel
theorem d_Symbols_foretoldRow_5 : decode c_Symbols_foretoldRow 5 = .ok (.iaload, 1) := by decide +kernel
theorem d_Symbols_foretoldRow_6 : decode c_Symbols_foretoldRow 6 = .ok (.istore_n 3, 1) := by decide +kernel
theorem d_Symbols_foretoldRow_7 : decode c_Symbols_foretoldRow 7 = .ok (.iload_n 3, 1) := by decide +kernel
theorem d_Symbols_foretoldRow_8 : decode c_Symbols_foretoldRow 8 = .ok (.iconst (-1), 1) := by decide +kernel
theorem d_Symbols_foretoldRow_9 : decode c_Symbols_foretoldRow 9 = .ok (.if_icmp .ne 5, 3) := by decide +kernel
theorem d_Symbols_foretoldRow_12 : decode c_Symbols_foretoldRow 12 = .ok (.iconst 0, 1) := by decide +kernel
theorem d_Symbols_foretoldRow_13 : decode c_Symbols_foretoldRow 13 = .ok (.ireturn, 1) := by decide +kernel
theorem d_Symbols_foretoldRow_14 : decode c_Symbols_foretoldRow 14 = .ok (.iload_n 2, 1) := by decide +kernel
theorem d_Symbols_foretoldRow_15 : decode c_Symbols_foretoldRow 15 = .ok (.aload_n 0, 1) := by decide +kernel
theorem d_Symbols_foretoldRow_16 : decode c_Symbols_foretoldRow 16 = .ok (.getfield 28, 3) := by decide +kernel
theorem d_Symbols_foretoldRow_19 : decode c_Symbols_foretoldRow 19 = .ok (.iload_n 1, 1) := by decide +kernel
theorem d_Symbols_foretoldRow_20 : decode c_Symbols_foretoldRow 20 = .ok (.iaload, 1) := by decide +kernel
theorem d_Symbols_foretoldRow_21 : decode c_Symbols_foretoldRow 21 = .ok (.isub, 1) := by decide +kernel
theorem d_Symbols_foretoldRow_22 : decode c_Symbols_foretoldRow 22 = .ok (.istore 4, 2) := by decide +kernel
theorem d_Symbols_foretoldRow_24 : decode c_Symbols_foretoldRow 24 = .ok (.iload 4, 2) := by decide +kernel
theorem d_Symbols_foretoldRow_26 : decode c_Symbols_foretoldRow 26 = .ok (.ifCond .lt 14, 3) := by decide +kernel
theorem d_Symbols_foretoldRow_29 : decode c_Symbols_foretoldRow 29 = .ok (.iload 4, 2) := by decide +kernel
theorem d_Symbols_foretoldRow_31 : decode c_Symbols_foretoldRow 31 = .ok (.aload_n 0, 1) := by decide +kernel
theorem d_Symbols_foretoldRow_32 : decode c_Symbols_foretoldRow 32 = .ok (.getfield 15, 3) := by decide +kernel
theorem d_Symbols_foretoldRow_35 : decode c_Symbols_foretoldRow 35 = .ok (.iload_n 3, 1) := by decide +kernel
theorem d_Symbols_foretoldRow_36 : decode c_Symbols_foretoldRow 36 = .ok (.iaload, 1) := by decide +kernel
theorem d_Symbols_foretoldRow_37 : decode c_Symbols_foretoldRow 37 = .ok (.if_icmp .lt 5, 3) := by decide +kernel
theorem d_Symbols_foretoldRow_40 : decode c_Symbols_foretoldRow 40 = .ok (.iconst 0, 1) := by decide +kernel
theorem d_Symbols_foretoldRow_41 : decode c_Symbols_foretoldRow 41 = .ok (.ireturn, 1) := by decide +kernel
theorem d_Symbols_foretoldRow_42 : decode c_Symbols_foretoldRow 42 = .ok (.aload_n 0, 1) := by decide +kernel
theorem d_Symbols_foretoldRow_43 : decode c_Symbols_foretoldRow 43 = .ok (.iload_n 3, 1) := by decide +kernel
theorem d_Symbols_foretoldRow_44 : decode c_Symbols_foretoldRow 44 = .ok (.iload 4, 2) := by decide +kernel
theorem d_Symbols_foretoldRow_46 : decode c_Symbols_foretoldRow 46 = .ok (.invokevirtual 62, 3) := by decide +kernel
theorem d_Symbols_foretoldRow_49 : decode c_Symbols_foretoldRow 49 = .ok (.istore 5, 2) := by decide +kernel
theorem d_Symbols_foretoldRow_51 : decode c_Symbols_foretoldRow 51 = .ok (.aload_n 0, 1) := by decide +kernel
theorem d_Symbols_foretoldRow_52 : decode c_Symbols_foretoldRow 52 = .ok (.getfield 25, 3) := by decide +kernel
theorem d_Symbols_foretoldRow_55 : decode c_Symbols_foretoldRow 55 = .ok (.iload_n 1, 1) := by decide +kernel
theorem d_Symbols_foretoldRow_56 : decode c_Symbols_foretoldRow 56 = .ok (.iaload, 1) := by decide +kernel
theorem d_Symbols_foretoldRow_57 : decode c_Symbols_foretoldRow 57 = .ok (.istore 6, 2) := by decide +kernel
theorem d_Symbols_foretoldRow_59 : decode c_Symbols_foretoldRow 59 = .ok (.iload 6, 2) := by decide +kernel
theorem d_Symbols_foretoldRow_61 : decode c_Symbols_foretoldRow 61 = .ok (.ifCond .lt 11, 3) := by decide +kernel
theorem d_Symbols_foretoldRow_64 : decode c_Symbols_foretoldRow 64 = .ok (.iload 5, 2) := by decide +kernel
theorem d_Symbols_foretoldRow_66 : decode c_Symbols_foretoldRow 66 = .ok (.iload 6, 2) := by decide +kernel
theorem d_Symbols_foretoldRow_68 : decode c_Symbols_foretoldRow 68 = .ok (.ishl, 1) := by decide +kernel
theorem d_Symbols_foretoldRow_69 : decode c_Symbols_foretoldRow 69 = .ok (.goto 9, 3) := by decide +kernel
theorem d_Symbols_foretoldRow_72 : decode c_Symbols_foretoldRow 72 = .ok (.iload 5, 2) := by decide +kernel
theorem d_Symbols_foretoldRow_74 : decode c_Symbols_foretoldRow 74 = .ok (.iload 6, 2) := by decide +kernel
theorem d_Symbols_foretoldRow_76 : decode c_Symbols_foretoldRow 76 = .ok (.ineg, 1) := by decide +kernel
theorem d_Symbols_foretoldRow_77 : decode c_Symbols_foretoldRow 77 = .ok (.ishr, 1) := by decide +kernel
theorem d_Symbols_foretoldRow_78 : decode c_Symbols_foretoldRow 78 = .ok (.istore 7, 2) := by decide +kernel
theorem d_Symbols_foretoldRow_80 : decode c_Symbols_foretoldRow 80 = .ok (.aload_n 0, 1) := by decide +kernel
theorem d_Symbols_foretoldRow_81 : decode c_Symbols_foretoldRow 81 = .ok (.iload_n 1, 1) := by decide +kernel
theorem d_Symbols_foretoldRow_82 : decode c_Symbols_foretoldRow 82 = .ok (.iload 7, 2) := by decide +kernel
theorem d_Symbols_foretoldRow_84 : decode c_Symbols_foretoldRow 84 = .ok (.invokevirtual 52, 3) := by decide +kernel
theorem d_Symbols_foretoldRow_87 : decode c_Symbols_foretoldRow 87 = .ok (.ireturn, 1) := by decide +kernel
abbrev ws_Symbols_comesBefore : List Cond := .code y_Symbols_comesBefore c_Symbols_comesBefore 3 (some .boolean) :: tb
theorem hd_Symbols_comesBefore : y_Symbols_comesBefore.cls = R_Symbols ∧ y_Symbols_comesBefore.cls ≠ "java/lang/invoke/MethodHandle" ∧ y_Symbols_comesBefore.cls ≠ "java/lang/invoke/VarHandle" ∧ (parseMethodDescriptor y_Symbols_comesBefore.desc).map (fun d => d.parameters.length) = some 2 := by decide +kernel
theorem d_Symbols_comesBefore_0 : decode c_Symbols_comesBefore 0 = .ok (.aload_n 0, 1) := by decide +kernel
theorem d_Symbols_comesBefore_1 : decode c_Symbols_comesBefore 1 = .ok (.getfield 15, 3) := by decide +kernel
theorem d_Symbols_comesBefore_4 : decode c_Symbols_comesBefore 4 = .ok (.iload_n 1, 1) := by decide +kernel
theorem d_Symbols_comesBefore_5 : decode c_Symbols_comesBefore 5 = .ok (.iaload, 1) := by decide +kernel
theorem d_Symbols_comesBefore_6 : decode c_Symbols_comesBefore 6 = .ok (.aload_n 0, 1) := by decide +kernel
theorem d_Symbols_comesBefore_7 : decode c_Symbols_comesBefore 7 = .ok (.getfield 15, 3) := by decide +kernel
theorem d_Symbols_comesBefore_10 : decode c_Symbols_comesBefore 10 = .ok (.iload_n 2, 1) := by decide +kernel
theorem d_Symbols_comesBefore_11 : decode c_Symbols_comesBefore 11 = .ok (.iaload, 1) := by decide +kernel
theorem d_Symbols_comesBefore_12 : decode c_Symbols_comesBefore 12 = .ok (.if_icmp .eq 24, 3) := by decide +kernel
theorem d_Symbols_comesBefore_15 : decode c_Symbols_comesBefore 15 = .ok (.aload_n 0, 1) := by decide +kernel
theorem d_Symbols_comesBefore_16 : decode c_Symbols_comesBefore 16 = .ok (.getfield 15, 3) := by decide +kernel
theorem d_Symbols_comesBefore_19 : decode c_Symbols_comesBefore 19 = .ok (.iload_n 1, 1) := by decide +kernel
theorem d_Symbols_comesBefore_20 : decode c_Symbols_comesBefore 20 = .ok (.iaload, 1) := by decide +kernel
theorem d_Symbols_comesBefore_21 : decode c_Symbols_comesBefore 21 = .ok (.aload_n 0, 1) := by decide +kernel
theorem d_Symbols_comesBefore_22 : decode c_Symbols_comesBefore 22 = .ok (.getfield 15, 3) := by decide +kernel
theorem d_Symbols_comesBefore_25 : decode c_Symbols_comesBefore 25 = .ok (.iload_n 2, 1) := by decide +kernel
theorem d_Symbols_comesBefore_26 : decode c_Symbols_comesBefore 26 = .ok (.iaload, 1) := by decide +kernel
theorem d_Symbols_comesBefore_27 : decode c_Symbols_comesBefore 27 = .ok (.if_icmp .ge 7, 3) := by decide +kernel
theorem d_Symbols_comesBefore_30 : decode c_Symbols_comesBefore 30 = .ok (.iconst 1, 1) := by decide +kernel
theorem d_Symbols_comesBefore_31 : decode c_Symbols_comesBefore 31 = .ok (.goto 4, 3) := by decide +kernel
theorem d_Symbols_comesBefore_34 : decode c_Symbols_comesBefore 34 = .ok (.iconst 0, 1) := by decide +kernel
theorem d_Symbols_comesBefore_35 : decode c_Symbols_comesBefore 35 = .ok (.ireturn, 1) := by decide +kernel
theorem d_Symbols_comesBefore_36 : decode c_Symbols_comesBefore 36 = .ok (.aload_n 0, 1) := by decide +kernel
theorem d_Symbols_comesBefore_37 : decode c_Symbols_comesBefore 37 = .ok (.getfield 9, 3) := by decide +kernel
theorem d_Symbols_comesBefore_40 : decode c_Symbols_comesBefore 40 = .ok (.iload_n 1, 1) := by decide +kernel
theorem d_Symbols_comesBefore_41 : decode c_Symbols_comesBefore 41 = .ok (.iaload, 1) := by decide +kernel
theorem d_Symbols_comesBefore_42 : decode c_Symbols_comesBefore 42 = .ok (.aload_n 0, 1) := by decide +kernel
theorem d_Symbols_comesBefore_43 : decode c_Symbols_comesBefore 43 = .ok (.getfield 9, 3) := by decide +kernel
theorem d_Symbols_comesBefore_46 : decode c_Symbols_comesBefore 46 = .ok (.iload_n 2, 1) := by decide +kernel
theorem d_Symbols_comesBefore_47 : decode c_Symbols_comesBefore 47 = .ok (.iaload, 1) := by decide +kernel
theorem d_Symbols_comesBefore_48 : decode c_Symbols_comesBefore 48 = .ok (.if_icmp .eq 24, 3) := by decide +kernel
theorem d_Symbols_comesBefore_51 : decode c_Symbols_comesBefore 51 = .ok (.aload_n 0, 1) := by decide +kernel
theorem d_Symbols_comesBefore_52 : decode c_Symbols_comesBefore 52 = .ok (.getfield 9, 3) := by decide +kernel
theorem d_Symbols_comesBefore_55 : decode c_Symbols_comesBefore 55 = .ok (.iload_n 1, 1) := by decide +kernel
theorem d_Symbols_comesBefore_56 : decode c_Symbols_comesBefore 56 = .ok (.iaload, 1) := by decide +kernel
theorem d_Symbols_comesBefore_57 : decode c_Symbols_comesBefore 57 = .ok (.aload_n 0, 1) := by decide +kernel
theorem d_Symbols_comesBefore_58 : decode c_Symbols_comesBefore 58 = .ok (.getfield 9, 3) := by decide +kernel
theorem d_Symbols_comesBefore_61 : decode c_Symbols_comesBefore 61 = .ok (.iload_n 2, 1) := by decide +kernel
theorem d_Symbols_comesBefore_62 : decode c_Symbols_comesBefore 62 = .ok (.iaload, 1) := by decide +kernel
theorem d_Symbols_comesBefore_63 : decode c_Symbols_comesBefore 63 = .ok (.if_icmp .ge 7, 3) := by decide +kernel
theorem d_Symbols_comesBefore_66 : decode c_Symbols_comesBefore 66 = .ok (.iconst 1, 1) := by decide +kernel
theorem d_Symbols_comesBefore_67 : decode c_Symbols_comesBefore 67 = .ok (.goto 4, 3) := by decide +kernel
theorem d_Symbols_comesBefore_70 : decode c_Symbols_comesBefore 70 = .ok (.iconst 0, 1) := by decide +kernel
theorem d_Symbols_comesBefore_71 : decode c_Symbols_comesBefore 71 = .ok (.ireturn, 1) := by decide +kernel
theorem d_Symbols_comesBefore_72 : decode c_Symbols_comesBefore 72 = .ok (.iload_n 1, 1) := by decide +kernel
theorem d_Symbols_comesBefore_73 : decode c_Symbols_comesBefore 73 = .ok (.iload_n 2, 1) := by decide +kernel
theorem d_Symbols_comesBefore_74 : decode c_Symbols_comesBefore 74 = .ok (.if_icmp .ge 7, 3) := by decide +kernel
theorem d_Symbols_comesBefore_77 : decode c_Symbols_comesBefore 77 = .ok (.iconst 1, 1) := by decide +kernel
theorem d_Symbols_comesBefore_78 : decode c_Symbols_comesBefore 78 = .ok (.goto 4, 3) := by decide +kernel
theorem d_Symbols_comesBefore_81 : decode c_Symbols_comesBefore 81 = .ok (.iconst 0, 1) := by decide +kernel
theorem d_Symbols_comesBefore_82 : decode c_Symbols_comesBefore 82 = .ok (.ireturn, 1) := by decide +kernel
abbrev ws_Symbols_placeOf : List Cond := .code y_Symbols_placeOf c_Symbols_placeOf 4 (some .int) :: tb
theorem hd_Symbols_placeOf : y_Symbols_placeOf.cls = R_Symbols ∧ y_Symbols_placeOf.cls ≠ "java/lang/invoke/MethodHandle" ∧ y_Symbols_placeOf.cls ≠ "java/lang/invoke/VarHandle" ∧ (parseMethodDescriptor y_Symbols_placeOf.desc).map (fun d => d.parameters.length) = some 1 := by decide +kernel
theorem d_Symbols_placeOf_0 : decode c_Symbols_placeOf 0 = .ok (.iconst 0, 1) := by decide +kernel
theorem d_Symbols_placeOf_1 : decode c_Symbols_placeOf 1 = .ok (.istore_n 2, 1) := by decide +kernel
theorem d_Symbols_placeOf_2 : decode c_Symbols_placeOf 2 = .ok (.iconst 0, 1) := by decide +kernel
theorem d_Symbols_placeOf_3 : decode c_Symbols_placeOf 3 = .ok (.istore_n 3, 1) := by decide +kernel
theorem d_Symbols_placeOf_4 : decode c_Symbols_placeOf 4 = .ok (.iload_n 3, 1) := by decide +kernel
theorem d_Symbols_placeOf_5 : decode c_Symbols_placeOf 5 = .ok (.aload_n 0, 1) := by decide +kernel
theorem d_Symbols_placeOf_6 : decode c_Symbols_placeOf 6 = .ok (.getfield 40, 3) := by decide +kernel
theorem d_Symbols_placeOf_9 : decode c_Symbols_placeOf 9 = .ok (.if_icmp .ge 21, 3) := by decide +kernel
theorem d_Symbols_placeOf_12 : decode c_Symbols_placeOf 12 = .ok (.aload_n 0, 1) := by decide +kernel
theorem d_Symbols_placeOf_13 : decode c_Symbols_placeOf 13 = .ok (.iload_n 3, 1) := by decide +kernel
theorem d_Symbols_placeOf_14 : decode c_Symbols_placeOf 14 = .ok (.iload_n 1, 1) := by decide +kernel
theorem d_Symbols_placeOf_15 : decode c_Symbols_placeOf 15 = .ok (.invokevirtual 65, 3) := by decide +kernel
theorem d_Symbols_placeOf_18 : decode c_Symbols_placeOf 18 = .ok (.ifCond .eq 6, 3) := by decide +kernel
theorem d_Symbols_placeOf_21 : decode c_Symbols_placeOf 21 = .ok (.iinc 2 1, 3) := by decide +kernel
theorem d_Symbols_placeOf_24 : decode c_Symbols_placeOf 24 = .ok (.iinc 3 1, 3) := by decide +kernel
theorem d_Symbols_placeOf_27 : decode c_Symbols_placeOf 27 = .ok (.goto (-23), 3) := by decide +kernel
theorem d_Symbols_placeOf_30 : decode c_Symbols_placeOf 30 = .ok (.iload_n 2, 1) := by decide +kernel
theorem d_Symbols_placeOf_31 : decode c_Symbols_placeOf 31 = .ok (.ireturn, 1) := by decide +kernel
abbrev ws_Symbols_difference : List Cond := .code y_Symbols_difference c_Symbols_difference 5 (some .int) :: tb
theorem hd_Symbols_difference : y_Symbols_difference.cls = R_Symbols ∧ y_Symbols_difference.cls ≠ "java/lang/invoke/MethodHandle" ∧ y_Symbols_difference.cls ≠ "java/lang/invoke/VarHandle" ∧ (parseMethodDescriptor y_Symbols_difference.desc).map (fun d => d.parameters.length) = some 2 := by decide +kernel
theorem d_Symbols_difference_0 : decode c_Symbols_difference 0 = .ok (.aload_n 0, 1) := by decide +kernel
theorem d_Symbols_difference_1 : decode c_Symbols_difference 1 = .ok (.getfield 9, 3) := by decide +kernel
theorem d_Symbols_difference_4 : decode c_Symbols_difference 4 = .ok (.iload_n 1, 1) := by decide +kernel
theorem d_Symbols_difference_5 : decode c_Symbols_difference 5 = .ok (.iaload, 1) := by decide +kernel
theorem d_Symbols_difference_6 : decode c_Symbols_difference 6 = .ok (.aload_n 0, 1) := by decide +kernel
theorem d_Symbols_difference_7 : decode c_Symbols_difference 7 = .ok (.getfield 9, 3) := by decide +kernel
theorem d_Symbols_difference_10 : decode c_Symbols_difference 10 = .ok (.iload_n 2, 1) := by decide +kernel
theorem d_Symbols_difference_11 : decode c_Symbols_difference 11 = .ok (.iaload, 1) := by decide +kernel
theorem d_Symbols_difference_12 : decode c_Symbols_difference 12 = .ok (.if_icmp .ne 18, 3) := by decide +kernel
theorem d_Symbols_difference_15 : decode c_Symbols_difference 15 = .ok (.aload_n 0, 1) := by decide +kernel
theorem d_Symbols_difference_16 : decode c_Symbols_difference 16 = .ok (.getfield 15, 3) := by decide +kernel
theorem d_Symbols_difference_19 : decode c_Symbols_difference 19 = .ok (.iload_n 1, 1) := by decide +kernel
theorem d_Symbols_difference_20 : decode c_Symbols_difference 20 = .ok (.iaload, 1) := by decide +kernel
theorem d_Symbols_difference_21 : decode c_Symbols_difference 21 = .ok (.aload_n 0, 1) := by decide +kernel
theorem d_Symbols_difference_22 : decode c_Symbols_difference 22 = .ok (.getfield 15, 3) := by decide +kernel
theorem d_Symbols_difference_25 : decode c_Symbols_difference 25 = .ok (.iload_n 2, 1) := by decide +kernel
theorem d_Symbols_difference_26 : decode c_Symbols_difference 26 = .ok (.iaload, 1) := by decide +kernel
theorem d_Symbols_difference_27 : decode c_Symbols_difference 27 = .ok (.if_icmp .eq 5, 3) := by decide +kernel
theorem d_Symbols_difference_30 : decode c_Symbols_difference 30 = .ok (.iconst (-1), 1) := by decide +kernel
theorem d_Symbols_difference_31 : decode c_Symbols_difference 31 = .ok (.ireturn, 1) := by decide +kernel
theorem d_Symbols_difference_32 : decode c_Symbols_difference 32 = .ok (.iconst 0, 1) := by decide +kernel
theorem d_Symbols_difference_33 : decode c_Symbols_difference 33 = .ok (.istore_n 3, 1) := by decide +kernel
theorem d_Symbols_difference_34 : decode c_Symbols_difference 34 = .ok (.iconst 0, 1) := by decide +kernel
theorem d_Symbols_difference_35 : decode c_Symbols_difference 35 = .ok (.istore 4, 2) := by decide +kernel
theorem d_Symbols_difference_37 : decode c_Symbols_difference 37 = .ok (.iload 4, 2) := by decide +kernel
theorem d_Symbols_difference_39 : decode c_Symbols_difference 39 = .ok (.aload_n 0, 1) := by decide +kernel
theorem d_Symbols_difference_40 : decode c_Symbols_difference 40 = .ok (.getfield 15, 3) := by decide +kernel
theorem d_Symbols_difference_43 : decode c_Symbols_difference 43 = .ok (.iload_n 1, 1) := by decide +kernel
theorem d_Symbols_difference_44 : decode c_Symbols_difference 44 = .ok (.iaload, 1) := by decide +kernel
theorem d_Symbols_difference_45 : decode c_Symbols_difference 45 = .ok (.if_icmp .ge 30, 3) := by decide +kernel
theorem d_Symbols_difference_48 : decode c_Symbols_difference 48 = .ok (.iload_n 3, 1) := by decide +kernel
theorem d_Symbols_difference_49 : decode c_Symbols_difference 49 = .ok (.aload_n 0, 1) := by decide +kernel
theorem d_Symbols_difference_50 : decode c_Symbols_difference 50 = .ok (.iload_n 1, 1) := by decide +kernel
theorem d_Symbols_difference_51 : decode c_Symbols_difference 51 = .ok (.iload 4, 2) := by decide +kernel
theorem d_Symbols_difference_53 : decode c_Symbols_difference 53 = .ok (.invokevirtual 62, 3) := by decide +kernel
theorem d_Symbols_difference_56 : decode c_Symbols_difference 56 = .ok (.aload_n 0, 1) := by decide +kernel
theorem d_Symbols_difference_57 : decode c_Symbols_difference 57 = .ok (.iload_n 2, 1) := by decide +kernel
theorem d_Symbols_difference_58 : decode c_Symbols_difference 58 = .ok (.iload 4, 2) := by decide +kernel
theorem d_Symbols_difference_60 : decode c_Symbols_difference 60 = .ok (.invokevirtual 62, 3) := by decide +kernel
theorem d_Symbols_difference_63 : decode c_Symbols_difference 63 = .ok (.ixor, 1) := by decide +kernel
theorem d_Symbols_difference_64 : decode c_Symbols_difference 64 = .ok (.invokestatic 56, 3) := by decide +kernel
theorem d_Symbols_difference_67 : decode c_Symbols_difference 67 = .ok (.iadd, 1) := by decide +kernel
theorem d_Symbols_difference_68 : decode c_Symbols_difference 68 = .ok (.istore_n 3, 1) := by decide +kernel
theorem d_Symbols_difference_69 : decode c_Symbols_difference 69 = .ok (.iinc 4 1, 3) := by decide +kernel
theorem d_Symbols_difference_72 : decode c_Symbols_difference 72 = .ok (.goto (-35), 3) := by decide +kernel
theorem d_Symbols_difference_75 : decode c_Symbols_difference 75 = .ok (.iload_n 3, 1) := by decide +kernel
theorem d_Symbols_difference_76 : decode c_Symbols_difference 76 = .ok (.ireturn, 1) := by decide +kernel
abbrev ws_Symbols_firstFitting : List Cond := .code y_Symbols_firstFitting c_Symbols_firstFitting 6 (some .int) :: tb
theorem hd_Symbols_firstFitting : y_Symbols_firstFitting.cls = R_Symbols ∧ y_Symbols_firstFitting.cls ≠ "java/lang/invoke/MethodHandle" ∧ y_Symbols_firstFitting.cls ≠ "java/lang/invoke/VarHandle" ∧ (parseMethodDescriptor y_Symbols_firstFitting.desc).map (fun d => d.parameters.length) = some 3 := by decide +kernel
theorem d_Symbols_firstFitting_0 : decode c_Symbols_firstFitting 0 = .ok (.iconst 0, 1) := by decide +kernel
theorem d_Symbols_firstFitting_1 : decode c_Symbols_firstFitting 1 = .ok (.istore 4, 2) := by decide +kernel
theorem d_Symbols_firstFitting_3 : decode c_Symbols_firstFitting 3 = .ok (.iload 4, 2) := by decide +kernel
theorem d_Symbols_firstFitting_5 : decode c_Symbols_firstFitting 5 = .ok (.iload_n 3, 1) := by decide +kernel
theorem d_Symbols_firstFitting_6 : decode c_Symbols_firstFitting 6 = .ok (.if_icmp .ge 38, 3) := by decide +kernel
theorem d_Symbols_firstFitting_9 : decode c_Symbols_firstFitting 9 = .ok (.aload_n 0, 1) := by decide +kernel
theorem d_Symbols_firstFitting_10 : decode c_Symbols_firstFitting 10 = .ok (.aload_n 0, 1) := by decide +kernel
theorem d_Symbols_firstFitting_11 : decode c_Symbols_firstFitting 11 = .ok (.getfield 37, 3) := by decide +kernel
theorem d_Symbols_firstFitting_14 : decode c_Symbols_firstFitting 14 = .ok (.iload 4, 2) := by decide +kernel
theorem d_Symbols_firstFitting_16 : decode c_Symbols_firstFitting 16 = .ok (.iaload, 1) := by decide +kernel
theorem d_Symbols_firstFitting_17 : decode c_Symbols_firstFitting 17 = .ok (.iload_n 1, 1) := by decide +kernel
theorem d_Symbols_firstFitting_18 : decode c_Symbols_firstFitting 18 = .ok (.invokevirtual 72, 3) := by decide +kernel
theorem d_Symbols_firstFitting_21 : decode c_Symbols_firstFitting 21 = .ok (.istore 5, 2) := by decide +kernel
theorem d_Symbols_firstFitting_23 : decode c_Symbols_firstFitting 23 = .ok (.iload 5, 2) := by decide +kernel
theorem d_Symbols_firstFitting_25 : decode c_Symbols_firstFitting 25 = .ok (.iconst (-1), 1) := by decide +kernel
theorem d_Symbols_firstFitting_26 : decode c_Symbols_firstFitting 26 = .ok (.if_icmp .eq 12, 3) := by decide +kernel
theorem d_Symbols_firstFitting_29 : decode c_Symbols_firstFitting 29 = .ok (.iload 5, 2) := by decide +kernel
theorem d_Symbols_firstFitting_31 : decode c_Symbols_firstFitting 31 = .ok (.iload_n 2, 1) := by decide +kernel
theorem d_Symbols_firstFitting_32 : decode c_Symbols_firstFitting 32 = .ok (.if_icmp .gt 6, 3) := by decide +kernel
theorem d_Symbols_firstFitting_35 : decode c_Symbols_firstFitting 35 = .ok (.iload 4, 2) := by decide +kernel
theorem d_Symbols_firstFitting_37 : decode c_Symbols_firstFitting 37 = .ok (.ireturn, 1) := by decide +kernel
theorem d_Symbols_firstFitting_38 : decode c_Symbols_firstFitting 38 = .ok (.iinc 4 1, 3) := by decide +kernel
theorem d_Symbols_firstFitting_41 : decode c_Symbols_firstFitting 41 = .ok (.goto (-38), 3) := by decide +kernel
theorem d_Symbols_firstFitting_44 : decode c_Symbols_firstFitting 44 = .ok (.iload_n 3, 1) := by decide +kernel
theorem d_Symbols_firstFitting_45 : decode c_Symbols_firstFitting 45 = .ok (.ireturn, 1) := by decide +kernel
abbrev ws_Symbols_classify : List Cond := .code y_Symbols_classify c_Symbols_classify 5 (some .int) :: tb
theorem hd_Symbols_classify : y_Symbols_classify.cls = R_Symbols ∧ y_Symbols_classify.cls ≠ "java/lang/invoke/MethodHandle" ∧ y_Symbols_classify.cls ≠ "java/lang/invoke/VarHandle" ∧ (parseMethodDescriptor y_Symbols_classify.desc).map (fun d => d.parameters.length) = some 1 := by decide +kernel
theorem d_Symbols_classify_0 : decode c_Symbols_classify 0 = .ok (.iconst 0, 1) := by decide +kernel
theorem d_Symbols_classify_1 : decode c_Symbols_classify 1 = .ok (.istore_n 2, 1) := by decide +kernel
theorem d_Symbols_classify_2 : decode c_Symbols_classify 2 = .ok (.iconst 0, 1) := by decide +kernel
theorem d_Symbols_classify_3 : decode c_Symbols_classify 3 = .ok (.istore_n 3, 1) := by decide +kernel
theorem d_Symbols_classify_4 : decode c_Symbols_classify 4 = .ok (.iload_n 3, 1) := by decide +kernel
theorem d_Symbols_classify_5 : decode c_Symbols_classify 5 = .ok (.aload_n 0, 1) := by decide +kernel
theorem d_Symbols_classify_6 : decode c_Symbols_classify 6 = .ok (.getfield 40, 3) := by decide +kernel
theorem d_Symbols_classify_9 : decode c_Symbols_classify 9 = .ok (.if_icmp .ge 42, 3) := by decide +kernel
theorem d_Symbols_classify_12 : decode c_Symbols_classify 12 = .ok (.aload_n 0, 1) := by decide +kernel
theorem d_Symbols_classify_13 : decode c_Symbols_classify 13 = .ok (.iload_n 3, 1) := by decide +kernel
theorem d_Symbols_classify_14 : decode c_Symbols_classify 14 = .ok (.iload_n 1, 1) := by decide +kernel
theorem d_Symbols_classify_15 : decode c_Symbols_classify 15 = .ok (.iload_n 2, 1) := by decide +kernel
theorem d_Symbols_classify_16 : decode c_Symbols_classify 16 = .ok (.invokevirtual 69, 3) := by decide +kernel
theorem d_Symbols_classify_19 : decode c_Symbols_classify 19 = .ok (.istore 4, 2) := by decide +kernel
theorem d_Symbols_classify_21 : decode c_Symbols_classify 21 = .ok (.iload 4, 2) := by decide +kernel
theorem d_Symbols_classify_23 : decode c_Symbols_classify 23 = .ok (.iload_n 2, 1) := by decide +kernel
theorem d_Symbols_classify_24 : decode c_Symbols_classify 24 = .ok (.if_icmp .ne 13, 3) := by decide +kernel
theorem d_Symbols_classify_27 : decode c_Symbols_classify 27 = .ok (.aload_n 0, 1) := by decide +kernel
theorem d_Symbols_classify_28 : decode c_Symbols_classify 28 = .ok (.getfield 37, 3) := by decide +kernel
theorem d_Symbols_classify_31 : decode c_Symbols_classify 31 = .ok (.iload_n 2, 1) := by decide +kernel
theorem d_Symbols_classify_32 : decode c_Symbols_classify 32 = .ok (.iload_n 3, 1) := by decide +kernel
theorem d_Symbols_classify_33 : decode c_Symbols_classify 33 = .ok (.iastore, 1) := by decide +kernel
theorem d_Symbols_classify_34 : decode c_Symbols_classify 34 = .ok (.iinc 2 1, 3) := by decide +kernel
theorem d_Symbols_classify_37 : decode c_Symbols_classify 37 = .ok (.aload_n 0, 1) := by decide +kernel
theorem d_Symbols_classify_38 : decode c_Symbols_classify 38 = .ok (.getfield 31, 3) := by decide +kernel
theorem d_Symbols_classify_41 : decode c_Symbols_classify 41 = .ok (.iload_n 3, 1) := by decide +kernel
theorem d_Symbols_classify_42 : decode c_Symbols_classify 42 = .ok (.iload 4, 2) := by decide +kernel
theorem d_Symbols_classify_44 : decode c_Symbols_classify 44 = .ok (.iastore, 1) := by decide +kernel
theorem d_Symbols_classify_45 : decode c_Symbols_classify 45 = .ok (.iinc 3 1, 3) := by decide +kernel
theorem d_Symbols_classify_48 : decode c_Symbols_classify 48 = .ok (.goto (-44), 3) := by decide +kernel
theorem d_Symbols_classify_51 : decode c_Symbols_classify 51 = .ok (.iload_n 2, 1) := by decide +kernel
theorem d_Symbols_classify_52 : decode c_Symbols_classify 52 = .ok (.ireturn, 1) := by decide +kernel
abbrev ws_Symbols_add : List Cond := .code y_Symbols_add c_Symbols_add 5 (some .int) :: tb
theorem hd_Symbols_add : y_Symbols_add.cls = R_Symbols ∧ y_Symbols_add.cls ≠ "java/lang/invoke/MethodHandle" ∧ y_Symbols_add.cls ≠ "java/lang/invoke/VarHandle" ∧ (parseMethodDescriptor y_Symbols_add.desc).map (fun d => d.parameters.length) = some 2 := by decide +kernel
theorem d_Symbols_add_0 : decode c_Symbols_add 0 = .ok (.aload_n 0, 1) := by decide +kernel
theorem d_Symbols_add_1 : decode c_Symbols_add 1 = .ok (.getfield 40, 3) := by decide +kernel
theorem d_Symbols_add_4 : decode c_Symbols_add 4 = .ok (.istore_n 3, 1) := by decide +kernel
theorem d_Symbols_add_5 : decode c_Symbols_add 5 = .ok (.aload_n 0, 1) := by decide +kernel
theorem d_Symbols_add_6 : decode c_Symbols_add 6 = .ok (.getfield 9, 3) := by decide +kernel
theorem d_Symbols_add_9 : decode c_Symbols_add 9 = .ok (.iload_n 3, 1) := by decide +kernel
theorem d_Symbols_add_10 : decode c_Symbols_add 10 = .ok (.iload_n 1, 1) := by decide +kernel
theorem d_Symbols_add_11 : decode c_Symbols_add 11 = .ok (.iastore, 1) := by decide +kernel
theorem d_Symbols_add_12 : decode c_Symbols_add 12 = .ok (.aload_n 0, 1) := by decide +kernel
theorem d_Symbols_add_13 : decode c_Symbols_add 13 = .ok (.getfield 15, 3) := by decide +kernel
theorem d_Symbols_add_16 : decode c_Symbols_add 16 = .ok (.iload_n 3, 1) := by decide +kernel
theorem d_Symbols_add_17 : decode c_Symbols_add 17 = .ok (.iload_n 2, 1) := by decide +kernel
theorem d_Symbols_add_18 : decode c_Symbols_add 18 = .ok (.iastore, 1) := by decide +kernel
theorem d_Symbols_add_19 : decode c_Symbols_add 19 = .ok (.aload_n 0, 1) := by decide +kernel
theorem d_Symbols_add_20 : decode c_Symbols_add 20 = .ok (.getfield 18, 3) := by decide +kernel
theorem d_Symbols_add_23 : decode c_Symbols_add 23 = .ok (.iload_n 3, 1) := by decide +kernel
theorem d_Symbols_add_24 : decode c_Symbols_add 24 = .ok (.iconst 0, 1) := by decide +kernel
theorem d_Symbols_add_25 : decode c_Symbols_add 25 = .ok (.bastore, 1) := by decide +kernel
theorem d_Symbols_add_26 : decode c_Symbols_add 26 = .ok (.aload_n 0, 1) := by decide +kernel
theorem d_Symbols_add_27 : decode c_Symbols_add 27 = .ok (.getfield 31, 3) := by decide +kernel
theorem d_Symbols_add_30 : decode c_Symbols_add 30 = .ok (.iload_n 3, 1) := by decide +kernel
theorem d_Symbols_add_31 : decode c_Symbols_add 31 = .ok (.iconst (-1), 1) := by decide +kernel
theorem d_Symbols_add_32 : decode c_Symbols_add 32 = .ok (.iastore, 1) := by decide +kernel
theorem d_Symbols_add_33 : decode c_Symbols_add 33 = .ok (.aload_n 0, 1) := by decide +kernel
theorem d_Symbols_add_34 : decode c_Symbols_add 34 = .ok (.iload_n 3, 1) := by decide +kernel
theorem d_Symbols_add_35 : decode c_Symbols_add 35 = .ok (.iconst (-1), 1) := by decide +kernel
theorem d_Symbols_add_36 : decode c_Symbols_add 36 = .ok (.iconst 0, 1) := by decide +kernel
theorem d_Symbols_add_37 : decode c_Symbols_add 37 = .ok (.iconst 0, 1) := by decide +kernel
theorem d_Symbols_add_38 : decode c_Symbols_add 38 = .ok (.invokevirtual 44, 3) := by decide +kernel
theorem d_Symbols_add_41 : decode c_Symbols_add 41 = .ok (.iconst 0, 1) := by decide +kernel
theorem d_Symbols_add_42 : decode c_Symbols_add 42 = .ok (.istore 4, 2) := by decide +kernel
theorem d_Symbols_add_44 : decode c_Symbols_add 44 = .ok (.iload 4, 2) := by decide +kernel
theorem d_Symbols_add_46 : decode c_Symbols_add 46 = .ok (.iload_n 2, 1) := by decide +kernel
theorem d_Symbols_add_47 : decode c_Symbols_add 47 = .ok (.if_icmp .ge 18, 3) := by decide +kernel
theorem d_Symbols_add_50 : decode c_Symbols_add 50 = .ok (.aload_n 0, 1) := by decide +kernel
theorem d_Symbols_add_51 : decode c_Symbols_add 51 = .ok (.iload_n 3, 1) := by decide +kernel
theorem d_Symbols_add_52 : decode c_Symbols_add 52 = .ok (.iload 4, 2) := by decide +kernel
theorem d_Symbols_add_54 : decode c_Symbols_add 54 = .ok (.iconst 0, 1) := by decide +kernel
theorem d_Symbols_add_55 : decode c_Symbols_add 55 = .ok (.invokevirtual 48, 3) := by decide +kernel
theorem d_Symbols_add_58 : decode c_Symbols_add 58 = .ok (.pop, 1) := by decide +kernel
theorem d_Symbols_add_59 : decode c_Symbols_add 59 = .ok (.iinc 4 1, 3) := by decide +kernel
theorem d_Symbols_add_62 : decode c_Symbols_add 62 = .ok (.goto (-18), 3) := by decide +kernel
theorem d_Symbols_add_65 : decode c_Symbols_add 65 = .ok (.aload_n 0, 1) := by decide +kernel
theorem d_Symbols_add_66 : decode c_Symbols_add 66 = .ok (.iload_n 3, 1) := by decide +kernel
theorem d_Symbols_add_67 : decode c_Symbols_add 67 = .ok (.iconst 1, 1) := by decide +kernel
theorem d_Symbols_add_68 : decode c_Symbols_add 68 = .ok (.iadd, 1) := by decide +kernel
theorem d_Symbols_add_69 : decode c_Symbols_add 69 = .ok (.putfield 40, 3) := by decide +kernel
theorem d_Symbols_add_72 : decode c_Symbols_add 72 = .ok (.iload_n 3, 1) := by decide +kernel
theorem d_Symbols_add_73 : decode c_Symbols_add 73 = .ok (.ireturn, 1) := by decide +kernel
/-! Integer_bitCount -/
def f_Integer_bitCount (x0 : Int32) : Option (Int32) := lt' (x0 - (((x0.toUInt32 >>> ((1 : Int32).toUInt32 &&& Int32.toUInt32 31)).toInt32) &&& 1431655765)) <| fun x0_1 => lt' ((x0_1 &&& 858993459) + (((x0_1.toUInt32 >>> ((2 : Int32).toUInt32 &&& Int32.toUInt32 31)).toInt32) &&& 858993459)) <| fun x0_2 => lt' ((x0_2 + ((x0_2.toUInt32 >>> ((4 : Int32).toUInt32 &&& Int32.toUInt32 31)).toInt32)) &&& 252645135) <| fun x0_3 => lt' (x0_3 + ((x0_3.toUInt32 >>> ((8 : Int32).toUInt32 &&& Int32.toUInt32 31)).toInt32)) <| fun x0_4 => lt' (x0_4 + ((x0_4.toUInt32 >>> ((16 : Int32).toUInt32 &&& Int32.toUInt32 31)).toInt32)) <| fun x0_5 => some (x0_5 &&& 63)
section
variable {p : Program} {l : Launch} {e : Env} {R : Room} {s : State} {m : MethodId} {args : Array Value} {below : List Frame} {meth : Method} {c : Code} {Q : State → Prop} {A : Nat → Prop}
set_option maxHeartbeats 4000000 in
set_option maxRecDepth 100000 in
theorem B_Integer_bitCount {cells slots : Nat} {dC : Nat → ClassId} {dI : Nat → Nat → Nat} {cI cZ cJ : ClassId} {x0 : Int32} {res : Int32} (C0 : cxt p c m s args R cells slots R_Integer c_Integer_bitCount tb 1 (dC, dI) vwCl (TYS cI cZ cJ) A 0 0)
    (hr52 : ∀ (H : Heap) (locs : List Loc) (ls : Array Slot) (v : Int32), va_P (dC, dI) vwCl ([] : va_W) H → va_D A ([] : va_W) → va_S A s.heap H locs → some v = some res → W p l e R s m args below meth c H locs cells slots Q (F0 m 52 ls [.int v]))
    {H : Heap} {locs : List Loc} {ls : Array Slot} (hP : va_P (dC, dI) vwCl ([] : va_W) H) (hD : va_D A ([] : va_W)) (hS : va_S A s.heap H locs) (hl : lv_has ls 1 [(0, .int x0)]) (hf : f_Integer_bitCount x0 = some res) : W p l e R s m args below meth c H locs cells slots Q (F0 m 0 ls []) := by
  obtain ⟨hx, hb, hml, hown, hts, hK, hA, hRf, hRl, hN, hRc⟩ := id C0
  rw [f_Integer_bitCount] at hf
  refine lv_iload_n hx hb d_Integer_bitCount_0 rfl (lv_at hl 0 rfl) ?_
  refine lv_iload_n hx hb d_Integer_bitCount_1 rfl (lv_at hl 0 rfl) ?_
  refine lv_iconst (v := 1) hx hb d_Integer_bitCount_2 (by decide) ?_
  refine lv_iushr (v := (x0.toUInt32 >>> ((1 : Int32).toUInt32 &&& Int32.toUInt32 31)).toInt32) hx hb d_Integer_bitCount_3 rfl ?_
  refine lv_ldcw (v := 1431655765) hx hb hown (hts (.constant R_Integer 265 1431655765) (by decide +kernel)) d_Integer_bitCount_4 ?_
  refine lv_iand hx hb d_Integer_bitCount_7 ?_
  refine lv_isub hx hb d_Integer_bitCount_8 ?_
  obtain ⟨x0_1, ex0_1, hf⟩ := lt_ex hf
  try dsimp only at hf
  refine tp_i ex0_1 ?_
  refine lv_istore_n (lv' := [(0, .int x0_1)]) hx hb d_Integer_bitCount_9 rfl hl (by decide) rfl (fun ls hl => ?_)
  refine lv_iload_n hx hb d_Integer_bitCount_10 rfl (lv_at hl 0 rfl) ?_
  refine lv_ldcw (v := 858993459) hx hb hown (hts (.constant R_Integer 266 858993459) (by decide +kernel)) d_Integer_bitCount_11 ?_
  refine lv_iand hx hb d_Integer_bitCount_14 ?_
  refine lv_iload_n hx hb d_Integer_bitCount_15 rfl (lv_at hl 0 rfl) ?_
  refine lv_iconst (v := 2) hx hb d_Integer_bitCount_16 (by decide) ?_
  refine lv_iushr (v := (x0_1.toUInt32 >>> ((2 : Int32).toUInt32 &&& Int32.toUInt32 31)).toInt32) hx hb d_Integer_bitCount_17 rfl ?_
  refine lv_ldcw (v := 858993459) hx hb hown (hts (.constant R_Integer 266 858993459) (by decide +kernel)) d_Integer_bitCount_18 ?_
  refine lv_iand hx hb d_Integer_bitCount_21 ?_
  refine lv_iadd hx hb d_Integer_bitCount_22 ?_
  obtain ⟨x0_2, ex0_2, hf⟩ := lt_ex hf
  try dsimp only at hf
  refine tp_i ex0_2 ?_
  refine lv_istore_n (lv' := [(0, .int x0_2)]) hx hb d_Integer_bitCount_23 rfl hl (by decide) rfl (fun ls hl => ?_)
  refine lv_iload_n hx hb d_Integer_bitCount_24 rfl (lv_at hl 0 rfl) ?_
  refine lv_iload_n hx hb d_Integer_bitCount_25 rfl (lv_at hl 0 rfl) ?_
  refine lv_iconst (v := 4) hx hb d_Integer_bitCount_26 (by decide) ?_
  refine lv_iushr (v := (x0_2.toUInt32 >>> ((4 : Int32).toUInt32 &&& Int32.toUInt32 31)).toInt32) hx hb d_Integer_bitCount_27 rfl ?_
  refine lv_iadd hx hb d_Integer_bitCount_28 ?_
  refine lv_ldcw (v := 252645135) hx hb hown (hts (.constant R_Integer 267 252645135) (by decide +kernel)) d_Integer_bitCount_29 ?_
  refine lv_iand hx hb d_Integer_bitCount_32 ?_
  obtain ⟨x0_3, ex0_3, hf⟩ := lt_ex hf
  try dsimp only at hf
  refine tp_i ex0_3 ?_
  refine lv_istore_n (lv' := [(0, .int x0_3)]) hx hb d_Integer_bitCount_33 rfl hl (by decide) rfl (fun ls hl => ?_)
  refine lv_iload_n hx hb d_Integer_bitCount_34 rfl (lv_at hl 0 rfl) ?_
  refine lv_iload_n hx hb d_Integer_bitCount_35 rfl (lv_at hl 0 rfl) ?_
  refine lv_bipush (v := 8) hx hb d_Integer_bitCount_36 (by decide) ?_
  refine lv_iushr (v := (x0_3.toUInt32 >>> ((8 : Int32).toUInt32 &&& Int32.toUInt32 31)).toInt32) hx hb d_Integer_bitCount_38 rfl ?_
  refine lv_iadd hx hb d_Integer_bitCount_39 ?_
  obtain ⟨x0_4, ex0_4, hf⟩ := lt_ex hf
  try dsimp only at hf
  refine tp_i ex0_4 ?_
  refine lv_istore_n (lv' := [(0, .int x0_4)]) hx hb d_Integer_bitCount_40 rfl hl (by decide) rfl (fun ls hl => ?_)
  refine lv_iload_n hx hb d_Integer_bitCount_41 rfl (lv_at hl 0 rfl) ?_
  refine lv_iload_n hx hb d_Integer_bitCount_42 rfl (lv_at hl 0 rfl) ?_
  refine lv_bipush (v := 16) hx hb d_Integer_bitCount_43 (by decide) ?_
  refine lv_iushr (v := (x0_4.toUInt32 >>> ((16 : Int32).toUInt32 &&& Int32.toUInt32 31)).toInt32) hx hb d_Integer_bitCount_45 rfl ?_
  refine lv_iadd hx hb d_Integer_bitCount_46 ?_
  obtain ⟨x0_5, ex0_5, hf⟩ := lt_ex hf
  try dsimp only at hf
  refine tp_i ex0_5 ?_
  refine lv_istore_n (lv' := [(0, .int x0_5)]) hx hb d_Integer_bitCount_47 rfl hl (by decide) rfl (fun ls hl => ?_)
  refine lv_iload_n hx hb d_Integer_bitCount_48 rfl (lv_at hl 0 rfl) ?_
  refine lv_bipush (v := 63) hx hb d_Integer_bitCount_49 (by decide) ?_
  refine lv_iand hx hb d_Integer_bitCount_51 ?_
  exact hr52 _ _ _ (x0_5 &&& 63) hP hD hS hf
end
set_option maxHeartbeats 4000000 in
set_option maxRecDepth 100000 in
theorem k_Integer_bitCount (l : Launch) (dC : Nat → ClassId) (dI : Nat → Nat → Nat) (cI cZ cJ : ClassId) (sz : Nat) {x0 : Int32} {r : Int32} (hf : f_Integer_bitCount x0 = some r) :
    Met l y_Integer_bitCount ws_Integer_bitCount ({ frames := 0, cells := 0, slots := 0, locals := 0 }) (va_Pc [.int x0] (kP (dC, dI) vwCl (TYS cI cZ cJ) ([] : va_W) sz)) (va_Qi (fun (q : Int32) (_ : Unit) => q = r) (fun _ t => kQ (dC, dI) vwCl (TYS cI cZ cJ) ([] : va_W) sz ([] : va_W) t) (va_A ([] : va_W) sz)) 0 0 (va_A ([] : va_W) sz) := by
  refine Met.ofW (cc := c_Integer_bitCount) (maxL := 1) (ret := (some .int)) (by decide) rfl ?_
  intro p e s m args below meth c s₁ B hml hv
  obtain ⟨rfl, hsz, hP, hK, hD0, hN⟩ := hv
  have hr := B.returns
  have hlocks := B.notSynchronized
  subst hsz
  have hD := hD0.self (sz := s.heap.size)
  have hl := lv_entry ([.int x0]) (n := 1) (Nat.le_of_ble_eq_true rfl)
  rw [lg_entry_eq]
  generalize (lg_sl ([.int x0]) ++ List.replicate (1 - (lg_sl ([.int x0])).length) Slot.unset).toArray = ls at hl ⊢
  refine B_Integer_bitCount (A := va_A ([] : va_W) s.heap.size) ⟨B.exec, B.bytes, hml, findClass_of_methodNamed B.named, fun w h => atoms_spec (ws := ws_Integer_bitCount) B.pre w (List.mem_cons_of_mem _ h), hK, fun q h => Or.inr h, Nat.le_of_ble_eq_true rfl, Nat.le_of_ble_eq_true rfl, hN, Nat.le_of_ble_eq_true rfl, Nat.le_of_ble_eq_true rfl⟩ (fun H locs ls v hP hD hS hf => ?_) hP hD va_S.rf hl hf
  · cases hf
    exact W.iret B.exec B.bytes hr (fun t ht hW => ⟨⟨_, (), rfl, rfl, ⟨by rw [ht]; exact hP, va_K.moved hW.alike hK, hD⟩⟩, hS.F ht⟩) hS.2.2 d_Integer_bitCount_52

/-! Symbols_removeAll -/
def f_Symbols_removeAll (sy : Sy) : Option (Sy) := lt' (Sy_s_n sy 0) <| fun sy_1 => some sy_1
section
variable {p : Program} {l : Launch} {e : Env} {R : Room} {s : State} {m : MethodId} {args : Array Value} {below : List Frame} {meth : Method} {c : Code} {Q : State → Prop} {A : Nat → Prop}
set_option maxHeartbeats 4000000 in
set_option maxRecDepth 100000 in
theorem B_Symbols_removeAll {cells slots : Nat} {dC : Nat → ClassId} {dI : Nat → Nat → Nat} {cI cZ cJ : ClassId} {sy_a : Nat → Nat} {sy : Sy} {res : Sy} (C0 : cxt p c m s args R cells slots R_Symbols c_Symbols_removeAll tb 1 (dC, dI) vwCl (TYS cI cZ cJ) A 0 0)
    (hr5 : ∀ (H : Heap) (locs : List Loc) (ls : Array Slot) (sy' : Sy), va_P (dC, dI) vwCl (wSy cI cZ cJ sy_a sy') H → va_D A (wSy cI cZ cJ sy_a sy') → va_S A s.heap H locs → some sy' = some res → W p l e R s m args below meth c H locs cells slots Q (F0 m 5 ls []))
    {H : Heap} {locs : List Loc} {ls : Array Slot} (hP : va_P (dC, dI) vwCl (wSy cI cZ cJ sy_a sy) H) (hD : va_D A (wSy cI cZ cJ sy_a sy)) (hS : va_S A s.heap H locs) (hl : lv_has ls 1 [(0, .ref (sy_a 0))]) (hf : f_Symbols_removeAll sy = some res) : W p l e R s m args below meth c H locs cells slots Q (F0 m 0 ls []) := by
  obtain ⟨hx, hb, hml, hown, hts, hK, hA, hRf, hRl, hN, hRc⟩ := id C0
  rw [f_Symbols_removeAll] at hf
  refine lv_aload_n hx hb d_Symbols_removeAll_0 rfl (lv_at hl 0 rfl) ?_
  refine lv_iconst (v := 0) hx hb d_Symbols_removeAll_1 (by decide) ?_
  refine va_put (D := (dC, dI)) (ci := 0) (v := .int 0) (ty := .int) (C := R_Symbols) (T := T_Symbols) (N := 10) hx hb hts in_Symbols ty_Symbols tyok_Symbols nm_Symbols hown hK hP hD hS 0 rfl rfl 7 (by decide) (hts _ t_230) (fun _ h9 => h9) rfl (by decide +kernel) rfl rfl (Nat.le_of_ble_eq_true rfl) d_Symbols_removeAll_2 (fun H locs hP hD hS => ?_)
  obtain ⟨sy_1, esy_1, hf⟩ := lt_ex hf
  try dsimp only at hf
  have hP : va_P (dC, dI) vwCl (wSy cI cZ cJ sy_a sy_1) H := by rw [esy_1]; exact hP
  have hD : va_D A (wSy cI cZ cJ sy_a sy_1) := by rw [esy_1]; exact hD
  exact hr5 _ _ _ sy_1 hP hD hS hf
end
set_option maxHeartbeats 4000000 in
set_option maxRecDepth 100000 in
theorem k_Symbols_removeAll (l : Launch) (dC : Nat → ClassId) (dI : Nat → Nat → Nat) (cI cZ cJ : ClassId) (sy_a : Nat → Nat) (sz : Nat) {sy : Sy} {sy' : Sy} (hf : f_Symbols_removeAll sy = some sy') :
    Met l y_Symbols_removeAll ws_Symbols_removeAll ({ frames := 0, cells := 0, slots := 0, locals := 0 }) (va_Pc [.ref (sy_a 0)] (kP (dC, dI) vwCl (TYS cI cZ cJ) (wSy cI cZ cJ sy_a sy) sz)) (va_Qv (fun (_ : Unit) => True) (fun _ t => kQ (dC, dI) vwCl (TYS cI cZ cJ) (wSy cI cZ cJ sy_a sy) sz (wSy cI cZ cJ sy_a sy') t) (va_A (wSy cI cZ cJ sy_a sy) sz)) 0 0 (va_A (wSy cI cZ cJ sy_a sy) sz) := by
  refine Met.ofW (cc := c_Symbols_removeAll) (maxL := 1) (ret := none) (by decide) rfl ?_
  intro p e s m args below meth c s₁ B hml hv
  obtain ⟨rfl, hsz, hP, hK, hD0, hN⟩ := hv
  have hr := B.returns
  have hlocks := B.notSynchronized
  subst hsz
  have hD := hD0.self (sz := s.heap.size)
  have hl := lv_entry ([.ref (sy_a 0)]) (n := 1) (Nat.le_of_ble_eq_true rfl)
  rw [lg_entry_eq]
  generalize (lg_sl ([.ref (sy_a 0)]) ++ List.replicate (1 - (lg_sl ([.ref (sy_a 0)])).length) Slot.unset).toArray = ls at hl ⊢
  refine B_Symbols_removeAll (A := va_A (wSy cI cZ cJ sy_a sy) s.heap.size) ⟨B.exec, B.bytes, hml, findClass_of_methodNamed B.named, fun w h => atoms_spec (ws := ws_Symbols_removeAll) B.pre w (List.mem_cons_of_mem _ h), hK, fun q h => Or.inr h, Nat.le_of_ble_eq_true rfl, Nat.le_of_ble_eq_true rfl, hN, Nat.le_of_ble_eq_true rfl, Nat.le_of_ble_eq_true rfl⟩ (fun H locs ls sy'1 hP hD hS hf => ?_) hP hD va_S.rf hl hf
  · cases hf
    exact W.vret B.exec B.bytes hr (fun t ht hW => ⟨⟨(), rfl, trivial, ⟨by rw [ht]; exact hP, va_K.moved hW.alike hK, hD⟩⟩, hS.F ht⟩) hS.2.2 d_Symbols_removeAll_5

/-! Symbols_refine -/
def f_Symbols_refine (sy : Sy) (x1 : Int32) (x2 : Int32) (x3 : Int32) (x4 : Int32) : Option (Sy) := gd (inb x1 40) <| lt' (Sy_s_bs sy (upd (Sy_bs sy) x1.toNatClampNeg x2)) <| fun sy_2 => gd (inb x1 40) <| lt' (Sy_s_dx sy_2 (upd (Sy_dx sy_2) x1.toNatClampNeg x3)) <| fun sy_5 => gd (inb x1 40) <| lt' (Sy_s_dy sy_5 (upd (Sy_dy sy_5) x1.toNatClampNeg x4)) <| fun sy_8 => some sy_8
section
variable {p : Program} {l : Launch} {e : Env} {R : Room} {s : State} {m : MethodId} {args : Array Value} {below : List Frame} {meth : Method} {c : Code} {Q : State → Prop} {A : Nat → Prop}
set_option maxHeartbeats 4000000 in
set_option maxRecDepth 100000 in
theorem B_Symbols_refine {cells slots : Nat} {dC : Nat → ClassId} {dI : Nat → Nat → Nat} {cI cZ cJ : ClassId} {sy_a : Nat → Nat} {sy : Sy} {x1 : Int32} {x2 : Int32} {x3 : Int32} {x4 : Int32} {res : Sy} (C0 : cxt p c m s args R cells slots R_Symbols c_Symbols_refine tb 5 (dC, dI) vwCl (TYS cI cZ cJ) A 0 0)
    (hr22 : ∀ (H : Heap) (locs : List Loc) (ls : Array Slot) (sy' : Sy), va_P (dC, dI) vwCl (wSy cI cZ cJ sy_a sy') H → va_D A (wSy cI cZ cJ sy_a sy') → va_S A s.heap H locs → some sy' = some res → W p l e R s m args below meth c H locs cells slots Q (F0 m 22 ls []))
    {H : Heap} {locs : List Loc} {ls : Array Slot} (hP : va_P (dC, dI) vwCl (wSy cI cZ cJ sy_a sy) H) (hD : va_D A (wSy cI cZ cJ sy_a sy)) (hS : va_S A s.heap H locs) (hl : lv_has ls 5 [(0, .ref (sy_a 0)), (1, .int x1), (2, .int x2), (3, .int x3), (4, .int x4)]) (hf : f_Symbols_refine sy x1 x2 x3 x4 = some res) : W p l e R s m args below meth c H locs cells slots Q (F0 m 0 ls []) := by
  obtain ⟨hx, hb, hml, hown, hts, hK, hA, hRf, hRl, hN, hRc⟩ := id C0
  rw [f_Symbols_refine] at hf
  refine lv_aload_n hx hb d_Symbols_refine_0 rfl (lv_at hl 0 rfl) ?_
  refine va_get (D := (dC, dI)) (ci := 0) (v := .ref (sy_a 4)) (C := R_Symbols) (T := T_Symbols) (N := 10) hx hb hts in_Symbols hown hK hP 0 rfl rfl 3 (by decide) (hts _ t_218) (fun _ h9 => h9) rfl d_Symbols_refine_1 ?_
  refine lv_iload_n hx hb d_Symbols_refine_4 rfl (lv_at hl 1 rfl) ?_
  refine lv_iload_n hx hb d_Symbols_refine_5 rfl (lv_at hl 2 rfl) ?_
  obtain ⟨h_1, hf⟩ := gd_ex hf
  refine va_iast (f := Sy_bs sy) hx hb hK hP hD hS 4 0 rfl rfl (inb_in h_1) d_Symbols_refine_6 (fun H locs hP hD hS => ?_)
  obtain ⟨sy_2, esy_2, hf⟩ := lt_ex hf
  try dsimp only at hf
  have hP : va_P (dC, dI) vwCl (wSy cI cZ cJ sy_a sy_2) H := by rw [esy_2]; exact hP
  have hD : va_D A (wSy cI cZ cJ sy_a sy_2) := by rw [esy_2]; exact hD
  refine lv_aload_n hx hb d_Symbols_refine_7 rfl (lv_at hl 0 rfl) ?_
  refine va_get (D := (dC, dI)) (ci := 0) (v := .ref (sy_a 5)) (C := R_Symbols) (T := T_Symbols) (N := 10) hx hb hts in_Symbols hown hK hP 0 rfl rfl 4 (by decide) (hts _ t_222) (fun _ h9 => h9) rfl d_Symbols_refine_8 ?_
  refine lv_iload_n hx hb d_Symbols_refine_11 rfl (lv_at hl 1 rfl) ?_
  refine lv_iload_n hx hb d_Symbols_refine_12 rfl (lv_at hl 3 rfl) ?_
  obtain ⟨h_4, hf⟩ := gd_ex hf
  refine va_iast (f := Sy_dx sy_2) hx hb hK hP hD hS 5 0 rfl rfl (inb_in h_4) d_Symbols_refine_13 (fun H locs hP hD hS => ?_)
  obtain ⟨sy_5, esy_5, hf⟩ := lt_ex hf
  try dsimp only at hf
  have hP : va_P (dC, dI) vwCl (wSy cI cZ cJ sy_a sy_5) H := by rw [esy_5]; exact hP
  have hD : va_D A (wSy cI cZ cJ sy_a sy_5) := by rw [esy_5]; exact hD
  refine lv_aload_n hx hb d_Symbols_refine_14 rfl (lv_at hl 0 rfl) ?_
  refine va_get (D := (dC, dI)) (ci := 0) (v := .ref (sy_a 6)) (C := R_Symbols) (T := T_Symbols) (N := 10) hx hb hts in_Symbols hown hK hP 0 rfl rfl 5 (by decide) (hts _ t_225) (fun _ h9 => h9) rfl d_Symbols_refine_15 ?_
  refine lv_iload_n hx hb d_Symbols_refine_18 rfl (lv_at hl 1 rfl) ?_
  refine lv_iload hx hb d_Symbols_refine_19 (lv_at hl 4 rfl) ?_
  obtain ⟨h_7, hf⟩ := gd_ex hf
  refine va_iast (f := Sy_dy sy_5) hx hb hK hP hD hS 6 0 rfl rfl (inb_in h_7) d_Symbols_refine_21 (fun H locs hP hD hS => ?_)
  obtain ⟨sy_8, esy_8, hf⟩ := lt_ex hf
  try dsimp only at hf
  have hP : va_P (dC, dI) vwCl (wSy cI cZ cJ sy_a sy_8) H := by rw [esy_8]; exact hP
  have hD : va_D A (wSy cI cZ cJ sy_a sy_8) := by rw [esy_8]; exact hD
  exact hr22 _ _ _ sy_8 hP hD hS hf
end
set_option maxHeartbeats 4000000 in
set_option maxRecDepth 100000 in
theorem k_Symbols_refine (l : Launch) (dC : Nat → ClassId) (dI : Nat → Nat → Nat) (cI cZ cJ : ClassId) (sy_a : Nat → Nat) (sz : Nat) {sy : Sy} {x1 : Int32} {x2 : Int32} {x3 : Int32} {x4 : Int32} {sy' : Sy} (hf : f_Symbols_refine sy x1 x2 x3 x4 = some sy') :
    Met l y_Symbols_refine ws_Symbols_refine ({ frames := 0, cells := 0, slots := 0, locals := 0 }) (va_Pc [.ref (sy_a 0), .int x1, .int x2, .int x3, .int x4] (kP (dC, dI) vwCl (TYS cI cZ cJ) (wSy cI cZ cJ sy_a sy) sz)) (va_Qv (fun (_ : Unit) => True) (fun _ t => kQ (dC, dI) vwCl (TYS cI cZ cJ) (wSy cI cZ cJ sy_a sy) sz (wSy cI cZ cJ sy_a sy') t) (va_A (wSy cI cZ cJ sy_a sy) sz)) 0 0 (va_A (wSy cI cZ cJ sy_a sy) sz) := by
  refine Met.ofW (cc := c_Symbols_refine) (maxL := 5) (ret := none) (by decide) rfl ?_
  intro p e s m args below meth c s₁ B hml hv
  obtain ⟨rfl, hsz, hP, hK, hD0, hN⟩ := hv
  have hr := B.returns
  have hlocks := B.notSynchronized
  subst hsz
  have hD := hD0.self (sz := s.heap.size)
  have hl := lv_entry ([.ref (sy_a 0), .int x1, .int x2, .int x3, .int x4]) (n := 5) (Nat.le_of_ble_eq_true rfl)
  rw [lg_entry_eq]
  generalize (lg_sl ([.ref (sy_a 0), .int x1, .int x2, .int x3, .int x4]) ++ List.replicate (5 - (lg_sl ([.ref (sy_a 0), .int x1, .int x2, .int x3, .int x4])).length) Slot.unset).toArray = ls at hl ⊢
  refine B_Symbols_refine (A := va_A (wSy cI cZ cJ sy_a sy) s.heap.size) ⟨B.exec, B.bytes, hml, findClass_of_methodNamed B.named, fun w h => atoms_spec (ws := ws_Symbols_refine) B.pre w (List.mem_cons_of_mem _ h), hK, fun q h => Or.inr h, Nat.le_of_ble_eq_true rfl, Nat.le_of_ble_eq_true rfl, hN, Nat.le_of_ble_eq_true rfl, Nat.le_of_ble_eq_true rfl⟩ (fun H locs ls sy'1 hP hD hS hf => ?_) hP hD va_S.rf hl hf
  · cases hf
    exact W.vret B.exec B.bytes hr (fun t ht hW => ⟨⟨(), rfl, trivial, ⟨by rw [ht]; exact hP, va_K.moved hW.alike hK, hD⟩⟩, hS.F ht⟩) hS.2.2 d_Symbols_refine_22

/-! Symbols_rowOf -/
def f_Symbols_rowOf (sy : Sy) (x1 : Int32) (x2 : Int32) : Option (Int32) := gd (inb ((x1 * 16) + x2) 640) <| some (Sy_rw sy ((x1 * 16) + x2).toNatClampNeg)
section
variable {p : Program} {l : Launch} {e : Env} {R : Room} {s : State} {m : MethodId} {args : Array Value} {below : List Frame} {meth : Method} {c : Code} {Q : State → Prop} {A : Nat → Prop}
set_option maxHeartbeats 4000000 in
set_option maxRecDepth 100000 in
theorem B_Symbols_rowOf {cells slots : Nat} {dC : Nat → ClassId} {dI : Nat → Nat → Nat} {cI cZ cJ : ClassId} {sy_a : Nat → Nat} {sy : Sy} {x1 : Int32} {x2 : Int32} {res : Int32} (C0 : cxt p c m s args R cells slots R_Symbols c_Symbols_rowOf tb 3 (dC, dI) vwCl (TYS cI cZ cJ) A 0 0)
    (hr11 : ∀ (H : Heap) (locs : List Loc) (ls : Array Slot) (v : Int32), va_P (dC, dI) vwCl (wSy cI cZ cJ sy_a sy) H → va_D A (wSy cI cZ cJ sy_a sy) → va_S A s.heap H locs → some v = some res → W p l e R s m args below meth c H locs cells slots Q (F0 m 11 ls [.int v]))
    {H : Heap} {locs : List Loc} {ls : Array Slot} (hP : va_P (dC, dI) vwCl (wSy cI cZ cJ sy_a sy) H) (hD : va_D A (wSy cI cZ cJ sy_a sy)) (hS : va_S A s.heap H locs) (hl : lv_has ls 3 [(0, .ref (sy_a 0)), (1, .int x1), (2, .int x2)]) (hf : f_Symbols_rowOf sy x1 x2 = some res) : W p l e R s m args below meth c H locs cells slots Q (F0 m 0 ls []) := by
  obtain ⟨hx, hb, hml, hown, hts, hK, hA, hRf, hRl, hN, hRc⟩ := id C0
  rw [f_Symbols_rowOf] at hf
  refine lv_aload_n hx hb d_Symbols_rowOf_0 rfl (lv_at hl 0 rfl) ?_
  refine va_get (D := (dC, dI)) (ci := 0) (v := .ref (sy_a 8)) (C := R_Symbols) (T := T_Symbols) (N := 10) hx hb hts in_Symbols hown hK hP 0 rfl rfl 8 (by decide) (hts _ t_234) (fun _ h9 => h9) rfl d_Symbols_rowOf_1 ?_
  refine lv_iload_n hx hb d_Symbols_rowOf_4 rfl (lv_at hl 1 rfl) ?_
  refine lv_bipush (v := 16) hx hb d_Symbols_rowOf_5 (by decide) ?_
  refine lv_imul hx hb d_Symbols_rowOf_7 ?_
  refine lv_iload_n hx hb d_Symbols_rowOf_8 rfl (lv_at hl 2 rfl) ?_
  refine lv_iadd hx hb d_Symbols_rowOf_9 ?_
  obtain ⟨h_1, hf⟩ := gd_ex hf
  refine va_iald (f := Sy_rw sy) hx hb hK hP 8 0 rfl rfl (inb_in h_1) d_Symbols_rowOf_10 ?_
  exact hr11 _ _ _ (Sy_rw sy ((x1 * 16) + x2).toNatClampNeg) hP hD hS hf
end
set_option maxHeartbeats 4000000 in
set_option maxRecDepth 100000 in
theorem k_Symbols_rowOf (l : Launch) (dC : Nat → ClassId) (dI : Nat → Nat → Nat) (cI cZ cJ : ClassId) (sy_a : Nat → Nat) (sz : Nat) {sy : Sy} {x1 : Int32} {x2 : Int32} {r : Int32} (hf : f_Symbols_rowOf sy x1 x2 = some r) :
    Met l y_Symbols_rowOf ws_Symbols_rowOf ({ frames := 0, cells := 0, slots := 0, locals := 0 }) (va_Pc [.ref (sy_a 0), .int x1, .int x2] (kP (dC, dI) vwCl (TYS cI cZ cJ) (wSy cI cZ cJ sy_a sy) sz)) (va_Qi (fun (q : Int32) (_ : Unit) => q = r) (fun _ t => kQ (dC, dI) vwCl (TYS cI cZ cJ) (wSy cI cZ cJ sy_a sy) sz (wSy cI cZ cJ sy_a sy) t) (va_A (wSy cI cZ cJ sy_a sy) sz)) 0 0 (va_A (wSy cI cZ cJ sy_a sy) sz) := by
  refine Met.ofW (cc := c_Symbols_rowOf) (maxL := 3) (ret := (some .int)) (by decide) rfl ?_
  intro p e s m args below meth c s₁ B hml hv
  obtain ⟨rfl, hsz, hP, hK, hD0, hN⟩ := hv
  have hr := B.returns
  have hlocks := B.notSynchronized
  subst hsz
  have hD := hD0.self (sz := s.heap.size)
  have hl := lv_entry ([.ref (sy_a 0), .int x1, .int x2]) (n := 3) (Nat.le_of_ble_eq_true rfl)
  rw [lg_entry_eq]
  generalize (lg_sl ([.ref (sy_a 0), .int x1, .int x2]) ++ List.replicate (3 - (lg_sl ([.ref (sy_a 0), .int x1, .int x2])).length) Slot.unset).toArray = ls at hl ⊢
  refine B_Symbols_rowOf (A := va_A (wSy cI cZ cJ sy_a sy) s.heap.size) ⟨B.exec, B.bytes, hml, findClass_of_methodNamed B.named, fun w h => atoms_spec (ws := ws_Symbols_rowOf) B.pre w (List.mem_cons_of_mem _ h), hK, fun q h => Or.inr h, Nat.le_of_ble_eq_true rfl, Nat.le_of_ble_eq_true rfl, hN, Nat.le_of_ble_eq_true rfl, Nat.le_of_ble_eq_true rfl⟩ (fun H locs ls v hP hD hS hf => ?_) hP hD va_S.rf hl hf
  · cases hf
    exact W.iret B.exec B.bytes hr (fun t ht hW => ⟨⟨_, (), rfl, rfl, ⟨by rw [ht]; exact hP, va_K.moved hW.alike hK, hD⟩⟩, hS.F ht⟩) hS.2.2 d_Symbols_rowOf_11

/-! Symbols_withinWidth -/
def f_Symbols_withinWidth (sy : Sy) (x1 : Int32) (x2 : Int32) : Option (Int32) := gd (inb x1 40) <| some (x2 &&& (((1 : Int32) <<< ((Sy_wd sy x1.toNatClampNeg) &&& 31)) - 1))
section
variable {p : Program} {l : Launch} {e : Env} {R : Room} {s : State} {m : MethodId} {args : Array Value} {below : List Frame} {meth : Method} {c : Code} {Q : State → Prop} {A : Nat → Prop}
set_option maxHeartbeats 4000000 in
set_option maxRecDepth 100000 in
theorem B_Symbols_withinWidth {cells slots : Nat} {dC : Nat → ClassId} {dI : Nat → Nat → Nat} {cI cZ cJ : ClassId} {sy_a : Nat → Nat} {sy : Sy} {x1 : Int32} {x2 : Int32} {res : Int32} (C0 : cxt p c m s args R cells slots R_Symbols c_Symbols_withinWidth tb 3 (dC, dI) vwCl (TYS cI cZ cJ) A 0 0)
    (hr12 : ∀ (H : Heap) (locs : List Loc) (ls : Array Slot) (v : Int32), va_P (dC, dI) vwCl (wSy cI cZ cJ sy_a sy) H → va_D A (wSy cI cZ cJ sy_a sy) → va_S A s.heap H locs → some v = some res → W p l e R s m args below meth c H locs cells slots Q (F0 m 12 ls [.int v]))
    {H : Heap} {locs : List Loc} {ls : Array Slot} (hP : va_P (dC, dI) vwCl (wSy cI cZ cJ sy_a sy) H) (hD : va_D A (wSy cI cZ cJ sy_a sy)) (hS : va_S A s.heap H locs) (hl : lv_has ls 3 [(0, .ref (sy_a 0)), (1, .int x1), (2, .int x2)]) (hf : f_Symbols_withinWidth sy x1 x2 = some res) : W p l e R s m args below meth c H locs cells slots Q (F0 m 0 ls []) := by
  obtain ⟨hx, hb, hml, hown, hts, hK, hA, hRf, hRl, hN, hRc⟩ := id C0
  rw [f_Symbols_withinWidth] at hf
  refine lv_iload_n hx hb d_Symbols_withinWidth_0 rfl (lv_at hl 2 rfl) ?_
  refine lv_iconst (v := 1) hx hb d_Symbols_withinWidth_1 (by decide) ?_
  refine lv_aload_n hx hb d_Symbols_withinWidth_2 rfl (lv_at hl 0 rfl) ?_
  refine va_get (D := (dC, dI)) (ci := 0) (v := .ref (sy_a 1)) (C := R_Symbols) (T := T_Symbols) (N := 10) hx hb hts in_Symbols hown hK hP 0 rfl rfl 0 (by decide) (hts _ t_206) (fun _ h9 => h9) rfl d_Symbols_withinWidth_3 ?_
  refine lv_iload_n hx hb d_Symbols_withinWidth_6 rfl (lv_at hl 1 rfl) ?_
  obtain ⟨h_1, hf⟩ := gd_ex hf
  refine va_iald (f := Sy_wd sy) hx hb hK hP 1 0 rfl rfl (inb_in h_1) d_Symbols_withinWidth_7 ?_
  refine lv_ishl hx hb d_Symbols_withinWidth_8 ?_
  refine lv_iconst (v := 1) hx hb d_Symbols_withinWidth_9 (by decide) ?_
  refine lv_isub hx hb d_Symbols_withinWidth_10 ?_
  refine lv_iand hx hb d_Symbols_withinWidth_11 ?_
  exact hr12 _ _ _ (x2 &&& (((1 : Int32) <<< ((Sy_wd sy x1.toNatClampNeg) &&& 31)) - 1)) hP hD hS hf
end
set_option maxHeartbeats 4000000 in
set_option maxRecDepth 100000 in
theorem k_Symbols_withinWidth (l : Launch) (dC : Nat → ClassId) (dI : Nat → Nat → Nat) (cI cZ cJ : ClassId) (sy_a : Nat → Nat) (sz : Nat) {sy : Sy} {x1 : Int32} {x2 : Int32} {r : Int32} (hf : f_Symbols_withinWidth sy x1 x2 = some r) :
    Met l y_Symbols_withinWidth ws_Symbols_withinWidth ({ frames := 0, cells := 0, slots := 0, locals := 0 }) (va_Pc [.ref (sy_a 0), .int x1, .int x2] (kP (dC, dI) vwCl (TYS cI cZ cJ) (wSy cI cZ cJ sy_a sy) sz)) (va_Qi (fun (q : Int32) (_ : Unit) => q = r) (fun _ t => kQ (dC, dI) vwCl (TYS cI cZ cJ) (wSy cI cZ cJ sy_a sy) sz (wSy cI cZ cJ sy_a sy) t) (va_A (wSy cI cZ cJ sy_a sy) sz)) 0 0 (va_A (wSy cI cZ cJ sy_a sy) sz) := by
  refine Met.ofW (cc := c_Symbols_withinWidth) (maxL := 3) (ret := (some .int)) (by decide) rfl ?_
  intro p e s m args below meth c s₁ B hml hv
  obtain ⟨rfl, hsz, hP, hK, hD0, hN⟩ := hv
  have hr := B.returns
  have hlocks := B.notSynchronized
  subst hsz
  have hD := hD0.self (sz := s.heap.size)
  have hl := lv_entry ([.ref (sy_a 0), .int x1, .int x2]) (n := 3) (Nat.le_of_ble_eq_true rfl)
  rw [lg_entry_eq]
  generalize (lg_sl ([.ref (sy_a 0), .int x1, .int x2]) ++ List.replicate (3 - (lg_sl ([.ref (sy_a 0), .int x1, .int x2])).length) Slot.unset).toArray = ls at hl ⊢
  refine B_Symbols_withinWidth (A := va_A (wSy cI cZ cJ sy_a sy) s.heap.size) ⟨B.exec, B.bytes, hml, findClass_of_methodNamed B.named, fun w h => atoms_spec (ws := ws_Symbols_withinWidth) B.pre w (List.mem_cons_of_mem _ h), hK, fun q h => Or.inr h, Nat.le_of_ble_eq_true rfl, Nat.le_of_ble_eq_true rfl, hN, Nat.le_of_ble_eq_true rfl, Nat.le_of_ble_eq_true rfl⟩ (fun H locs ls v hP hD hS hf => ?_) hP hD va_S.rf hl hf
  · cases hf
    exact W.iret B.exec B.bytes hr (fun t ht hW => ⟨⟨_, (), rfl, rfl, ⟨by rw [ht]; exact hP, va_K.moved hW.alike hK, hD⟩⟩, hS.F ht⟩) hS.2.2 d_Symbols_withinWidth_12

/-! Symbols_setRow -/
def f_Symbols_setRow (sy : Sy) (x1 : Int32) (x2 : Int32) (x3 : Int32) : Option (Int32 × Sy) := bd (f_Symbols_withinWidth sy x1 x3) <| fun r_1 => gd (inb ((x1 * 16) + x2) 640) <| lt' (Sy_s_rw sy (upd (Sy_rw sy) ((x1 * 16) + x2).toNatClampNeg r_1)) <| fun sy_3 => bd (f_Integer_bitCount r_1) <| fun r_5 => some (r_5, sy_3)
section
variable {p : Program} {l : Launch} {e : Env} {R : Room} {s : State} {m : MethodId} {args : Array Value} {below : List Frame} {meth : Method} {c : Code} {Q : State → Prop} {A : Nat → Prop}
set_option maxHeartbeats 4000000 in
set_option maxRecDepth 100000 in
theorem B_Symbols_setRow {cells slots : Nat} {dC : Nat → ClassId} {dI : Nat → Nat → Nat} {cI cZ cJ : ClassId} {sy_a : Nat → Nat} {sy : Sy} {x1 : Int32} {x2 : Int32} {x3 : Int32} {res : Int32 × Sy} (C0 : cxt p c m s args R cells slots R_Symbols c_Symbols_setRow tb 5 (dC, dI) vwCl (TYS cI cZ cJ) A 1 22)
    (hr26 : ∀ (H : Heap) (locs : List Loc) (ls : Array Slot) (v : Int32) (sy' : Sy), va_P (dC, dI) vwCl (wSy cI cZ cJ sy_a sy') H → va_D A (wSy cI cZ cJ sy_a sy') → va_S A s.heap H locs → some (v, sy') = some res → W p l e R s m args below meth c H locs cells slots Q (F0 m 26 ls [.int v]))
    {H : Heap} {locs : List Loc} {ls : Array Slot} (hP : va_P (dC, dI) vwCl (wSy cI cZ cJ sy_a sy) H) (hD : va_D A (wSy cI cZ cJ sy_a sy)) (hS : va_S A s.heap H locs) (hl : lv_has ls 5 [(0, .ref (sy_a 0)), (1, .int x1), (2, .int x2), (3, .int x3)]) (hf : f_Symbols_setRow sy x1 x2 x3 = some res) : W p l e R s m args below meth c H locs cells slots Q (F0 m 0 ls []) := by
  obtain ⟨hx, hb, hml, hown, hts, hK, hA, hRf, hRl, hN, hRc⟩ := id C0
  rw [f_Symbols_setRow] at hf
  refine lv_aload_n hx hb d_Symbols_setRow_0 rfl (lv_at hl 0 rfl) ?_
  refine lv_iload_n hx hb d_Symbols_setRow_1 rfl (lv_at hl 1 rfl) ?_
  refine lv_iload_n hx hb d_Symbols_setRow_2 rfl (lv_at hl 3 rfl) ?_
  obtain ⟨r_1, hf1, hf⟩ := bd_ex hf
  try dsimp only at hf
  have hPc := hP.sub (ws' := (wSy cI cZ cJ sy_a sy)) [0, 1, 2, 3, 4, 5, 6, 7, 8, 9] rfl
  have hDc := hD.sub (ws' := (wSy cI cZ cJ sy_a sy)) [0, 1, 2, 3, 4, 5, 6, 7, 8, 9] (by decide) rfl
  have hFc := va_free (wc := (wSy cI cZ cJ sy_a sy)) hD hS hA [0, 1, 2, 3, 4, 5, 6, 7, 8, 9] rfl
  refine va_calli (va_runV (As := [.int x1, .int x3]) (rest := []) ⟨hx, hb, hml, hown, hts⟩ (k_Symbols_withinWidth l dC dI cI cZ cJ sy_a H.size hf1) (cwV 2 hts (gV t_404 t_406 t_8 t_62 t_407) rfl rfl rfl hd_Symbols_withinWidth ⟨Nat.le_trans (Nat.le_of_ble_eq_true rfl) hRf, Nat.le_trans (Nat.le_of_ble_eq_true rfl) hRl⟩) ⟨kP_blind, va_recv hK hP (ci := 0) (q0 := 0) rfl rfl, kP_at hPc hK hDc hN⟩ rfl rfl hl.1 rfl (lv_room (Nat.le_of_ble_eq_true rfl)) d_Symbols_setRow_3 hRc) hS (fun q _ h => hFc q h) hFc (fun r9 u t H1 locs ht hvm hw hB hz1 hk1 hS => ?_)
  rw [hw]
  obtain ⟨hP, hD⟩ := kQ_join (wr := ([] : va_W)) (w1 := (wSy cI cZ cJ sy_a sy)) hP hD [0, 1, 2, 3, 4, 5, 6, 7, 8, 9] [] rfl rfl (by decide) (by decide) ht hk1 hFc hB
  generalize H1 = H at hP hS ⊢
  have hP : va_P (dC, dI) vwCl (wSy cI cZ cJ sy_a sy) H := hP.sub [0, 1, 2, 3, 4, 5, 6, 7, 8, 9] rfl
  have hD : va_D A (wSy cI cZ cJ sy_a sy) := hD.sub [0, 1, 2, 3, 4, 5, 6, 7, 8, 9] (by decide) rfl
  refine lv_istore (lv' := [(4, .int r_1), (0, .ref (sy_a 0)), (1, .int x1), (2, .int x2), (3, .int x3)]) hx hb d_Symbols_setRow_6 hl (by decide) rfl (fun ls hl => ?_)
  refine lv_aload_n hx hb d_Symbols_setRow_8 rfl (lv_at hl 1 rfl) ?_
  refine va_get (D := (dC, dI)) (ci := 0) (v := .ref (sy_a 8)) (C := R_Symbols) (T := T_Symbols) (N := 10) hx hb hts in_Symbols hown hK hP 0 rfl rfl 8 (by decide) (hts _ t_234) (fun _ h9 => h9) rfl d_Symbols_setRow_9 ?_
  refine lv_iload_n hx hb d_Symbols_setRow_12 rfl (lv_at hl 2 rfl) ?_
  refine lv_bipush (v := 16) hx hb d_Symbols_setRow_13 (by decide) ?_
  refine lv_imul hx hb d_Symbols_setRow_15 ?_
  refine lv_iload_n hx hb d_Symbols_setRow_16 rfl (lv_at hl 3 rfl) ?_
  refine lv_iadd hx hb d_Symbols_setRow_17 ?_
  refine lv_iload hx hb d_Symbols_setRow_18 (lv_at hl 0 rfl) ?_
  obtain ⟨h_2, hf⟩ := gd_ex hf
  refine va_iast (f := Sy_rw sy) hx hb hK hP hD hS 8 0 rfl rfl (inb_in h_2) d_Symbols_setRow_20 (fun H locs hP hD hS => ?_)
  obtain ⟨sy_3, esy_3, hf⟩ := lt_ex hf
  try dsimp only at hf
  have hP : va_P (dC, dI) vwCl (wSy cI cZ cJ sy_a sy_3) H := by rw [esy_3]; exact hP
  have hD : va_D A (wSy cI cZ cJ sy_a sy_3) := by rw [esy_3]; exact hD
  refine lv_iload hx hb d_Symbols_setRow_21 (lv_at hl 0 rfl) ?_
  obtain ⟨r_5, hf1, hf⟩ := bd_ex hf
  try dsimp only at hf
  have hPc := hP.sub (ws' := ([] : va_W)) [] rfl
  have hDc := hD.sub (ws' := ([] : va_W)) [] (by decide) rfl
  have hFc := va_free (wc := ([] : va_W)) hD hS hA [] rfl
  refine va_calli (va_runS (As := [.int r_1]) (rest := []) ⟨hx, hb, hml, hown, hts⟩ (k_Integer_bitCount l dC dI cI cZ cJ H.size hf1) (va_cwS 1 hts (gSo t_510 t_511 t_69 t_512) rfl rfl rfl hd_Integer_bitCount.2 ⟨Nat.le_trans (Nat.le_of_ble_eq_true rfl) hRf, Nat.le_trans (Nat.le_of_ble_eq_true rfl) hRl⟩) ⟨kP_blind, kP_at hPc hK hDc hN⟩ rfl rfl hl.1 rfl (lv_room (Nat.le_of_ble_eq_true rfl)) d_Symbols_setRow_23 hRc) hS (fun q _ h => hFc q h) hFc (fun r9 u t H1 locs ht hvm hw hB hz1 hk1 hS => ?_)
  rw [hw]
  obtain ⟨hP, hD⟩ := kQ_join (wr := (wSy cI cZ cJ sy_a sy_3)) (w1 := ([] : va_W)) hP hD [] [0, 1, 2, 3, 4, 5, 6, 7, 8, 9] rfl rfl (by decide) (by decide) ht hk1 hFc hB
  generalize H1 = H at hP hS ⊢
  have hP : va_P (dC, dI) vwCl (wSy cI cZ cJ sy_a sy_3) H := hP.sub [0, 1, 2, 3, 4, 5, 6, 7, 8, 9] rfl
  have hD : va_D A (wSy cI cZ cJ sy_a sy_3) := hD.sub [0, 1, 2, 3, 4, 5, 6, 7, 8, 9] (by decide) rfl
  exact hr26 _ _ _ r_5 sy_3 hP hD hS hf
end
set_option maxHeartbeats 4000000 in
set_option maxRecDepth 100000 in
theorem k_Symbols_setRow (l : Launch) (dC : Nat → ClassId) (dI : Nat → Nat → Nat) (cI cZ cJ : ClassId) (sy_a : Nat → Nat) (sz : Nat) {sy : Sy} {x1 : Int32} {x2 : Int32} {x3 : Int32} {r : Int32} {sy' : Sy} (hf : f_Symbols_setRow sy x1 x2 x3 = some (r, sy')) :
    Met l y_Symbols_setRow ws_Symbols_setRow ({ frames := 1, cells := 0, slots := 0, locals := 22 }) (va_Pc [.ref (sy_a 0), .int x1, .int x2, .int x3] (kP (dC, dI) vwCl (TYS cI cZ cJ) (wSy cI cZ cJ sy_a sy) sz)) (va_Qi (fun (q : Int32) (_ : Unit) => q = r) (fun _ t => kQ (dC, dI) vwCl (TYS cI cZ cJ) (wSy cI cZ cJ sy_a sy) sz (wSy cI cZ cJ sy_a sy') t) (va_A (wSy cI cZ cJ sy_a sy) sz)) 0 0 (va_A (wSy cI cZ cJ sy_a sy) sz) := by
  refine Met.ofW (cc := c_Symbols_setRow) (maxL := 5) (ret := (some .int)) (by decide) rfl ?_
  intro p e s m args below meth c s₁ B hml hv
  obtain ⟨rfl, hsz, hP, hK, hD0, hN⟩ := hv
  have hr := B.returns
  have hlocks := B.notSynchronized
  subst hsz
  have hD := hD0.self (sz := s.heap.size)
  have hl := lv_entry ([.ref (sy_a 0), .int x1, .int x2, .int x3]) (n := 5) (Nat.le_of_ble_eq_true rfl)
  rw [lg_entry_eq]
  generalize (lg_sl ([.ref (sy_a 0), .int x1, .int x2, .int x3]) ++ List.replicate (5 - (lg_sl ([.ref (sy_a 0), .int x1, .int x2, .int x3])).length) Slot.unset).toArray = ls at hl ⊢
  refine B_Symbols_setRow (A := va_A (wSy cI cZ cJ sy_a sy) s.heap.size) ⟨B.exec, B.bytes, hml, findClass_of_methodNamed B.named, fun w h => atoms_spec (ws := ws_Symbols_setRow) B.pre w (List.mem_cons_of_mem _ h), hK, fun q h => Or.inr h, Nat.le_of_ble_eq_true rfl, Nat.le_of_ble_eq_true rfl, hN, Nat.le_of_ble_eq_true rfl, Nat.le_of_ble_eq_true rfl⟩ (fun H locs ls v sy'1 hP hD hS hf => ?_) hP hD va_S.rf hl hf
  · cases hf
    exact W.iret B.exec B.bytes hr (fun t ht hW => ⟨⟨_, (), rfl, rfl, ⟨by rw [ht]; exact hP, va_K.moved hW.alike hK, hD⟩⟩, hS.F ht⟩) hS.2.2 d_Symbols_setRow_26

/-! Symbols_isBlack -/
def f_Symbols_isBlack (sy : Sy) (x1 : Int32) (x2 : Int32) (x3 : Int32) : Option (Int32) := bd (f_Symbols_rowOf sy x1 x3) <| fun r_1 => (if ((r_1 >>> (x2 &&& 31)) &&& 1) = 1 then some 1 else some 0)
section
variable {p : Program} {l : Launch} {e : Env} {R : Room} {s : State} {m : MethodId} {args : Array Value} {below : List Frame} {meth : Method} {c : Code} {Q : State → Prop} {A : Nat → Prop}
set_option maxHeartbeats 4000000 in
set_option maxRecDepth 100000 in
theorem B_Symbols_isBlack {cells slots : Nat} {dC : Nat → ClassId} {dI : Nat → Nat → Nat} {cI cZ cJ : ClassId} {sy_a : Nat → Nat} {sy : Sy} {x1 : Int32} {x2 : Int32} {x3 : Int32} {res : Int32} (C0 : cxt p c m s args R cells slots R_Symbols c_Symbols_isBlack tb 4 (dC, dI) vwCl (TYS cI cZ cJ) A 1 22)
    (hr19 : ∀ (H : Heap) (locs : List Loc) (ls : Array Slot) (v : Int32), vp_nar .boolean v = v → va_P (dC, dI) vwCl (wSy cI cZ cJ sy_a sy) H → va_D A (wSy cI cZ cJ sy_a sy) → va_S A s.heap H locs → some v = some res → W p l e R s m args below meth c H locs cells slots Q (F0 m 19 ls [.int v]))
    {H : Heap} {locs : List Loc} {ls : Array Slot} (hP : va_P (dC, dI) vwCl (wSy cI cZ cJ sy_a sy) H) (hD : va_D A (wSy cI cZ cJ sy_a sy)) (hS : va_S A s.heap H locs) (hl : lv_has ls 4 [(0, .ref (sy_a 0)), (1, .int x1), (2, .int x2), (3, .int x3)]) (hf : f_Symbols_isBlack sy x1 x2 x3 = some res) : W p l e R s m args below meth c H locs cells slots Q (F0 m 0 ls []) := by
  obtain ⟨hx, hb, hml, hown, hts, hK, hA, hRf, hRl, hN, hRc⟩ := id C0
  rw [f_Symbols_isBlack] at hf
  refine lv_aload_n hx hb d_Symbols_isBlack_0 rfl (lv_at hl 0 rfl) ?_
  refine lv_iload_n hx hb d_Symbols_isBlack_1 rfl (lv_at hl 1 rfl) ?_
  refine lv_iload_n hx hb d_Symbols_isBlack_2 rfl (lv_at hl 3 rfl) ?_
  obtain ⟨r_1, hf1, hf⟩ := bd_ex hf
  try dsimp only at hf
  have hPc := hP.sub (ws' := (wSy cI cZ cJ sy_a sy)) [0, 1, 2, 3, 4, 5, 6, 7, 8, 9] rfl
  have hDc := hD.sub (ws' := (wSy cI cZ cJ sy_a sy)) [0, 1, 2, 3, 4, 5, 6, 7, 8, 9] (by decide) rfl
  have hFc := va_free (wc := (wSy cI cZ cJ sy_a sy)) hD hS hA [0, 1, 2, 3, 4, 5, 6, 7, 8, 9] rfl
  refine va_calli (va_runV (As := [.int x1, .int x3]) (rest := []) ⟨hx, hb, hml, hown, hts⟩ (k_Symbols_rowOf l dC dI cI cZ cJ sy_a H.size hf1) (cwV 2 hts (gV t_403 t_396 t_397 t_62 t_398) rfl rfl rfl hd_Symbols_rowOf ⟨Nat.le_trans (Nat.le_of_ble_eq_true rfl) hRf, Nat.le_trans (Nat.le_of_ble_eq_true rfl) hRl⟩) ⟨kP_blind, va_recv hK hP (ci := 0) (q0 := 0) rfl rfl, kP_at hPc hK hDc hN⟩ rfl rfl hl.1 rfl (lv_room (Nat.le_of_ble_eq_true rfl)) d_Symbols_isBlack_3 hRc) hS (fun q _ h => hFc q h) hFc (fun r9 u t H1 locs ht hvm hw hB hz1 hk1 hS => ?_)
  rw [hw]
  obtain ⟨hP, hD⟩ := kQ_join (wr := ([] : va_W)) (w1 := (wSy cI cZ cJ sy_a sy)) hP hD [0, 1, 2, 3, 4, 5, 6, 7, 8, 9] [] rfl rfl (by decide) (by decide) ht hk1 hFc hB
  generalize H1 = H at hP hS ⊢
  have hP : va_P (dC, dI) vwCl (wSy cI cZ cJ sy_a sy) H := hP.sub [0, 1, 2, 3, 4, 5, 6, 7, 8, 9] rfl
  have hD : va_D A (wSy cI cZ cJ sy_a sy) := hD.sub [0, 1, 2, 3, 4, 5, 6, 7, 8, 9] (by decide) rfl
  refine lv_iload_n hx hb d_Symbols_isBlack_6 rfl (lv_at hl 2 rfl) ?_
  refine lv_ishr hx hb d_Symbols_isBlack_7 ?_
  refine lv_iconst (v := 1) hx hb d_Symbols_isBlack_8 (by decide) ?_
  refine lv_iand hx hb d_Symbols_isBlack_9 ?_
  refine lv_iconst (v := 1) hx hb d_Symbols_isBlack_10 (by decide) ?_
  refine lv_icmp_ne (tgt := 18) hx hb d_Symbols_isBlack_11 (by decide) (fun c_2 => ?_) (fun c_2 => ?_)
  · rw [if_neg c_2] at hf
    refine lv_iconst (v := 0) hx hb d_Symbols_isBlack_18 (by decide) ?_
    exact hr19 _ _ _ 0 (by decide) hP hD hS hf
  · rw [if_pos c_2] at hf
    refine lv_iconst (v := 1) hx hb d_Symbols_isBlack_14 (by decide) ?_
    refine lv_goto (tgt := 19) hx hb d_Symbols_isBlack_15 (by decide) ?_
    exact hr19 _ _ _ 1 (by decide) hP hD hS hf
end
set_option maxHeartbeats 4000000 in
set_option maxRecDepth 100000 in
theorem k_Symbols_isBlack (l : Launch) (dC : Nat → ClassId) (dI : Nat → Nat → Nat) (cI cZ cJ : ClassId) (sy_a : Nat → Nat) (sz : Nat) {sy : Sy} {x1 : Int32} {x2 : Int32} {x3 : Int32} {r : Int32} (hf : f_Symbols_isBlack sy x1 x2 x3 = some r) :
    Met l y_Symbols_isBlack ws_Symbols_isBlack ({ frames := 1, cells := 0, slots := 0, locals := 22 }) (va_Pc [.ref (sy_a 0), .int x1, .int x2, .int x3] (kP (dC, dI) vwCl (TYS cI cZ cJ) (wSy cI cZ cJ sy_a sy) sz)) (va_Qi (fun (q : Int32) (_ : Unit) => q = r ∧ vp_nar .boolean r = r) (fun _ t => kQ (dC, dI) vwCl (TYS cI cZ cJ) (wSy cI cZ cJ sy_a sy) sz (wSy cI cZ cJ sy_a sy) t) (va_A (wSy cI cZ cJ sy_a sy) sz)) 0 0 (va_A (wSy cI cZ cJ sy_a sy) sz) := by
  refine Met.ofW (cc := c_Symbols_isBlack) (maxL := 4) (ret := (some .boolean)) (by decide) rfl ?_
  intro p e s m args below meth c s₁ B hml hv
  obtain ⟨rfl, hsz, hP, hK, hD0, hN⟩ := hv
  have hr := B.returns
  have hlocks := B.notSynchronized
  subst hsz
  have hD := hD0.self (sz := s.heap.size)
  have hl := lv_entry ([.ref (sy_a 0), .int x1, .int x2, .int x3]) (n := 4) (Nat.le_of_ble_eq_true rfl)
  rw [lg_entry_eq]
  generalize (lg_sl ([.ref (sy_a 0), .int x1, .int x2, .int x3]) ++ List.replicate (4 - (lg_sl ([.ref (sy_a 0), .int x1, .int x2, .int x3])).length) Slot.unset).toArray = ls at hl ⊢
  refine B_Symbols_isBlack (A := va_A (wSy cI cZ cJ sy_a sy) s.heap.size) ⟨B.exec, B.bytes, hml, findClass_of_methodNamed B.named, fun w h => atoms_spec (ws := ws_Symbols_isBlack) B.pre w (List.mem_cons_of_mem _ h), hK, fun q h => Or.inr h, Nat.le_of_ble_eq_true rfl, Nat.le_of_ble_eq_true rfl, hN, Nat.le_of_ble_eq_true rfl, Nat.le_of_ble_eq_true rfl⟩ (fun H locs ls v hz hP hD hS hf => ?_) hP hD va_S.rf hl hf
  · cases hf
    exact W.zret B.exec B.bytes hr (nz_n hz) (fun t ht hW => ⟨⟨_, (), rfl, ⟨rfl, hz⟩, ⟨by rw [ht]; exact hP, va_K.moved hW.alike hK, hD⟩⟩, hS.F ht⟩) hS.2.2 d_Symbols_isBlack_19

/-! Symbols_turn -/
def f_Symbols_turn (sy : Sy) (x1 : Int32) (x2 : Int32) (x3 : Int32) : Option (Sy) := gd (inb ((x1 * 16) + x3) 640) <| gd (inb ((x1 * 16) + x3) 640) <| lt' (Sy_s_rw sy (upd (Sy_rw sy) ((x1 * 16) + x3).toNatClampNeg ((Sy_rw sy ((x1 * 16) + x3).toNatClampNeg) ^^^ ((1 : Int32) <<< (x2 &&& 31))))) <| fun sy_3 => some sy_3
section
variable {p : Program} {l : Launch} {e : Env} {R : Room} {s : State} {m : MethodId} {args : Array Value} {below : List Frame} {meth : Method} {c : Code} {Q : State → Prop} {A : Nat → Prop}
set_option maxHeartbeats 4000000 in
set_option maxRecDepth 100000 in
theorem B_Symbols_turn {cells slots : Nat} {dC : Nat → ClassId} {dI : Nat → Nat → Nat} {cI cZ cJ : ClassId} {sy_a : Nat → Nat} {sy : Sy} {x1 : Int32} {x2 : Int32} {x3 : Int32} {res : Sy} (C0 : cxt p c m s args R cells slots R_Symbols c_Symbols_turn tb 4 (dC, dI) vwCl (TYS cI cZ cJ) A 0 0)
    (hr17 : ∀ (H : Heap) (locs : List Loc) (ls : Array Slot) (sy' : Sy), va_P (dC, dI) vwCl (wSy cI cZ cJ sy_a sy') H → va_D A (wSy cI cZ cJ sy_a sy') → va_S A s.heap H locs → some sy' = some res → W p l e R s m args below meth c H locs cells slots Q (F0 m 17 ls []))
    {H : Heap} {locs : List Loc} {ls : Array Slot} (hP : va_P (dC, dI) vwCl (wSy cI cZ cJ sy_a sy) H) (hD : va_D A (wSy cI cZ cJ sy_a sy)) (hS : va_S A s.heap H locs) (hl : lv_has ls 4 [(0, .ref (sy_a 0)), (1, .int x1), (2, .int x2), (3, .int x3)]) (hf : f_Symbols_turn sy x1 x2 x3 = some res) : W p l e R s m args below meth c H locs cells slots Q (F0 m 0 ls []) := by
  obtain ⟨hx, hb, hml, hown, hts, hK, hA, hRf, hRl, hN, hRc⟩ := id C0
  rw [f_Symbols_turn] at hf
  refine lv_aload_n hx hb d_Symbols_turn_0 rfl (lv_at hl 0 rfl) ?_
  refine va_get (D := (dC, dI)) (ci := 0) (v := .ref (sy_a 8)) (C := R_Symbols) (T := T_Symbols) (N := 10) hx hb hts in_Symbols hown hK hP 0 rfl rfl 8 (by decide) (hts _ t_234) (fun _ h9 => h9) rfl d_Symbols_turn_1 ?_
  refine lv_iload_n hx hb d_Symbols_turn_4 rfl (lv_at hl 1 rfl) ?_
  refine lv_bipush (v := 16) hx hb d_Symbols_turn_5 (by decide) ?_
  refine lv_imul hx hb d_Symbols_turn_7 ?_
  refine lv_iload_n hx hb d_Symbols_turn_8 rfl (lv_at hl 3 rfl) ?_
  refine lv_iadd hx hb d_Symbols_turn_9 ?_
  refine lv_dup2_11 hx hb d_Symbols_turn_10 rfl rfl ?_
  obtain ⟨h_1, hf⟩ := gd_ex hf
  refine va_iald (f := Sy_rw sy) hx hb hK hP 8 0 rfl rfl (inb_in h_1) d_Symbols_turn_11 ?_
  refine lv_iconst (v := 1) hx hb d_Symbols_turn_12 (by decide) ?_
  refine lv_iload_n hx hb d_Symbols_turn_13 rfl (lv_at hl 2 rfl) ?_
  refine lv_ishl hx hb d_Symbols_turn_14 ?_
  refine lv_ixor hx hb d_Symbols_turn_15 ?_
  obtain ⟨h_2, hf⟩ := gd_ex hf
  refine va_iast (f := Sy_rw sy) hx hb hK hP hD hS 8 0 rfl rfl (inb_in h_2) d_Symbols_turn_16 (fun H locs hP hD hS => ?_)
  obtain ⟨sy_3, esy_3, hf⟩ := lt_ex hf
  try dsimp only at hf
  have hP : va_P (dC, dI) vwCl (wSy cI cZ cJ sy_a sy_3) H := by rw [esy_3]; exact hP
  have hD : va_D A (wSy cI cZ cJ sy_a sy_3) := by rw [esy_3]; exact hD
  exact hr17 _ _ _ sy_3 hP hD hS hf
end
set_option maxHeartbeats 4000000 in
set_option maxRecDepth 100000 in
theorem k_Symbols_turn (l : Launch) (dC : Nat → ClassId) (dI : Nat → Nat → Nat) (cI cZ cJ : ClassId) (sy_a : Nat → Nat) (sz : Nat) {sy : Sy} {x1 : Int32} {x2 : Int32} {x3 : Int32} {sy' : Sy} (hf : f_Symbols_turn sy x1 x2 x3 = some sy') :
    Met l y_Symbols_turn ws_Symbols_turn ({ frames := 0, cells := 0, slots := 0, locals := 0 }) (va_Pc [.ref (sy_a 0), .int x1, .int x2, .int x3] (kP (dC, dI) vwCl (TYS cI cZ cJ) (wSy cI cZ cJ sy_a sy) sz)) (va_Qv (fun (_ : Unit) => True) (fun _ t => kQ (dC, dI) vwCl (TYS cI cZ cJ) (wSy cI cZ cJ sy_a sy) sz (wSy cI cZ cJ sy_a sy') t) (va_A (wSy cI cZ cJ sy_a sy) sz)) 0 0 (va_A (wSy cI cZ cJ sy_a sy) sz) := by
  refine Met.ofW (cc := c_Symbols_turn) (maxL := 4) (ret := none) (by decide) rfl ?_
  intro p e s m args below meth c s₁ B hml hv
  obtain ⟨rfl, hsz, hP, hK, hD0, hN⟩ := hv
  have hr := B.returns
  have hlocks := B.notSynchronized
  subst hsz
  have hD := hD0.self (sz := s.heap.size)
  have hl := lv_entry ([.ref (sy_a 0), .int x1, .int x2, .int x3]) (n := 4) (Nat.le_of_ble_eq_true rfl)
  rw [lg_entry_eq]
  generalize (lg_sl ([.ref (sy_a 0), .int x1, .int x2, .int x3]) ++ List.replicate (4 - (lg_sl ([.ref (sy_a 0), .int x1, .int x2, .int x3])).length) Slot.unset).toArray = ls at hl ⊢
  refine B_Symbols_turn (A := va_A (wSy cI cZ cJ sy_a sy) s.heap.size) ⟨B.exec, B.bytes, hml, findClass_of_methodNamed B.named, fun w h => atoms_spec (ws := ws_Symbols_turn) B.pre w (List.mem_cons_of_mem _ h), hK, fun q h => Or.inr h, Nat.le_of_ble_eq_true rfl, Nat.le_of_ble_eq_true rfl, hN, Nat.le_of_ble_eq_true rfl, Nat.le_of_ble_eq_true rfl⟩ (fun H locs ls sy'1 hP hD hS hf => ?_) hP hD va_S.rf hl hf
  · cases hf
    exact W.vret B.exec B.bytes hr (fun t ht hW => ⟨⟨(), rfl, trivial, ⟨by rw [ht]; exact hP, va_K.moved hW.alike hK, hD⟩⟩, hS.F ht⟩) hS.2.2 d_Symbols_turn_17

/-! Symbols_blackOf -/
def l_Symbols_blackOf_4 (sy : Sy) (x1 : Int32) (k32 : Int32 → Option (Int32)) : Nat → Int32 → Int32 → Option (Int32)
  | 0, _, _ => none
  | n + 1, x2, x3 => gd (inb x1 40) <| (if (Sy_ht sy x1.toNatClampNeg) ≤ x3 then k32 x2 else bd (f_Symbols_rowOf sy x1 x3) <| fun r_4 => bd (f_Integer_bitCount r_4) <| fun r_5 => lt' (x2 + r_5) <| fun x2_6 => lt' (x3 + 1) <| fun x3_7 => (l_Symbols_blackOf_4 sy x1 k32 n) x2_6 x3_7)
def f_Symbols_blackOf (sy : Sy) (x1 : Int32) : Option (Int32) := l_Symbols_blackOf_4 sy x1 (fun x2_8 => some x2_8) 100000 0 0
section
variable {p : Program} {l : Launch} {e : Env} {R : Room} {s : State} {m : MethodId} {args : Array Value} {below : List Frame} {meth : Method} {c : Code} {Q : State → Prop} {A : Nat → Prop}
set_option maxHeartbeats 4000000 in
set_option maxRecDepth 100000 in
theorem L_Symbols_blackOf_4 {cells slots : Nat} {dC : Nat → ClassId} {dI : Nat → Nat → Nat} {cI cZ cJ : ClassId} {sy_a : Nat → Nat} {sy : Sy} {x1 : Int32} {k32 : Int32 → Option (Int32)} {res : Int32} (C0 : cxt p c m s args R cells slots R_Symbols c_Symbols_blackOf tb 4 (dC, dI) vwCl (TYS cI cZ cJ) A 1 22)
    (hk32 : ∀ (H : Heap) (locs : List Loc) (ls : Array Slot) (x2_1 : Int32), va_P (dC, dI) vwCl (wSy cI cZ cJ sy_a sy) H → va_D A (wSy cI cZ cJ sy_a sy) → va_S A s.heap H locs → lv_has ls 4 [(2, .int x2_1)] → k32 x2_1 = some res → W p l e R s m args below meth c H locs cells slots Q (F0 m 32 ls [])) :
    ∀ (n : Nat) (H : Heap) (locs : List Loc) (ls : Array Slot) (x2 : Int32) (x3 : Int32), va_P (dC, dI) vwCl (wSy cI cZ cJ sy_a sy) H → va_D A (wSy cI cZ cJ sy_a sy) → va_S A s.heap H locs → lv_has ls 4 [(0, .ref (sy_a 0)), (1, .int x1), (2, .int x2), (3, .int x3)] → l_Symbols_blackOf_4 sy x1 k32 n x2 x3 = some res → W p l e R s m args below meth c H locs cells slots Q (F0 m 4 ls []) := by
  obtain ⟨hx, hb, hml, hown, hts, hK, hA, hRf, hRl, hN, hRc⟩ := id C0
  intro n
  induction n with
  | zero =>
    intro H locs ls x2 x3 hP hD hS hl hf
    exact absurd hf (by simp [l_Symbols_blackOf_4])
  | succ n ih =>
    intro H locs ls x2 x3 hP hD hS hl hf
    rw [l_Symbols_blackOf_4] at hf
    refine lv_iload_n hx hb d_Symbols_blackOf_4 rfl (lv_at hl 3 rfl) ?_
    refine lv_aload_n hx hb d_Symbols_blackOf_5 rfl (lv_at hl 0 rfl) ?_
    refine va_get (D := (dC, dI)) (ci := 0) (v := .ref (sy_a 2)) (C := R_Symbols) (T := T_Symbols) (N := 10) hx hb hts in_Symbols hown hK hP 0 rfl rfl 1 (by decide) (hts _ t_210) (fun _ h9 => h9) rfl d_Symbols_blackOf_6 ?_
    refine lv_iload_n hx hb d_Symbols_blackOf_9 rfl (lv_at hl 1 rfl) ?_
    obtain ⟨h_2, hf⟩ := gd_ex hf
    refine va_iald (f := Sy_ht sy) hx hb hK hP 2 0 rfl rfl (inb_in h_2) d_Symbols_blackOf_10 ?_
    refine lv_icmp_ge (tgt := 32) hx hb d_Symbols_blackOf_11 (by decide) (fun c_3 => ?_) (fun c_3 => ?_)
    · rw [if_pos c_3] at hf
      exact hk32 _ _ _ x2 hP hD hS (lv_sub hl [2] rfl) hf
    · rw [if_neg c_3] at hf
      refine lv_iload_n hx hb d_Symbols_blackOf_14 rfl (lv_at hl 2 rfl) ?_
      refine lv_aload_n hx hb d_Symbols_blackOf_15 rfl (lv_at hl 0 rfl) ?_
      refine lv_iload_n hx hb d_Symbols_blackOf_16 rfl (lv_at hl 1 rfl) ?_
      refine lv_iload_n hx hb d_Symbols_blackOf_17 rfl (lv_at hl 3 rfl) ?_
      obtain ⟨r_4, hf1, hf⟩ := bd_ex hf
      try dsimp only at hf
      have hPc := hP.sub (ws' := (wSy cI cZ cJ sy_a sy)) [0, 1, 2, 3, 4, 5, 6, 7, 8, 9] rfl
      have hDc := hD.sub (ws' := (wSy cI cZ cJ sy_a sy)) [0, 1, 2, 3, 4, 5, 6, 7, 8, 9] (by decide) rfl
      have hFc := va_free (wc := (wSy cI cZ cJ sy_a sy)) hD hS hA [0, 1, 2, 3, 4, 5, 6, 7, 8, 9] rfl
      refine va_calli (va_runV (As := [.int x1, .int x3]) (rest := [.int x2]) ⟨hx, hb, hml, hown, hts⟩ (k_Symbols_rowOf l dC dI cI cZ cJ sy_a H.size hf1) (cwV 2 hts (gV t_403 t_396 t_397 t_62 t_398) rfl rfl rfl hd_Symbols_rowOf ⟨Nat.le_trans (Nat.le_of_ble_eq_true rfl) hRf, Nat.le_trans (Nat.le_of_ble_eq_true rfl) hRl⟩) ⟨kP_blind, va_recv hK hP (ci := 0) (q0 := 0) rfl rfl, kP_at hPc hK hDc hN⟩ rfl rfl hl.1 rfl (lv_room (Nat.le_of_ble_eq_true rfl)) d_Symbols_blackOf_18 hRc) hS (fun q _ h => hFc q h) hFc (fun r9 u t H1 locs ht hvm hw hB hz1 hk1 hS => ?_)
      rw [hw]
      obtain ⟨hP, hD⟩ := kQ_join (wr := ([] : va_W)) (w1 := (wSy cI cZ cJ sy_a sy)) hP hD [0, 1, 2, 3, 4, 5, 6, 7, 8, 9] [] rfl rfl (by decide) (by decide) ht hk1 hFc hB
      generalize H1 = H at hP hS ⊢
      have hP : va_P (dC, dI) vwCl (wSy cI cZ cJ sy_a sy) H := hP.sub [0, 1, 2, 3, 4, 5, 6, 7, 8, 9] rfl
      have hD : va_D A (wSy cI cZ cJ sy_a sy) := hD.sub [0, 1, 2, 3, 4, 5, 6, 7, 8, 9] (by decide) rfl
      obtain ⟨r_5, hf1, hf⟩ := bd_ex hf
      try dsimp only at hf
      have hPc := hP.sub (ws' := ([] : va_W)) [] rfl
      have hDc := hD.sub (ws' := ([] : va_W)) [] (by decide) rfl
      have hFc := va_free (wc := ([] : va_W)) hD hS hA [] rfl
      refine va_calli (va_runS (As := [.int r_4]) (rest := [.int x2]) ⟨hx, hb, hml, hown, hts⟩ (k_Integer_bitCount l dC dI cI cZ cJ H.size hf1) (va_cwS 1 hts (gSo t_510 t_511 t_69 t_512) rfl rfl rfl hd_Integer_bitCount.2 ⟨Nat.le_trans (Nat.le_of_ble_eq_true rfl) hRf, Nat.le_trans (Nat.le_of_ble_eq_true rfl) hRl⟩) ⟨kP_blind, kP_at hPc hK hDc hN⟩ rfl rfl hl.1 rfl (lv_room (Nat.le_of_ble_eq_true rfl)) d_Symbols_blackOf_21 hRc) hS (fun q _ h => hFc q h) hFc (fun r9 u t H1 locs ht hvm hw hB hz1 hk1 hS => ?_)
      rw [hw]
      obtain ⟨hP, hD⟩ := kQ_join (wr := (wSy cI cZ cJ sy_a sy)) (w1 := ([] : va_W)) hP hD [] [0, 1, 2, 3, 4, 5, 6, 7, 8, 9] rfl rfl (by decide) (by decide) ht hk1 hFc hB
      generalize H1 = H at hP hS ⊢
      have hP : va_P (dC, dI) vwCl (wSy cI cZ cJ sy_a sy) H := hP.sub [0, 1, 2, 3, 4, 5, 6, 7, 8, 9] rfl
      have hD : va_D A (wSy cI cZ cJ sy_a sy) := hD.sub [0, 1, 2, 3, 4, 5, 6, 7, 8, 9] (by decide) rfl
      refine lv_iadd hx hb d_Symbols_blackOf_24 ?_
      obtain ⟨x2_6, ex2_6, hf⟩ := lt_ex hf
      try dsimp only at hf
      refine tp_i ex2_6 ?_
      refine lv_istore_n (lv' := [(2, .int x2_6), (0, .ref (sy_a 0)), (1, .int x1), (3, .int x3)]) hx hb d_Symbols_blackOf_25 rfl hl (by decide) rfl (fun ls hl => ?_)
      obtain ⟨x3_7, ex3_7, hf⟩ := lt_ex hf
      try dsimp only at hf
      refine lv_iinc (v := x3_7) (lv' := [(3, .int x3_7), (2, .int x2_6), (0, .ref (sy_a 0)), (1, .int x1)]) hx hb d_Symbols_blackOf_26 hl (k := 3) rfl (by rw [ex3_7]; rfl) (by decide) rfl (fun ls hl => ?_)
      refine lv_goto (tgt := 4) hx hb d_Symbols_blackOf_29 (by decide) ?_
      exact ih _ _ _ x2_6 x3_7 hP hD hS (lv_sub hl [2, 3, 1, 0] rfl) hf
set_option maxHeartbeats 4000000 in
set_option maxRecDepth 100000 in
theorem B_Symbols_blackOf {cells slots : Nat} {dC : Nat → ClassId} {dI : Nat → Nat → Nat} {cI cZ cJ : ClassId} {sy_a : Nat → Nat} {sy : Sy} {x1 : Int32} {res : Int32} (C0 : cxt p c m s args R cells slots R_Symbols c_Symbols_blackOf tb 4 (dC, dI) vwCl (TYS cI cZ cJ) A 1 22)
    (hr33 : ∀ (H : Heap) (locs : List Loc) (ls : Array Slot) (v : Int32), va_P (dC, dI) vwCl (wSy cI cZ cJ sy_a sy) H → va_D A (wSy cI cZ cJ sy_a sy) → va_S A s.heap H locs → some v = some res → W p l e R s m args below meth c H locs cells slots Q (F0 m 33 ls [.int v]))
    {H : Heap} {locs : List Loc} {ls : Array Slot} (hP : va_P (dC, dI) vwCl (wSy cI cZ cJ sy_a sy) H) (hD : va_D A (wSy cI cZ cJ sy_a sy)) (hS : va_S A s.heap H locs) (hl : lv_has ls 4 [(0, .ref (sy_a 0)), (1, .int x1)]) (hf : f_Symbols_blackOf sy x1 = some res) : W p l e R s m args below meth c H locs cells slots Q (F0 m 0 ls []) := by
  obtain ⟨hx, hb, hml, hown, hts, hK, hA, hRf, hRl, hN, hRc⟩ := id C0
  rw [f_Symbols_blackOf] at hf
  refine lv_iconst (v := 0) hx hb d_Symbols_blackOf_0 (by decide) ?_
  refine lv_istore_n (lv' := [(2, .int 0), (0, .ref (sy_a 0)), (1, .int x1)]) hx hb d_Symbols_blackOf_1 rfl hl (by decide) rfl (fun ls hl => ?_)
  refine lv_iconst (v := 0) hx hb d_Symbols_blackOf_2 (by decide) ?_
  refine lv_istore_n (lv' := [(3, .int 0), (2, .int 0), (0, .ref (sy_a 0)), (1, .int x1)]) hx hb d_Symbols_blackOf_3 rfl hl (by decide) rfl (fun ls hl => ?_)
  refine L_Symbols_blackOf_4 C0 (fun H locs ls x2_8 hP hD hS hl hf => ?_) 100000 _ _ _ 0 0 hP hD hS (lv_sub hl [2, 3, 1, 0] rfl) hf
  try dsimp only at hf
  refine lv_iload_n hx hb d_Symbols_blackOf_32 rfl (lv_at hl 0 rfl) ?_
  exact hr33 _ _ _ x2_8 hP hD hS hf
end
set_option maxHeartbeats 4000000 in
set_option maxRecDepth 100000 in
theorem k_Symbols_blackOf (l : Launch) (dC : Nat → ClassId) (dI : Nat → Nat → Nat) (cI cZ cJ : ClassId) (sy_a : Nat → Nat) (sz : Nat) {sy : Sy} {x1 : Int32} {r : Int32} (hf : f_Symbols_blackOf sy x1 = some r) :
    Met l y_Symbols_blackOf ws_Symbols_blackOf ({ frames := 1, cells := 0, slots := 0, locals := 22 }) (va_Pc [.ref (sy_a 0), .int x1] (kP (dC, dI) vwCl (TYS cI cZ cJ) (wSy cI cZ cJ sy_a sy) sz)) (va_Qi (fun (q : Int32) (_ : Unit) => q = r) (fun _ t => kQ (dC, dI) vwCl (TYS cI cZ cJ) (wSy cI cZ cJ sy_a sy) sz (wSy cI cZ cJ sy_a sy) t) (va_A (wSy cI cZ cJ sy_a sy) sz)) 0 0 (va_A (wSy cI cZ cJ sy_a sy) sz) := by
  refine Met.ofW (cc := c_Symbols_blackOf) (maxL := 4) (ret := (some .int)) (by decide) rfl ?_
  intro p e s m args below meth c s₁ B hml hv
  obtain ⟨rfl, hsz, hP, hK, hD0, hN⟩ := hv
  have hr := B.returns
  have hlocks := B.notSynchronized
  subst hsz
  have hD := hD0.self (sz := s.heap.size)
  have hl := lv_entry ([.ref (sy_a 0), .int x1]) (n := 4) (Nat.le_of_ble_eq_true rfl)
  rw [lg_entry_eq]
  generalize (lg_sl ([.ref (sy_a 0), .int x1]) ++ List.replicate (4 - (lg_sl ([.ref (sy_a 0), .int x1])).length) Slot.unset).toArray = ls at hl ⊢
  refine B_Symbols_blackOf (A := va_A (wSy cI cZ cJ sy_a sy) s.heap.size) ⟨B.exec, B.bytes, hml, findClass_of_methodNamed B.named, fun w h => atoms_spec (ws := ws_Symbols_blackOf) B.pre w (List.mem_cons_of_mem _ h), hK, fun q h => Or.inr h, Nat.le_of_ble_eq_true rfl, Nat.le_of_ble_eq_true rfl, hN, Nat.le_of_ble_eq_true rfl, Nat.le_of_ble_eq_true rfl⟩ (fun H locs ls v hP hD hS hf => ?_) hP hD va_S.rf hl hf
  · cases hf
    exact W.iret B.exec B.bytes hr (fun t ht hW => ⟨⟨_, (), rfl, rfl, ⟨by rw [ht]; exact hP, va_K.moved hW.alike hK, hD⟩⟩, hS.F ht⟩) hS.2.2 d_Symbols_blackOf_33

/-! Symbols_foretoldRow -/
def j_Symbols_foretoldRow_78_13 (sy : Sy) (x1 : Int32) (z0_12 : Int32) : Option (Int32) := bd (f_Symbols_withinWidth sy x1 z0_12) <| fun r_14 => some r_14
def f_Symbols_foretoldRow (sy : Sy) (x1 : Int32) (x2 : Int32) : Option (Int32) := gd (inb x1 40) <| lt' (Sy_bs sy x1.toNatClampNeg) <| fun x3_2 => (if x3_2 = (-1) then some 0 else gd (inb x1 40) <| lt' (x2 - (Sy_dy sy x1.toNatClampNeg)) <| fun x4_5 => (if x4_5 < 0 then some 0 else gd (inb x3_2 40) <| (if x4_5 < (Sy_ht sy x3_2.toNatClampNeg) then bd (f_Symbols_rowOf sy x3_2 x4_5) <| fun r_9 => gd (inb x1 40) <| lt' (Sy_dx sy x1.toNatClampNeg) <| fun x6_11 => (if x6_11 < 0 then j_Symbols_foretoldRow_78_13 sy x1 (r_9 >>> ((-x6_11) &&& 31)) else j_Symbols_foretoldRow_78_13 sy x1 (r_9 <<< (x6_11 &&& 31))) else some 0)))
section
variable {p : Program} {l : Launch} {e : Env} {R : Room} {s : State} {m : MethodId} {args : Array Value} {below : List Frame} {meth : Method} {c : Code} {Q : State → Prop} {A : Nat → Prop}
set_option maxHeartbeats 4000000 in
set_option maxRecDepth 100000 in
theorem B_Symbols_foretoldRow {cells slots : Nat} {dC : Nat → ClassId} {dI : Nat → Nat → Nat} {cI cZ cJ : ClassId} {sy_a : Nat → Nat} {sy : Sy} {x1 : Int32} {x2 : Int32} {res : Int32} (C0 : cxt p c m s args R cells slots R_Symbols c_Symbols_foretoldRow tb 8 (dC, dI) vwCl (TYS cI cZ cJ) A 1 22)
    (hr13 : ∀ (H : Heap) (locs : List Loc) (ls : Array Slot) (v : Int32), va_P (dC, dI) vwCl (wSy cI cZ cJ sy_a sy) H → va_D A (wSy cI cZ cJ sy_a sy) → va_S A s.heap H locs → some v = some res → W p l e R s m args below meth c H locs cells slots Q (F0 m 13 ls [.int v]))
    (hr41 : ∀ (H : Heap) (locs : List Loc) (ls : Array Slot) (v : Int32), va_P (dC, dI) vwCl (wSy cI cZ cJ sy_a sy) H → va_D A (wSy cI cZ cJ sy_a sy) → va_S A s.heap H locs → some v = some res → W p l e R s m args below meth c H locs cells slots Q (F0 m 41 ls [.int v]))
    (hr87 : ∀ (H : Heap) (locs : List Loc) (ls : Array Slot) (v : Int32), va_P (dC, dI) vwCl (wSy cI cZ cJ sy_a sy) H → va_D A (wSy cI cZ cJ sy_a sy) → va_S A s.heap H locs → some v = some res → W p l e R s m args below meth c H locs cells slots Q (F0 m 87 ls [.int v]))
    {H : Heap} {locs : List Loc} {ls : Array Slot} (hP : va_P (dC, dI) vwCl (wSy cI cZ cJ sy_a sy) H) (hD : va_D A (wSy cI cZ cJ sy_a sy)) (hS : va_S A s.heap H locs) (hl : lv_has ls 8 [(0, .ref (sy_a 0)), (1, .int x1), (2, .int x2)]) (hf : f_Symbols_foretoldRow sy x1 x2 = some res) : W p l e R s m args below meth c H locs cells slots Q (F0 m 0 ls []) := by
  obtain ⟨hx, hb, hml, hown, hts, hK, hA, hRf, hRl, hN, hRc⟩ := id C0
  rw [f_Symbols_foretoldRow] at hf
  refine lv_aload_n hx hb d_Symbols_foretoldRow_0 rfl (lv_at hl 0 rfl) ?_
  refine va_get (D := (dC, dI)) (ci := 0) (v := .ref (sy_a 4)) (C := R_Symbols) (T := T_Symbols) (N := 10) hx hb hts in_Symbols hown hK hP 0 rfl rfl 3 (by decide) (hts _ t_218) (fun _ h9 => h9) rfl d_Symbols_foretoldRow_1 ?_
  refine lv_iload_n hx hb d_Symbols_foretoldRow_4 rfl (lv_at hl 1 rfl) ?_
  obtain ⟨h_1, hf⟩ := gd_ex hf
  refine va_iald (f := Sy_bs sy) hx hb hK hP 4 0 rfl rfl (inb_in h_1) d_Symbols_foretoldRow_5 ?_
  obtain ⟨x3_2, ex3_2, hf⟩ := lt_ex hf
  try dsimp only at hf
  refine tp_i ex3_2 ?_
  refine lv_istore_n (lv' := [(3, .int x3_2), (0, .ref (sy_a 0)), (1, .int x1), (2, .int x2)]) hx hb d_Symbols_foretoldRow_6 rfl hl (by decide) rfl (fun ls hl => ?_)
  refine lv_iload_n hx hb d_Symbols_foretoldRow_7 rfl (lv_at hl 0 rfl) ?_
  refine lv_iconst (v := (-1)) hx hb d_Symbols_foretoldRow_8 (by decide) ?_
  refine lv_icmp_ne (tgt := 14) hx hb d_Symbols_foretoldRow_9 (by decide) (fun c_3 => ?_) (fun c_3 => ?_)
  · rw [if_neg c_3] at hf
    refine lv_iload_n hx hb d_Symbols_foretoldRow_14 rfl (lv_at hl 3 rfl) ?_
    refine lv_aload_n hx hb d_Symbols_foretoldRow_15 rfl (lv_at hl 1 rfl) ?_
    refine va_get (D := (dC, dI)) (ci := 0) (v := .ref (sy_a 6)) (C := R_Symbols) (T := T_Symbols) (N := 10) hx hb hts in_Symbols hown hK hP 0 rfl rfl 5 (by decide) (hts _ t_225) (fun _ h9 => h9) rfl d_Symbols_foretoldRow_16 ?_
    refine lv_iload_n hx hb d_Symbols_foretoldRow_19 rfl (lv_at hl 2 rfl) ?_
    obtain ⟨h_4, hf⟩ := gd_ex hf
    refine va_iald (f := Sy_dy sy) hx hb hK hP 6 0 rfl rfl (inb_in h_4) d_Symbols_foretoldRow_20 ?_
    refine lv_isub hx hb d_Symbols_foretoldRow_21 ?_
    obtain ⟨x4_5, ex4_5, hf⟩ := lt_ex hf
    try dsimp only at hf
    refine tp_i ex4_5 ?_
    refine lv_istore (lv' := [(4, .int x4_5), (3, .int x3_2), (0, .ref (sy_a 0)), (1, .int x1), (2, .int x2)]) hx hb d_Symbols_foretoldRow_22 hl (by decide) rfl (fun ls hl => ?_)
    refine lv_iload hx hb d_Symbols_foretoldRow_24 (lv_at hl 0 rfl) ?_
    refine lv_if_lt (tgt := 40) hx hb d_Symbols_foretoldRow_26 (by decide) (fun c_6 => ?_) (fun c_6 => ?_)
    · rw [if_pos c_6] at hf
      refine lv_iconst (v := 0) hx hb d_Symbols_foretoldRow_40 (by decide) ?_
      exact hr41 _ _ _ 0 hP hD hS hf
    · rw [if_neg c_6] at hf
      refine lv_iload hx hb d_Symbols_foretoldRow_29 (lv_at hl 0 rfl) ?_
      refine lv_aload_n hx hb d_Symbols_foretoldRow_31 rfl (lv_at hl 2 rfl) ?_
      refine va_get (D := (dC, dI)) (ci := 0) (v := .ref (sy_a 2)) (C := R_Symbols) (T := T_Symbols) (N := 10) hx hb hts in_Symbols hown hK hP 0 rfl rfl 1 (by decide) (hts _ t_210) (fun _ h9 => h9) rfl d_Symbols_foretoldRow_32 ?_
      refine lv_iload_n hx hb d_Symbols_foretoldRow_35 rfl (lv_at hl 1 rfl) ?_
      obtain ⟨h_7, hf⟩ := gd_ex hf
      refine va_iald (f := Sy_ht sy) hx hb hK hP 2 0 rfl rfl (inb_in h_7) d_Symbols_foretoldRow_36 ?_
      refine lv_icmp_lt (tgt := 42) hx hb d_Symbols_foretoldRow_37 (by decide) (fun c_8 => ?_) (fun c_8 => ?_)
      · rw [if_pos c_8] at hf
        refine lv_aload_n hx hb d_Symbols_foretoldRow_42 rfl (lv_at hl 2 rfl) ?_
        refine lv_iload_n hx hb d_Symbols_foretoldRow_43 rfl (lv_at hl 1 rfl) ?_
        refine lv_iload hx hb d_Symbols_foretoldRow_44 (lv_at hl 0 rfl) ?_
        obtain ⟨r_9, hf1, hf⟩ := bd_ex hf
        try dsimp only at hf
        have hPc := hP.sub (ws' := (wSy cI cZ cJ sy_a sy)) [0, 1, 2, 3, 4, 5, 6, 7, 8, 9] rfl
        have hDc := hD.sub (ws' := (wSy cI cZ cJ sy_a sy)) [0, 1, 2, 3, 4, 5, 6, 7, 8, 9] (by decide) rfl
        have hFc := va_free (wc := (wSy cI cZ cJ sy_a sy)) hD hS hA [0, 1, 2, 3, 4, 5, 6, 7, 8, 9] rfl
        refine va_calli (va_runV (As := [.int x3_2, .int x4_5]) (rest := []) ⟨hx, hb, hml, hown, hts⟩ (k_Symbols_rowOf l dC dI cI cZ cJ sy_a H.size hf1) (cwV 2 hts (gV t_403 t_396 t_397 t_62 t_398) rfl rfl rfl hd_Symbols_rowOf ⟨Nat.le_trans (Nat.le_of_ble_eq_true rfl) hRf, Nat.le_trans (Nat.le_of_ble_eq_true rfl) hRl⟩) ⟨kP_blind, va_recv hK hP (ci := 0) (q0 := 0) rfl rfl, kP_at hPc hK hDc hN⟩ rfl rfl hl.1 rfl (lv_room (Nat.le_of_ble_eq_true rfl)) d_Symbols_foretoldRow_46 hRc) hS (fun q _ h => hFc q h) hFc (fun r9 u t H1 locs ht hvm hw hB hz1 hk1 hS => ?_)
        rw [hw]
        obtain ⟨hP, hD⟩ := kQ_join (wr := ([] : va_W)) (w1 := (wSy cI cZ cJ sy_a sy)) hP hD [0, 1, 2, 3, 4, 5, 6, 7, 8, 9] [] rfl rfl (by decide) (by decide) ht hk1 hFc hB
        generalize H1 = H at hP hS ⊢
        have hP : va_P (dC, dI) vwCl (wSy cI cZ cJ sy_a sy) H := hP.sub [0, 1, 2, 3, 4, 5, 6, 7, 8, 9] rfl
        have hD : va_D A (wSy cI cZ cJ sy_a sy) := hD.sub [0, 1, 2, 3, 4, 5, 6, 7, 8, 9] (by decide) rfl
        refine lv_istore (lv' := [(5, .int r_9), (4, .int x4_5), (3, .int x3_2), (0, .ref (sy_a 0)), (1, .int x1), (2, .int x2)]) hx hb d_Symbols_foretoldRow_49 hl (by decide) rfl (fun ls hl => ?_)
        refine lv_aload_n hx hb d_Symbols_foretoldRow_51 rfl (lv_at hl 3 rfl) ?_
        refine va_get (D := (dC, dI)) (ci := 0) (v := .ref (sy_a 5)) (C := R_Symbols) (T := T_Symbols) (N := 10) hx hb hts in_Symbols hown hK hP 0 rfl rfl 4 (by decide) (hts _ t_222) (fun _ h9 => h9) rfl d_Symbols_foretoldRow_52 ?_
        refine lv_iload_n hx hb d_Symbols_foretoldRow_55 rfl (lv_at hl 4 rfl) ?_
        obtain ⟨h_10, hf⟩ := gd_ex hf
        refine va_iald (f := Sy_dx sy) hx hb hK hP 5 0 rfl rfl (inb_in h_10) d_Symbols_foretoldRow_56 ?_
        obtain ⟨x6_11, ex6_11, hf⟩ := lt_ex hf
        try dsimp only at hf
        refine tp_i ex6_11 ?_
        refine lv_istore (lv' := [(6, .int x6_11), (5, .int r_9), (4, .int x4_5), (3, .int x3_2), (0, .ref (sy_a 0)), (1, .int x1), (2, .int x2)]) hx hb d_Symbols_foretoldRow_57 hl (by decide) rfl (fun ls hl => ?_)
        refine lv_iload hx hb d_Symbols_foretoldRow_59 (lv_at hl 0 rfl) ?_
        have J78_12 : ∀ (H : Heap) (locs : List Loc) (ls : Array Slot) (z0_12 : Int32), va_P (dC, dI) vwCl (wSy cI cZ cJ sy_a sy) H → va_D A (wSy cI cZ cJ sy_a sy) → va_S A s.heap H locs → lv_has ls 8 [(0, .ref (sy_a 0)), (1, .int x1)] → j_Symbols_foretoldRow_78_13 sy x1 z0_12 = some res → W p l e R s m args below meth c H locs cells slots Q (F0 m 78 ls [.int z0_12]) := by
          intro H locs ls z0_12 hP hD hS hl hf
          rw [j_Symbols_foretoldRow_78_13] at hf
          refine lv_istore (lv' := [(7, .int z0_12), (0, .ref (sy_a 0)), (1, .int x1)]) hx hb d_Symbols_foretoldRow_78 hl (by decide) rfl (fun ls hl => ?_)
          refine lv_aload_n hx hb d_Symbols_foretoldRow_80 rfl (lv_at hl 1 rfl) ?_
          refine lv_iload_n hx hb d_Symbols_foretoldRow_81 rfl (lv_at hl 2 rfl) ?_
          refine lv_iload hx hb d_Symbols_foretoldRow_82 (lv_at hl 0 rfl) ?_
          obtain ⟨r_14, hf1, hf⟩ := bd_ex hf
          try dsimp only at hf
          have hPc := hP.sub (ws' := (wSy cI cZ cJ sy_a sy)) [0, 1, 2, 3, 4, 5, 6, 7, 8, 9] rfl
          have hDc := hD.sub (ws' := (wSy cI cZ cJ sy_a sy)) [0, 1, 2, 3, 4, 5, 6, 7, 8, 9] (by decide) rfl
          have hFc := va_free (wc := (wSy cI cZ cJ sy_a sy)) hD hS hA [0, 1, 2, 3, 4, 5, 6, 7, 8, 9] rfl
          refine va_calli (va_runV (As := [.int x1, .int z0_12]) (rest := []) ⟨hx, hb, hml, hown, hts⟩ (k_Symbols_withinWidth l dC dI cI cZ cJ sy_a H.size hf1) (cwV 2 hts (gV t_404 t_406 t_8 t_62 t_407) rfl rfl rfl hd_Symbols_withinWidth ⟨Nat.le_trans (Nat.le_of_ble_eq_true rfl) hRf, Nat.le_trans (Nat.le_of_ble_eq_true rfl) hRl⟩) ⟨kP_blind, va_recv hK hP (ci := 0) (q0 := 0) rfl rfl, kP_at hPc hK hDc hN⟩ rfl rfl hl.1 rfl (lv_room (Nat.le_of_ble_eq_true rfl)) d_Symbols_foretoldRow_84 hRc) hS (fun q _ h => hFc q h) hFc (fun r9 u t H1 locs ht hvm hw hB hz1 hk1 hS => ?_)
          rw [hw]
          obtain ⟨hP, hD⟩ := kQ_join (wr := ([] : va_W)) (w1 := (wSy cI cZ cJ sy_a sy)) hP hD [0, 1, 2, 3, 4, 5, 6, 7, 8, 9] [] rfl rfl (by decide) (by decide) ht hk1 hFc hB
          generalize H1 = H at hP hS ⊢
          have hP : va_P (dC, dI) vwCl (wSy cI cZ cJ sy_a sy) H := hP.sub [0, 1, 2, 3, 4, 5, 6, 7, 8, 9] rfl
          have hD : va_D A (wSy cI cZ cJ sy_a sy) := hD.sub [0, 1, 2, 3, 4, 5, 6, 7, 8, 9] (by decide) rfl
          exact hr87 _ _ _ r_14 hP hD hS hf
        refine lv_if_lt (tgt := 72) hx hb d_Symbols_foretoldRow_61 (by decide) (fun c_15 => ?_) (fun c_15 => ?_)
        · rw [if_pos c_15] at hf
          refine lv_iload hx hb d_Symbols_foretoldRow_72 (lv_at hl 1 rfl) ?_
          refine lv_iload hx hb d_Symbols_foretoldRow_74 (lv_at hl 0 rfl) ?_
          refine lv_ineg hx hb d_Symbols_foretoldRow_76 ?_
          refine lv_ishr hx hb d_Symbols_foretoldRow_77 ?_
          exact J78_12 _ _ _ (r_9 >>> ((-x6_11) &&& 31)) hP hD hS (lv_sub hl [4, 5] rfl) hf
        · rw [if_neg c_15] at hf
          refine lv_iload hx hb d_Symbols_foretoldRow_64 (lv_at hl 1 rfl) ?_
          refine lv_iload hx hb d_Symbols_foretoldRow_66 (lv_at hl 0 rfl) ?_
          refine lv_ishl hx hb d_Symbols_foretoldRow_68 ?_
          refine lv_goto (tgt := 78) hx hb d_Symbols_foretoldRow_69 (by decide) ?_
          exact J78_12 _ _ _ (r_9 <<< (x6_11 &&& 31)) hP hD hS (lv_sub hl [4, 5] rfl) hf
      · rw [if_neg c_8] at hf
        refine lv_iconst (v := 0) hx hb d_Symbols_foretoldRow_40 (by decide) ?_
        exact hr41 _ _ _ 0 hP hD hS hf
  · rw [if_pos c_3] at hf
    refine lv_iconst (v := 0) hx hb d_Symbols_foretoldRow_12 (by decide) ?_
    exact hr13 _ _ _ 0 hP hD hS hf
end
set_option maxHeartbeats 4000000 in
set_option maxRecDepth 100000 in
theorem k_Symbols_foretoldRow (l : Launch) (dC : Nat → ClassId) (dI : Nat → Nat → Nat) (cI cZ cJ : ClassId) (sy_a : Nat → Nat) (sz : Nat) {sy : Sy} {x1 : Int32} {x2 : Int32} {r : Int32} (hf : f_Symbols_foretoldRow sy x1 x2 = some r) :
    Met l y_Symbols_foretoldRow ws_Symbols_foretoldRow ({ frames := 1, cells := 0, slots := 0, locals := 22 }) (va_Pc [.ref (sy_a 0), .int x1, .int x2] (kP (dC, dI) vwCl (TYS cI cZ cJ) (wSy cI cZ cJ sy_a sy) sz)) (va_Qi (fun (q : Int32) (_ : Unit) => q = r) (fun _ t => kQ (dC, dI) vwCl (TYS cI cZ cJ) (wSy cI cZ cJ sy_a sy) sz (wSy cI cZ cJ sy_a sy) t) (va_A (wSy cI cZ cJ sy_a sy) sz)) 0 0 (va_A (wSy cI cZ cJ sy_a sy) sz) := by
  refine Met.ofW (cc := c_Symbols_foretoldRow) (maxL := 8) (ret := (some .int)) (by decide) rfl ?_
  intro p e s m args below meth c s₁ B hml hv
  obtain ⟨rfl, hsz, hP, hK, hD0, hN⟩ := hv
  have hr := B.returns
  have hlocks := B.notSynchronized
  subst hsz
  have hD := hD0.self (sz := s.heap.size)
  have hl := lv_entry ([.ref (sy_a 0), .int x1, .int x2]) (n := 8) (Nat.le_of_ble_eq_true rfl)
  rw [lg_entry_eq]
  generalize (lg_sl ([.ref (sy_a 0), .int x1, .int x2]) ++ List.replicate (8 - (lg_sl ([.ref (sy_a 0), .int x1, .int x2])).length) Slot.unset).toArray = ls at hl ⊢
  refine B_Symbols_foretoldRow (A := va_A (wSy cI cZ cJ sy_a sy) s.heap.size) ⟨B.exec, B.bytes, hml, findClass_of_methodNamed B.named, fun w h => atoms_spec (ws := ws_Symbols_foretoldRow) B.pre w (List.mem_cons_of_mem _ h), hK, fun q h => Or.inr h, Nat.le_of_ble_eq_true rfl, Nat.le_of_ble_eq_true rfl, hN, Nat.le_of_ble_eq_true rfl, Nat.le_of_ble_eq_true rfl⟩ (fun H locs ls v hP hD hS hf => ?_) (fun H locs ls v hP hD hS hf => ?_) (fun H locs ls v hP hD hS hf => ?_) hP hD va_S.rf hl hf
  · cases hf
    exact W.iret B.exec B.bytes hr (fun t ht hW => ⟨⟨_, (), rfl, rfl, ⟨by rw [ht]; exact hP, va_K.moved hW.alike hK, hD⟩⟩, hS.F ht⟩) hS.2.2 d_Symbols_foretoldRow_13
  · cases hf
    exact W.iret B.exec B.bytes hr (fun t ht hW => ⟨⟨_, (), rfl, rfl, ⟨by rw [ht]; exact hP, va_K.moved hW.alike hK, hD⟩⟩, hS.F ht⟩) hS.2.2 d_Symbols_foretoldRow_41
  · cases hf
    exact W.iret B.exec B.bytes hr (fun t ht hW => ⟨⟨_, (), rfl, rfl, ⟨by rw [ht]; exact hP, va_K.moved hW.alike hK, hD⟩⟩, hS.F ht⟩) hS.2.2 d_Symbols_foretoldRow_87

/-! Symbols_comesBefore -/
def f_Symbols_comesBefore (sy : Sy) (x1 : Int32) (x2 : Int32) : Option (Int32) := gd (inb x1 40) <| gd (inb x2 40) <| (if (Sy_ht sy x1.toNatClampNeg) = (Sy_ht sy x2.toNatClampNeg) then gd (inb x1 40) <| gd (inb x2 40) <| (if (Sy_wd sy x1.toNatClampNeg) = (Sy_wd sy x2.toNatClampNeg) then (if x2 ≤ x1 then some 0 else some 1) else gd (inb x1 40) <| gd (inb x2 40) <| (if (Sy_wd sy x2.toNatClampNeg) ≤ (Sy_wd sy x1.toNatClampNeg) then some 0 else some 1)) else gd (inb x1 40) <| gd (inb x2 40) <| (if (Sy_ht sy x2.toNatClampNeg) ≤ (Sy_ht sy x1.toNatClampNeg) then some 0 else some 1))
section
variable {p : Program} {l : Launch} {e : Env} {R : Room} {s : State} {m : MethodId} {args : Array Value} {below : List Frame} {meth : Method} {c : Code} {Q : State → Prop} {A : Nat → Prop}
set_option maxHeartbeats 4000000 in
set_option maxRecDepth 100000 in
theorem B_Symbols_comesBefore {cells slots : Nat} {dC : Nat → ClassId} {dI : Nat → Nat → Nat} {cI cZ cJ : ClassId} {sy_a : Nat → Nat} {sy : Sy} {x1 : Int32} {x2 : Int32} {res : Int32} (C0 : cxt p c m s args R cells slots R_Symbols c_Symbols_comesBefore tb 3 (dC, dI) vwCl (TYS cI cZ cJ) A 0 0)
    (hr35 : ∀ (H : Heap) (locs : List Loc) (ls : Array Slot) (v : Int32), vp_nar .boolean v = v → va_P (dC, dI) vwCl (wSy cI cZ cJ sy_a sy) H → va_D A (wSy cI cZ cJ sy_a sy) → va_S A s.heap H locs → some v = some res → W p l e R s m args below meth c H locs cells slots Q (F0 m 35 ls [.int v]))
    (hr71 : ∀ (H : Heap) (locs : List Loc) (ls : Array Slot) (v : Int32), vp_nar .boolean v = v → va_P (dC, dI) vwCl (wSy cI cZ cJ sy_a sy) H → va_D A (wSy cI cZ cJ sy_a sy) → va_S A s.heap H locs → some v = some res → W p l e R s m args below meth c H locs cells slots Q (F0 m 71 ls [.int v]))
    (hr82 : ∀ (H : Heap) (locs : List Loc) (ls : Array Slot) (v : Int32), vp_nar .boolean v = v → va_P (dC, dI) vwCl (wSy cI cZ cJ sy_a sy) H → va_D A (wSy cI cZ cJ sy_a sy) → va_S A s.heap H locs → some v = some res → W p l e R s m args below meth c H locs cells slots Q (F0 m 82 ls [.int v]))
    {H : Heap} {locs : List Loc} {ls : Array Slot} (hP : va_P (dC, dI) vwCl (wSy cI cZ cJ sy_a sy) H) (hD : va_D A (wSy cI cZ cJ sy_a sy)) (hS : va_S A s.heap H locs) (hl : lv_has ls 3 [(0, .ref (sy_a 0)), (1, .int x1), (2, .int x2)]) (hf : f_Symbols_comesBefore sy x1 x2 = some res) : W p l e R s m args below meth c H locs cells slots Q (F0 m 0 ls []) := by
  obtain ⟨hx, hb, hml, hown, hts, hK, hA, hRf, hRl, hN, hRc⟩ := id C0
  rw [f_Symbols_comesBefore] at hf
  refine lv_aload_n hx hb d_Symbols_comesBefore_0 rfl (lv_at hl 0 rfl) ?_
  refine va_get (D := (dC, dI)) (ci := 0) (v := .ref (sy_a 2)) (C := R_Symbols) (T := T_Symbols) (N := 10) hx hb hts in_Symbols hown hK hP 0 rfl rfl 1 (by decide) (hts _ t_210) (fun _ h9 => h9) rfl d_Symbols_comesBefore_1 ?_
  refine lv_iload_n hx hb d_Symbols_comesBefore_4 rfl (lv_at hl 1 rfl) ?_
  obtain ⟨h_1, hf⟩ := gd_ex hf
  refine va_iald (f := Sy_ht sy) hx hb hK hP 2 0 rfl rfl (inb_in h_1) d_Symbols_comesBefore_5 ?_
  refine lv_aload_n hx hb d_Symbols_comesBefore_6 rfl (lv_at hl 0 rfl) ?_
  refine va_get (D := (dC, dI)) (ci := 0) (v := .ref (sy_a 2)) (C := R_Symbols) (T := T_Symbols) (N := 10) hx hb hts in_Symbols hown hK hP 0 rfl rfl 1 (by decide) (hts _ t_210) (fun _ h9 => h9) rfl d_Symbols_comesBefore_7 ?_
  refine lv_iload_n hx hb d_Symbols_comesBefore_10 rfl (lv_at hl 2 rfl) ?_
  obtain ⟨h_2, hf⟩ := gd_ex hf
  refine va_iald (f := Sy_ht sy) hx hb hK hP 2 0 rfl rfl (inb_in h_2) d_Symbols_comesBefore_11 ?_
  refine lv_icmp_eq (tgt := 36) hx hb d_Symbols_comesBefore_12 (by decide) (fun c_3 => ?_) (fun c_3 => ?_)
  · rw [if_pos c_3] at hf
    refine lv_aload_n hx hb d_Symbols_comesBefore_36 rfl (lv_at hl 0 rfl) ?_
    refine va_get (D := (dC, dI)) (ci := 0) (v := .ref (sy_a 1)) (C := R_Symbols) (T := T_Symbols) (N := 10) hx hb hts in_Symbols hown hK hP 0 rfl rfl 0 (by decide) (hts _ t_206) (fun _ h9 => h9) rfl d_Symbols_comesBefore_37 ?_
    refine lv_iload_n hx hb d_Symbols_comesBefore_40 rfl (lv_at hl 1 rfl) ?_
    obtain ⟨h_4, hf⟩ := gd_ex hf
    refine va_iald (f := Sy_wd sy) hx hb hK hP 1 0 rfl rfl (inb_in h_4) d_Symbols_comesBefore_41 ?_
    refine lv_aload_n hx hb d_Symbols_comesBefore_42 rfl (lv_at hl 0 rfl) ?_
    refine va_get (D := (dC, dI)) (ci := 0) (v := .ref (sy_a 1)) (C := R_Symbols) (T := T_Symbols) (N := 10) hx hb hts in_Symbols hown hK hP 0 rfl rfl 0 (by decide) (hts _ t_206) (fun _ h9 => h9) rfl d_Symbols_comesBefore_43 ?_
    refine lv_iload_n hx hb d_Symbols_comesBefore_46 rfl (lv_at hl 2 rfl) ?_
    obtain ⟨h_5, hf⟩ := gd_ex hf
    refine va_iald (f := Sy_wd sy) hx hb hK hP 1 0 rfl rfl (inb_in h_5) d_Symbols_comesBefore_47 ?_
    refine lv_icmp_eq (tgt := 72) hx hb d_Symbols_comesBefore_48 (by decide) (fun c_6 => ?_) (fun c_6 => ?_)
    · rw [if_pos c_6] at hf
      refine lv_iload_n hx hb d_Symbols_comesBefore_72 rfl (lv_at hl 1 rfl) ?_
      refine lv_iload_n hx hb d_Symbols_comesBefore_73 rfl (lv_at hl 2 rfl) ?_
      refine lv_icmp_ge (tgt := 81) hx hb d_Symbols_comesBefore_74 (by decide) (fun c_7 => ?_) (fun c_7 => ?_)
      · rw [if_pos c_7] at hf
        refine lv_iconst (v := 0) hx hb d_Symbols_comesBefore_81 (by decide) ?_
        exact hr82 _ _ _ 0 (by decide) hP hD hS hf
      · rw [if_neg c_7] at hf
        refine lv_iconst (v := 1) hx hb d_Symbols_comesBefore_77 (by decide) ?_
        refine lv_goto (tgt := 82) hx hb d_Symbols_comesBefore_78 (by decide) ?_
        exact hr82 _ _ _ 1 (by decide) hP hD hS hf
    · rw [if_neg c_6] at hf
      refine lv_aload_n hx hb d_Symbols_comesBefore_51 rfl (lv_at hl 0 rfl) ?_
      refine va_get (D := (dC, dI)) (ci := 0) (v := .ref (sy_a 1)) (C := R_Symbols) (T := T_Symbols) (N := 10) hx hb hts in_Symbols hown hK hP 0 rfl rfl 0 (by decide) (hts _ t_206) (fun _ h9 => h9) rfl d_Symbols_comesBefore_52 ?_
      refine lv_iload_n hx hb d_Symbols_comesBefore_55 rfl (lv_at hl 1 rfl) ?_
      obtain ⟨h_8, hf⟩ := gd_ex hf
      refine va_iald (f := Sy_wd sy) hx hb hK hP 1 0 rfl rfl (inb_in h_8) d_Symbols_comesBefore_56 ?_
      refine lv_aload_n hx hb d_Symbols_comesBefore_57 rfl (lv_at hl 0 rfl) ?_
      refine va_get (D := (dC, dI)) (ci := 0) (v := .ref (sy_a 1)) (C := R_Symbols) (T := T_Symbols) (N := 10) hx hb hts in_Symbols hown hK hP 0 rfl rfl 0 (by decide) (hts _ t_206) (fun _ h9 => h9) rfl d_Symbols_comesBefore_58 ?_
      refine lv_iload_n hx hb d_Symbols_comesBefore_61 rfl (lv_at hl 2 rfl) ?_
      obtain ⟨h_9, hf⟩ := gd_ex hf
      refine va_iald (f := Sy_wd sy) hx hb hK hP 1 0 rfl rfl (inb_in h_9) d_Symbols_comesBefore_62 ?_
      refine lv_icmp_ge (tgt := 70) hx hb d_Symbols_comesBefore_63 (by decide) (fun c_10 => ?_) (fun c_10 => ?_)
      · rw [if_pos c_10] at hf
        refine lv_iconst (v := 0) hx hb d_Symbols_comesBefore_70 (by decide) ?_
        exact hr71 _ _ _ 0 (by decide) hP hD hS hf
      · rw [if_neg c_10] at hf
        refine lv_iconst (v := 1) hx hb d_Symbols_comesBefore_66 (by decide) ?_
        refine lv_goto (tgt := 71) hx hb d_Symbols_comesBefore_67 (by decide) ?_
        exact hr71 _ _ _ 1 (by decide) hP hD hS hf
  · rw [if_neg c_3] at hf
    refine lv_aload_n hx hb d_Symbols_comesBefore_15 rfl (lv_at hl 0 rfl) ?_
    refine va_get (D := (dC, dI)) (ci := 0) (v := .ref (sy_a 2)) (C := R_Symbols) (T := T_Symbols) (N := 10) hx hb hts in_Symbols hown hK hP 0 rfl rfl 1 (by decide) (hts _ t_210) (fun _ h9 => h9) rfl d_Symbols_comesBefore_16 ?_
    refine lv_iload_n hx hb d_Symbols_comesBefore_19 rfl (lv_at hl 1 rfl) ?_
    obtain ⟨h_11, hf⟩ := gd_ex hf
    refine va_iald (f := Sy_ht sy) hx hb hK hP 2 0 rfl rfl (inb_in h_11) d_Symbols_comesBefore_20 ?_
    refine lv_aload_n hx hb d_Symbols_comesBefore_21 rfl (lv_at hl 0 rfl) ?_
    refine va_get (D := (dC, dI)) (ci := 0) (v := .ref (sy_a 2)) (C := R_Symbols) (T := T_Symbols) (N := 10) hx hb hts in_Symbols hown hK hP 0 rfl rfl 1 (by decide) (hts _ t_210) (fun _ h9 => h9) rfl d_Symbols_comesBefore_22 ?_
    refine lv_iload_n hx hb d_Symbols_comesBefore_25 rfl (lv_at hl 2 rfl) ?_
    obtain ⟨h_12, hf⟩ := gd_ex hf
    refine va_iald (f := Sy_ht sy) hx hb hK hP 2 0 rfl rfl (inb_in h_12) d_Symbols_comesBefore_26 ?_
    refine lv_icmp_ge (tgt := 34) hx hb d_Symbols_comesBefore_27 (by decide) (fun c_13 => ?_) (fun c_13 => ?_)
    · rw [if_pos c_13] at hf
      refine lv_iconst (v := 0) hx hb d_Symbols_comesBefore_34 (by decide) ?_
      exact hr35 _ _ _ 0 (by decide) hP hD hS hf
    · rw [if_neg c_13] at hf
      refine lv_iconst (v := 1) hx hb d_Symbols_comesBefore_30 (by decide) ?_
      refine lv_goto (tgt := 35) hx hb d_Symbols_comesBefore_31 (by decide) ?_
      exact hr35 _ _ _ 1 (by decide) hP hD hS hf
end
set_option maxHeartbeats 4000000 in
set_option maxRecDepth 100000 in
theorem k_Symbols_comesBefore (l : Launch) (dC : Nat → ClassId) (dI : Nat → Nat → Nat) (cI cZ cJ : ClassId) (sy_a : Nat → Nat) (sz : Nat) {sy : Sy} {x1 : Int32} {x2 : Int32} {r : Int32} (hf : f_Symbols_comesBefore sy x1 x2 = some r) :
    Met l y_Symbols_comesBefore ws_Symbols_comesBefore ({ frames := 0, cells := 0, slots := 0, locals := 0 }) (va_Pc [.ref (sy_a 0), .int x1, .int x2] (kP (dC, dI) vwCl (TYS cI cZ cJ) (wSy cI cZ cJ sy_a sy) sz)) (va_Qi (fun (q : Int32) (_ : Unit) => q = r ∧ vp_nar .boolean r = r) (fun _ t => kQ (dC, dI) vwCl (TYS cI cZ cJ) (wSy cI cZ cJ sy_a sy) sz (wSy cI cZ cJ sy_a sy) t) (va_A (wSy cI cZ cJ sy_a sy) sz)) 0 0 (va_A (wSy cI cZ cJ sy_a sy) sz) := by
  refine Met.ofW (cc := c_Symbols_comesBefore) (maxL := 3) (ret := (some .boolean)) (by decide) rfl ?_
  intro p e s m args below meth c s₁ B hml hv
  obtain ⟨rfl, hsz, hP, hK, hD0, hN⟩ := hv
  have hr := B.returns
  have hlocks := B.notSynchronized
  subst hsz
  have hD := hD0.self (sz := s.heap.size)
  have hl := lv_entry ([.ref (sy_a 0), .int x1, .int x2]) (n := 3) (Nat.le_of_ble_eq_true rfl)
  rw [lg_entry_eq]
  generalize (lg_sl ([.ref (sy_a 0), .int x1, .int x2]) ++ List.replicate (3 - (lg_sl ([.ref (sy_a 0), .int x1, .int x2])).length) Slot.unset).toArray = ls at hl ⊢
  refine B_Symbols_comesBefore (A := va_A (wSy cI cZ cJ sy_a sy) s.heap.size) ⟨B.exec, B.bytes, hml, findClass_of_methodNamed B.named, fun w h => atoms_spec (ws := ws_Symbols_comesBefore) B.pre w (List.mem_cons_of_mem _ h), hK, fun q h => Or.inr h, Nat.le_of_ble_eq_true rfl, Nat.le_of_ble_eq_true rfl, hN, Nat.le_of_ble_eq_true rfl, Nat.le_of_ble_eq_true rfl⟩ (fun H locs ls v hz hP hD hS hf => ?_) (fun H locs ls v hz hP hD hS hf => ?_) (fun H locs ls v hz hP hD hS hf => ?_) hP hD va_S.rf hl hf
  · cases hf
    exact W.zret B.exec B.bytes hr (nz_n hz) (fun t ht hW => ⟨⟨_, (), rfl, ⟨rfl, hz⟩, ⟨by rw [ht]; exact hP, va_K.moved hW.alike hK, hD⟩⟩, hS.F ht⟩) hS.2.2 d_Symbols_comesBefore_35
  · cases hf
    exact W.zret B.exec B.bytes hr (nz_n hz) (fun t ht hW => ⟨⟨_, (), rfl, ⟨rfl, hz⟩, ⟨by rw [ht]; exact hP, va_K.moved hW.alike hK, hD⟩⟩, hS.F ht⟩) hS.2.2 d_Symbols_comesBefore_71
  · cases hf
    exact W.zret B.exec B.bytes hr (nz_n hz) (fun t ht hW => ⟨⟨_, (), rfl, ⟨rfl, hz⟩, ⟨by rw [ht]; exact hP, va_K.moved hW.alike hK, hD⟩⟩, hS.F ht⟩) hS.2.2 d_Symbols_comesBefore_82

/-! Symbols_placeOf -/
def l_Symbols_placeOf_4 (sy : Sy) (x1 : Int32) (k30 : Int32 → Option (Int32)) : Nat → Int32 → Int32 → Option (Int32)
  | 0, _, _ => none
  | n + 1, x2, x3 => (if (Sy_n sy) ≤ x3 then k30 x2 else bd (f_Symbols_comesBefore sy x3 x1) <| fun r_3 => (if r_3 = 0 then lt' (x3 + 1) <| fun x3_5 => (l_Symbols_placeOf_4 sy x1 k30 n) x2 x3_5 else lt' (x2 + 1) <| fun x2_6 => lt' (x3 + 1) <| fun x3_7 => (l_Symbols_placeOf_4 sy x1 k30 n) x2_6 x3_7))
def f_Symbols_placeOf (sy : Sy) (x1 : Int32) : Option (Int32) := l_Symbols_placeOf_4 sy x1 (fun x2_8 => some x2_8) 100000 0 0
section
variable {p : Program} {l : Launch} {e : Env} {R : Room} {s : State} {m : MethodId} {args : Array Value} {below : List Frame} {meth : Method} {c : Code} {Q : State → Prop} {A : Nat → Prop}
set_option maxHeartbeats 4000000 in
set_option maxRecDepth 100000 in
theorem L_Symbols_placeOf_4 {cells slots : Nat} {dC : Nat → ClassId} {dI : Nat → Nat → Nat} {cI cZ cJ : ClassId} {sy_a : Nat → Nat} {sy : Sy} {x1 : Int32} {k30 : Int32 → Option (Int32)} {res : Int32} (C0 : cxt p c m s args R cells slots R_Symbols c_Symbols_placeOf tb 4 (dC, dI) vwCl (TYS cI cZ cJ) A 1 22)
    (hk30 : ∀ (H : Heap) (locs : List Loc) (ls : Array Slot) (x2_1 : Int32), va_P (dC, dI) vwCl (wSy cI cZ cJ sy_a sy) H → va_D A (wSy cI cZ cJ sy_a sy) → va_S A s.heap H locs → lv_has ls 4 [(2, .int x2_1)] → k30 x2_1 = some res → W p l e R s m args below meth c H locs cells slots Q (F0 m 30 ls [])) :
    ∀ (n : Nat) (H : Heap) (locs : List Loc) (ls : Array Slot) (x2 : Int32) (x3 : Int32), va_P (dC, dI) vwCl (wSy cI cZ cJ sy_a sy) H → va_D A (wSy cI cZ cJ sy_a sy) → va_S A s.heap H locs → lv_has ls 4 [(0, .ref (sy_a 0)), (1, .int x1), (2, .int x2), (3, .int x3)] → l_Symbols_placeOf_4 sy x1 k30 n x2 x3 = some res → W p l e R s m args below meth c H locs cells slots Q (F0 m 4 ls []) := by
  obtain ⟨hx, hb, hml, hown, hts, hK, hA, hRf, hRl, hN, hRc⟩ := id C0
  intro n
  induction n with
  | zero =>
    intro H locs ls x2 x3 hP hD hS hl hf
    exact absurd hf (by simp [l_Symbols_placeOf_4])
  | succ n ih =>
    intro H locs ls x2 x3 hP hD hS hl hf
    rw [l_Symbols_placeOf_4] at hf
    refine lv_iload_n hx hb d_Symbols_placeOf_4 rfl (lv_at hl 3 rfl) ?_
    refine lv_aload_n hx hb d_Symbols_placeOf_5 rfl (lv_at hl 0 rfl) ?_
    refine va_get (D := (dC, dI)) (ci := 0) (v := .int (Sy_n sy)) (C := R_Symbols) (T := T_Symbols) (N := 10) hx hb hts in_Symbols hown hK hP 0 rfl rfl 7 (by decide) (hts _ t_230) (fun _ h9 => h9) rfl d_Symbols_placeOf_6 ?_
    refine lv_icmp_ge (tgt := 30) hx hb d_Symbols_placeOf_9 (by decide) (fun c_2 => ?_) (fun c_2 => ?_)
    · rw [if_pos c_2] at hf
      exact hk30 _ _ _ x2 hP hD hS (lv_sub hl [2] rfl) hf
    · rw [if_neg c_2] at hf
      refine lv_aload_n hx hb d_Symbols_placeOf_12 rfl (lv_at hl 0 rfl) ?_
      refine lv_iload_n hx hb d_Symbols_placeOf_13 rfl (lv_at hl 3 rfl) ?_
      refine lv_iload_n hx hb d_Symbols_placeOf_14 rfl (lv_at hl 1 rfl) ?_
      obtain ⟨r_3, hf1, hf⟩ := bd_ex hf
      try dsimp only at hf
      have hPc := hP.sub (ws' := (wSy cI cZ cJ sy_a sy)) [0, 1, 2, 3, 4, 5, 6, 7, 8, 9] rfl
      have hDc := hD.sub (ws' := (wSy cI cZ cJ sy_a sy)) [0, 1, 2, 3, 4, 5, 6, 7, 8, 9] (by decide) rfl
      have hFc := va_free (wc := (wSy cI cZ cJ sy_a sy)) hD hS hA [0, 1, 2, 3, 4, 5, 6, 7, 8, 9] rfl
      refine va_calli (va_runV (As := [.int x3, .int x1]) (rest := []) ⟨hx, hb, hml, hown, hts⟩ (k_Symbols_comesBefore l dC dI cI cZ cJ sy_a H.size hf1) (cwV 2 hts (gV t_292 t_293 t_294 t_62 t_295) rfl rfl rfl hd_Symbols_comesBefore ⟨Nat.le_trans (Nat.le_of_ble_eq_true rfl) hRf, Nat.le_trans (Nat.le_of_ble_eq_true rfl) hRl⟩) ⟨kP_blind, va_recv hK hP (ci := 0) (q0 := 0) rfl rfl, kP_at hPc hK hDc hN⟩ rfl rfl hl.1 rfl (lv_room (Nat.le_of_ble_eq_true rfl)) d_Symbols_placeOf_15 hRc) hS (fun q _ h => hFc q h) hFc (fun r9 u t H1 locs ht hvm hw hB hz1 hk1 hS => ?_)
      rw [hw.1]
      obtain ⟨hP, hD⟩ := kQ_join (wr := ([] : va_W)) (w1 := (wSy cI cZ cJ sy_a sy)) hP hD [0, 1, 2, 3, 4, 5, 6, 7, 8, 9] [] rfl rfl (by decide) (by decide) ht hk1 hFc hB
      generalize H1 = H at hP hS ⊢
      have hP : va_P (dC, dI) vwCl (wSy cI cZ cJ sy_a sy) H := hP.sub [0, 1, 2, 3, 4, 5, 6, 7, 8, 9] rfl
      have hD : va_D A (wSy cI cZ cJ sy_a sy) := hD.sub [0, 1, 2, 3, 4, 5, 6, 7, 8, 9] (by decide) rfl
      refine lv_if_eq (tgt := 24) hx hb d_Symbols_placeOf_18 (by decide) (fun c_4 => ?_) (fun c_4 => ?_)
      · rw [if_pos c_4] at hf
        obtain ⟨x3_5, ex3_5, hf⟩ := lt_ex hf
        try dsimp only at hf
        refine lv_iinc (v := x3_5) (lv' := [(3, .int x3_5), (0, .ref (sy_a 0)), (1, .int x1), (2, .int x2)]) hx hb d_Symbols_placeOf_24 hl (k := 3) rfl (by rw [ex3_5]; rfl) (by decide) rfl (fun ls hl => ?_)
        refine lv_goto (tgt := 4) hx hb d_Symbols_placeOf_27 (by decide) ?_
        exact ih _ _ _ x2 x3_5 hP hD hS (lv_sub hl [1, 2, 3, 0] rfl) hf
      · rw [if_neg c_4] at hf
        obtain ⟨x2_6, ex2_6, hf⟩ := lt_ex hf
        try dsimp only at hf
        refine lv_iinc (v := x2_6) (lv' := [(2, .int x2_6), (0, .ref (sy_a 0)), (1, .int x1), (3, .int x3)]) hx hb d_Symbols_placeOf_21 hl (k := 2) rfl (by rw [ex2_6]; rfl) (by decide) rfl (fun ls hl => ?_)
        obtain ⟨x3_7, ex3_7, hf⟩ := lt_ex hf
        try dsimp only at hf
        refine lv_iinc (v := x3_7) (lv' := [(3, .int x3_7), (2, .int x2_6), (0, .ref (sy_a 0)), (1, .int x1)]) hx hb d_Symbols_placeOf_24 hl (k := 3) rfl (by rw [ex3_7]; rfl) (by decide) rfl (fun ls hl => ?_)
        refine lv_goto (tgt := 4) hx hb d_Symbols_placeOf_27 (by decide) ?_
        exact ih _ _ _ x2_6 x3_7 hP hD hS (lv_sub hl [2, 3, 1, 0] rfl) hf
set_option maxHeartbeats 4000000 in
set_option maxRecDepth 100000 in
theorem B_Symbols_placeOf {cells slots : Nat} {dC : Nat → ClassId} {dI : Nat → Nat → Nat} {cI cZ cJ : ClassId} {sy_a : Nat → Nat} {sy : Sy} {x1 : Int32} {res : Int32} (C0 : cxt p c m s args R cells slots R_Symbols c_Symbols_placeOf tb 4 (dC, dI) vwCl (TYS cI cZ cJ) A 1 22)
    (hr31 : ∀ (H : Heap) (locs : List Loc) (ls : Array Slot) (v : Int32), va_P (dC, dI) vwCl (wSy cI cZ cJ sy_a sy) H → va_D A (wSy cI cZ cJ sy_a sy) → va_S A s.heap H locs → some v = some res → W p l e R s m args below meth c H locs cells slots Q (F0 m 31 ls [.int v]))
    {H : Heap} {locs : List Loc} {ls : Array Slot} (hP : va_P (dC, dI) vwCl (wSy cI cZ cJ sy_a sy) H) (hD : va_D A (wSy cI cZ cJ sy_a sy)) (hS : va_S A s.heap H locs) (hl : lv_has ls 4 [(0, .ref (sy_a 0)), (1, .int x1)]) (hf : f_Symbols_placeOf sy x1 = some res) : W p l e R s m args below meth c H locs cells slots Q (F0 m 0 ls []) := by
  obtain ⟨hx, hb, hml, hown, hts, hK, hA, hRf, hRl, hN, hRc⟩ := id C0
  rw [f_Symbols_placeOf] at hf
  refine lv_iconst (v := 0) hx hb d_Symbols_placeOf_0 (by decide) ?_
  refine lv_istore_n (lv' := [(2, .int 0), (0, .ref (sy_a 0)), (1, .int x1)]) hx hb d_Symbols_placeOf_1 rfl hl (by decide) rfl (fun ls hl => ?_)
  refine lv_iconst (v := 0) hx hb d_Symbols_placeOf_2 (by decide) ?_
  refine lv_istore_n (lv' := [(3, .int 0), (2, .int 0), (0, .ref (sy_a 0)), (1, .int x1)]) hx hb d_Symbols_placeOf_3 rfl hl (by decide) rfl (fun ls hl => ?_)
  refine L_Symbols_placeOf_4 C0 (fun H locs ls x2_8 hP hD hS hl hf => ?_) 100000 _ _ _ 0 0 hP hD hS (lv_sub hl [2, 3, 1, 0] rfl) hf
  try dsimp only at hf
  refine lv_iload_n hx hb d_Symbols_placeOf_30 rfl (lv_at hl 0 rfl) ?_
  exact hr31 _ _ _ x2_8 hP hD hS hf
end
set_option maxHeartbeats 4000000 in
set_option maxRecDepth 100000 in
theorem k_Symbols_placeOf (l : Launch) (dC : Nat → ClassId) (dI : Nat → Nat → Nat) (cI cZ cJ : ClassId) (sy_a : Nat → Nat) (sz : Nat) {sy : Sy} {x1 : Int32} {r : Int32} (hf : f_Symbols_placeOf sy x1 = some r) :
    Met l y_Symbols_placeOf ws_Symbols_placeOf ({ frames := 1, cells := 0, slots := 0, locals := 22 }) (va_Pc [.ref (sy_a 0), .int x1] (kP (dC, dI) vwCl (TYS cI cZ cJ) (wSy cI cZ cJ sy_a sy) sz)) (va_Qi (fun (q : Int32) (_ : Unit) => q = r) (fun _ t => kQ (dC, dI) vwCl (TYS cI cZ cJ) (wSy cI cZ cJ sy_a sy) sz (wSy cI cZ cJ sy_a sy) t) (va_A (wSy cI cZ cJ sy_a sy) sz)) 0 0 (va_A (wSy cI cZ cJ sy_a sy) sz) := by
  refine Met.ofW (cc := c_Symbols_placeOf) (maxL := 4) (ret := (some .int)) (by decide) rfl ?_
  intro p e s m args below meth c s₁ B hml hv
  obtain ⟨rfl, hsz, hP, hK, hD0, hN⟩ := hv
  have hr := B.returns
  have hlocks := B.notSynchronized
  subst hsz
  have hD := hD0.self (sz := s.heap.size)
  have hl := lv_entry ([.ref (sy_a 0), .int x1]) (n := 4) (Nat.le_of_ble_eq_true rfl)
  rw [lg_entry_eq]
  generalize (lg_sl ([.ref (sy_a 0), .int x1]) ++ List.replicate (4 - (lg_sl ([.ref (sy_a 0), .int x1])).length) Slot.unset).toArray = ls at hl ⊢
  refine B_Symbols_placeOf (A := va_A (wSy cI cZ cJ sy_a sy) s.heap.size) ⟨B.exec, B.bytes, hml, findClass_of_methodNamed B.named, fun w h => atoms_spec (ws := ws_Symbols_placeOf) B.pre w (List.mem_cons_of_mem _ h), hK, fun q h => Or.inr h, Nat.le_of_ble_eq_true rfl, Nat.le_of_ble_eq_true rfl, hN, Nat.le_of_ble_eq_true rfl, Nat.le_of_ble_eq_true rfl⟩ (fun H locs ls v hP hD hS hf => ?_) hP hD va_S.rf hl hf
  · cases hf
    exact W.iret B.exec B.bytes hr (fun t ht hW => ⟨⟨_, (), rfl, rfl, ⟨by rw [ht]; exact hP, va_K.moved hW.alike hK, hD⟩⟩, hS.F ht⟩) hS.2.2 d_Symbols_placeOf_31

/-! Symbols_difference -/
def l_Symbols_difference_37 (sy : Sy) (x1 : Int32) (x2 : Int32) (k75 : Int32 → Option (Int32)) : Nat → Int32 → Int32 → Option (Int32)
  | 0, _, _ => none
  | n + 1, x3, x4 => gd (inb x1 40) <| (if (Sy_ht sy x1.toNatClampNeg) ≤ x4 then k75 x3 else bd (f_Symbols_rowOf sy x1 x4) <| fun r_10 => bd (f_Symbols_rowOf sy x2 x4) <| fun r_11 => bd (f_Integer_bitCount (r_10 ^^^ r_11)) <| fun r_12 => lt' (x3 + r_12) <| fun x3_13 => lt' (x4 + 1) <| fun x4_14 => (l_Symbols_difference_37 sy x1 x2 k75 n) x3_13 x4_14)
def f_Symbols_difference (sy : Sy) (x1 : Int32) (x2 : Int32) : Option (Int32) := gd (inb x1 40) <| gd (inb x2 40) <| (if (Sy_wd sy x1.toNatClampNeg) = (Sy_wd sy x2.toNatClampNeg) then gd (inb x1 40) <| gd (inb x2 40) <| (if (Sy_ht sy x1.toNatClampNeg) = (Sy_ht sy x2.toNatClampNeg) then l_Symbols_difference_37 sy x1 x2 (fun x3_15 => some x3_15) 100000 0 0 else some (-1)) else some (-1))
section
variable {p : Program} {l : Launch} {e : Env} {R : Room} {s : State} {m : MethodId} {args : Array Value} {below : List Frame} {meth : Method} {c : Code} {Q : State → Prop} {A : Nat → Prop}
set_option maxHeartbeats 4000000 in
set_option maxRecDepth 100000 in
theorem L_Symbols_difference_37 {cells slots : Nat} {dC : Nat → ClassId} {dI : Nat → Nat → Nat} {cI cZ cJ : ClassId} {sy_a : Nat → Nat} {sy : Sy} {x1 : Int32} {x2 : Int32} {k75 : Int32 → Option (Int32)} {res : Int32} (C0 : cxt p c m s args R cells slots R_Symbols c_Symbols_difference tb 5 (dC, dI) vwCl (TYS cI cZ cJ) A 1 22)
    (hk75 : ∀ (H : Heap) (locs : List Loc) (ls : Array Slot) (x3_7 : Int32), va_P (dC, dI) vwCl (wSy cI cZ cJ sy_a sy) H → va_D A (wSy cI cZ cJ sy_a sy) → va_S A s.heap H locs → lv_has ls 5 [(3, .int x3_7)] → k75 x3_7 = some res → W p l e R s m args below meth c H locs cells slots Q (F0 m 75 ls [])) :
    ∀ (n : Nat) (H : Heap) (locs : List Loc) (ls : Array Slot) (x3 : Int32) (x4 : Int32), va_P (dC, dI) vwCl (wSy cI cZ cJ sy_a sy) H → va_D A (wSy cI cZ cJ sy_a sy) → va_S A s.heap H locs → lv_has ls 5 [(0, .ref (sy_a 0)), (1, .int x1), (2, .int x2), (3, .int x3), (4, .int x4)] → l_Symbols_difference_37 sy x1 x2 k75 n x3 x4 = some res → W p l e R s m args below meth c H locs cells slots Q (F0 m 37 ls []) := by
  obtain ⟨hx, hb, hml, hown, hts, hK, hA, hRf, hRl, hN, hRc⟩ := id C0
  intro n
  induction n with
  | zero =>
    intro H locs ls x3 x4 hP hD hS hl hf
    exact absurd hf (by simp [l_Symbols_difference_37])
  | succ n ih =>
    intro H locs ls x3 x4 hP hD hS hl hf
    rw [l_Symbols_difference_37] at hf
    refine lv_iload hx hb d_Symbols_difference_37 (lv_at hl 4 rfl) ?_
    refine lv_aload_n hx hb d_Symbols_difference_39 rfl (lv_at hl 0 rfl) ?_
    refine va_get (D := (dC, dI)) (ci := 0) (v := .ref (sy_a 2)) (C := R_Symbols) (T := T_Symbols) (N := 10) hx hb hts in_Symbols hown hK hP 0 rfl rfl 1 (by decide) (hts _ t_210) (fun _ h9 => h9) rfl d_Symbols_difference_40 ?_
    refine lv_iload_n hx hb d_Symbols_difference_43 rfl (lv_at hl 1 rfl) ?_
    obtain ⟨h_8, hf⟩ := gd_ex hf
    refine va_iald (f := Sy_ht sy) hx hb hK hP 2 0 rfl rfl (inb_in h_8) d_Symbols_difference_44 ?_
    refine lv_icmp_ge (tgt := 75) hx hb d_Symbols_difference_45 (by decide) (fun c_9 => ?_) (fun c_9 => ?_)
    · rw [if_pos c_9] at hf
      exact hk75 _ _ _ x3 hP hD hS (lv_sub hl [3] rfl) hf
    · rw [if_neg c_9] at hf
      refine lv_iload_n hx hb d_Symbols_difference_48 rfl (lv_at hl 3 rfl) ?_
      refine lv_aload_n hx hb d_Symbols_difference_49 rfl (lv_at hl 0 rfl) ?_
      refine lv_iload_n hx hb d_Symbols_difference_50 rfl (lv_at hl 1 rfl) ?_
      refine lv_iload hx hb d_Symbols_difference_51 (lv_at hl 4 rfl) ?_
      obtain ⟨r_10, hf1, hf⟩ := bd_ex hf
      try dsimp only at hf
      have hPc := hP.sub (ws' := (wSy cI cZ cJ sy_a sy)) [0, 1, 2, 3, 4, 5, 6, 7, 8, 9] rfl
      have hDc := hD.sub (ws' := (wSy cI cZ cJ sy_a sy)) [0, 1, 2, 3, 4, 5, 6, 7, 8, 9] (by decide) rfl
      have hFc := va_free (wc := (wSy cI cZ cJ sy_a sy)) hD hS hA [0, 1, 2, 3, 4, 5, 6, 7, 8, 9] rfl
      refine va_calli (va_runV (As := [.int x1, .int x4]) (rest := [.int x3]) ⟨hx, hb, hml, hown, hts⟩ (k_Symbols_rowOf l dC dI cI cZ cJ sy_a H.size hf1) (cwV 2 hts (gV t_403 t_396 t_397 t_62 t_398) rfl rfl rfl hd_Symbols_rowOf ⟨Nat.le_trans (Nat.le_of_ble_eq_true rfl) hRf, Nat.le_trans (Nat.le_of_ble_eq_true rfl) hRl⟩) ⟨kP_blind, va_recv hK hP (ci := 0) (q0 := 0) rfl rfl, kP_at hPc hK hDc hN⟩ rfl rfl hl.1 rfl (lv_room (Nat.le_of_ble_eq_true rfl)) d_Symbols_difference_53 hRc) hS (fun q _ h => hFc q h) hFc (fun r9 u t H1 locs ht hvm hw hB hz1 hk1 hS => ?_)
      rw [hw]
      obtain ⟨hP, hD⟩ := kQ_join (wr := ([] : va_W)) (w1 := (wSy cI cZ cJ sy_a sy)) hP hD [0, 1, 2, 3, 4, 5, 6, 7, 8, 9] [] rfl rfl (by decide) (by decide) ht hk1 hFc hB
      generalize H1 = H at hP hS ⊢
      have hP : va_P (dC, dI) vwCl (wSy cI cZ cJ sy_a sy) H := hP.sub [0, 1, 2, 3, 4, 5, 6, 7, 8, 9] rfl
      have hD : va_D A (wSy cI cZ cJ sy_a sy) := hD.sub [0, 1, 2, 3, 4, 5, 6, 7, 8, 9] (by decide) rfl
      refine lv_aload_n hx hb d_Symbols_difference_56 rfl (lv_at hl 0 rfl) ?_
      refine lv_iload_n hx hb d_Symbols_difference_57 rfl (lv_at hl 2 rfl) ?_
      refine lv_iload hx hb d_Symbols_difference_58 (lv_at hl 4 rfl) ?_
      obtain ⟨r_11, hf1, hf⟩ := bd_ex hf
      try dsimp only at hf
      have hPc := hP.sub (ws' := (wSy cI cZ cJ sy_a sy)) [0, 1, 2, 3, 4, 5, 6, 7, 8, 9] rfl
      have hDc := hD.sub (ws' := (wSy cI cZ cJ sy_a sy)) [0, 1, 2, 3, 4, 5, 6, 7, 8, 9] (by decide) rfl
      have hFc := va_free (wc := (wSy cI cZ cJ sy_a sy)) hD hS hA [0, 1, 2, 3, 4, 5, 6, 7, 8, 9] rfl
      refine va_calli (va_runV (As := [.int x2, .int x4]) (rest := [.int r_10, .int x3]) ⟨hx, hb, hml, hown, hts⟩ (k_Symbols_rowOf l dC dI cI cZ cJ sy_a H.size hf1) (cwV 2 hts (gV t_403 t_396 t_397 t_62 t_398) rfl rfl rfl hd_Symbols_rowOf ⟨Nat.le_trans (Nat.le_of_ble_eq_true rfl) hRf, Nat.le_trans (Nat.le_of_ble_eq_true rfl) hRl⟩) ⟨kP_blind, va_recv hK hP (ci := 0) (q0 := 0) rfl rfl, kP_at hPc hK hDc hN⟩ rfl rfl hl.1 rfl (lv_room (Nat.le_of_ble_eq_true rfl)) d_Symbols_difference_60 hRc) hS (fun q _ h => hFc q h) hFc (fun r9 u t H1 locs ht hvm hw hB hz1 hk1 hS => ?_)
      rw [hw]
      obtain ⟨hP, hD⟩ := kQ_join (wr := ([] : va_W)) (w1 := (wSy cI cZ cJ sy_a sy)) hP hD [0, 1, 2, 3, 4, 5, 6, 7, 8, 9] [] rfl rfl (by decide) (by decide) ht hk1 hFc hB
      generalize H1 = H at hP hS ⊢
      have hP : va_P (dC, dI) vwCl (wSy cI cZ cJ sy_a sy) H := hP.sub [0, 1, 2, 3, 4, 5, 6, 7, 8, 9] rfl
      have hD : va_D A (wSy cI cZ cJ sy_a sy) := hD.sub [0, 1, 2, 3, 4, 5, 6, 7, 8, 9] (by decide) rfl
      refine lv_ixor hx hb d_Symbols_difference_63 ?_
      obtain ⟨r_12, hf1, hf⟩ := bd_ex hf
      try dsimp only at hf
      have hPc := hP.sub (ws' := ([] : va_W)) [] rfl
      have hDc := hD.sub (ws' := ([] : va_W)) [] (by decide) rfl
      have hFc := va_free (wc := ([] : va_W)) hD hS hA [] rfl
      refine va_calli (va_runS (As := [.int (r_10 ^^^ r_11)]) (rest := [.int x3]) ⟨hx, hb, hml, hown, hts⟩ (k_Integer_bitCount l dC dI cI cZ cJ H.size hf1) (va_cwS 1 hts (gSo t_510 t_511 t_69 t_512) rfl rfl rfl hd_Integer_bitCount.2 ⟨Nat.le_trans (Nat.le_of_ble_eq_true rfl) hRf, Nat.le_trans (Nat.le_of_ble_eq_true rfl) hRl⟩) ⟨kP_blind, kP_at hPc hK hDc hN⟩ rfl rfl hl.1 rfl (lv_room (Nat.le_of_ble_eq_true rfl)) d_Symbols_difference_64 hRc) hS (fun q _ h => hFc q h) hFc (fun r9 u t H1 locs ht hvm hw hB hz1 hk1 hS => ?_)
      rw [hw]
      obtain ⟨hP, hD⟩ := kQ_join (wr := (wSy cI cZ cJ sy_a sy)) (w1 := ([] : va_W)) hP hD [] [0, 1, 2, 3, 4, 5, 6, 7, 8, 9] rfl rfl (by decide) (by decide) ht hk1 hFc hB
      generalize H1 = H at hP hS ⊢
      have hP : va_P (dC, dI) vwCl (wSy cI cZ cJ sy_a sy) H := hP.sub [0, 1, 2, 3, 4, 5, 6, 7, 8, 9] rfl
      have hD : va_D A (wSy cI cZ cJ sy_a sy) := hD.sub [0, 1, 2, 3, 4, 5, 6, 7, 8, 9] (by decide) rfl
      refine lv_iadd hx hb d_Symbols_difference_67 ?_
      obtain ⟨x3_13, ex3_13, hf⟩ := lt_ex hf
      try dsimp only at hf
      refine tp_i ex3_13 ?_
      refine lv_istore_n (lv' := [(3, .int x3_13), (0, .ref (sy_a 0)), (1, .int x1), (2, .int x2), (4, .int x4)]) hx hb d_Symbols_difference_68 rfl hl (by decide) rfl (fun ls hl => ?_)
      obtain ⟨x4_14, ex4_14, hf⟩ := lt_ex hf
      try dsimp only at hf
      refine lv_iinc (v := x4_14) (lv' := [(4, .int x4_14), (3, .int x3_13), (0, .ref (sy_a 0)), (1, .int x1), (2, .int x2)]) hx hb d_Symbols_difference_69 hl (k := 4) rfl (by rw [ex4_14]; rfl) (by decide) rfl (fun ls hl => ?_)
      refine lv_goto (tgt := 37) hx hb d_Symbols_difference_72 (by decide) ?_
      exact ih _ _ _ x3_13 x4_14 hP hD hS (lv_sub hl [2, 3, 4, 1, 0] rfl) hf
set_option maxHeartbeats 4000000 in
set_option maxRecDepth 100000 in
theorem B_Symbols_difference {cells slots : Nat} {dC : Nat → ClassId} {dI : Nat → Nat → Nat} {cI cZ cJ : ClassId} {sy_a : Nat → Nat} {sy : Sy} {x1 : Int32} {x2 : Int32} {res : Int32} (C0 : cxt p c m s args R cells slots R_Symbols c_Symbols_difference tb 5 (dC, dI) vwCl (TYS cI cZ cJ) A 1 22)
    (hr31 : ∀ (H : Heap) (locs : List Loc) (ls : Array Slot) (v : Int32), va_P (dC, dI) vwCl (wSy cI cZ cJ sy_a sy) H → va_D A (wSy cI cZ cJ sy_a sy) → va_S A s.heap H locs → some v = some res → W p l e R s m args below meth c H locs cells slots Q (F0 m 31 ls [.int v]))
    (hr76 : ∀ (H : Heap) (locs : List Loc) (ls : Array Slot) (v : Int32), va_P (dC, dI) vwCl (wSy cI cZ cJ sy_a sy) H → va_D A (wSy cI cZ cJ sy_a sy) → va_S A s.heap H locs → some v = some res → W p l e R s m args below meth c H locs cells slots Q (F0 m 76 ls [.int v]))
    {H : Heap} {locs : List Loc} {ls : Array Slot} (hP : va_P (dC, dI) vwCl (wSy cI cZ cJ sy_a sy) H) (hD : va_D A (wSy cI cZ cJ sy_a sy)) (hS : va_S A s.heap H locs) (hl : lv_has ls 5 [(0, .ref (sy_a 0)), (1, .int x1), (2, .int x2)]) (hf : f_Symbols_difference sy x1 x2 = some res) : W p l e R s m args below meth c H locs cells slots Q (F0 m 0 ls []) := by
  obtain ⟨hx, hb, hml, hown, hts, hK, hA, hRf, hRl, hN, hRc⟩ := id C0
  rw [f_Symbols_difference] at hf
  refine lv_aload_n hx hb d_Symbols_difference_0 rfl (lv_at hl 0 rfl) ?_
  refine va_get (D := (dC, dI)) (ci := 0) (v := .ref (sy_a 1)) (C := R_Symbols) (T := T_Symbols) (N := 10) hx hb hts in_Symbols hown hK hP 0 rfl rfl 0 (by decide) (hts _ t_206) (fun _ h9 => h9) rfl d_Symbols_difference_1 ?_
  refine lv_iload_n hx hb d_Symbols_difference_4 rfl (lv_at hl 1 rfl) ?_
  obtain ⟨h_1, hf⟩ := gd_ex hf
  refine va_iald (f := Sy_wd sy) hx hb hK hP 1 0 rfl rfl (inb_in h_1) d_Symbols_difference_5 ?_
  refine lv_aload_n hx hb d_Symbols_difference_6 rfl (lv_at hl 0 rfl) ?_
  refine va_get (D := (dC, dI)) (ci := 0) (v := .ref (sy_a 1)) (C := R_Symbols) (T := T_Symbols) (N := 10) hx hb hts in_Symbols hown hK hP 0 rfl rfl 0 (by decide) (hts _ t_206) (fun _ h9 => h9) rfl d_Symbols_difference_7 ?_
  refine lv_iload_n hx hb d_Symbols_difference_10 rfl (lv_at hl 2 rfl) ?_
  obtain ⟨h_2, hf⟩ := gd_ex hf
  refine va_iald (f := Sy_wd sy) hx hb hK hP 1 0 rfl rfl (inb_in h_2) d_Symbols_difference_11 ?_
  refine lv_icmp_ne (tgt := 30) hx hb d_Symbols_difference_12 (by decide) (fun c_3 => ?_) (fun c_3 => ?_)
  · rw [if_neg c_3] at hf
    refine lv_iconst (v := (-1)) hx hb d_Symbols_difference_30 (by decide) ?_
    exact hr31 _ _ _ (-1) hP hD hS hf
  · rw [if_pos c_3] at hf
    refine lv_aload_n hx hb d_Symbols_difference_15 rfl (lv_at hl 0 rfl) ?_
    refine va_get (D := (dC, dI)) (ci := 0) (v := .ref (sy_a 2)) (C := R_Symbols) (T := T_Symbols) (N := 10) hx hb hts in_Symbols hown hK hP 0 rfl rfl 1 (by decide) (hts _ t_210) (fun _ h9 => h9) rfl d_Symbols_difference_16 ?_
    refine lv_iload_n hx hb d_Symbols_difference_19 rfl (lv_at hl 1 rfl) ?_
    obtain ⟨h_4, hf⟩ := gd_ex hf
    refine va_iald (f := Sy_ht sy) hx hb hK hP 2 0 rfl rfl (inb_in h_4) d_Symbols_difference_20 ?_
    refine lv_aload_n hx hb d_Symbols_difference_21 rfl (lv_at hl 0 rfl) ?_
    refine va_get (D := (dC, dI)) (ci := 0) (v := .ref (sy_a 2)) (C := R_Symbols) (T := T_Symbols) (N := 10) hx hb hts in_Symbols hown hK hP 0 rfl rfl 1 (by decide) (hts _ t_210) (fun _ h9 => h9) rfl d_Symbols_difference_22 ?_
    refine lv_iload_n hx hb d_Symbols_difference_25 rfl (lv_at hl 2 rfl) ?_
    obtain ⟨h_5, hf⟩ := gd_ex hf
    refine va_iald (f := Sy_ht sy) hx hb hK hP 2 0 rfl rfl (inb_in h_5) d_Symbols_difference_26 ?_
    refine lv_icmp_eq (tgt := 32) hx hb d_Symbols_difference_27 (by decide) (fun c_6 => ?_) (fun c_6 => ?_)
    · rw [if_pos c_6] at hf
      refine lv_iconst (v := 0) hx hb d_Symbols_difference_32 (by decide) ?_
      refine lv_istore_n (lv' := [(3, .int 0), (0, .ref (sy_a 0)), (1, .int x1), (2, .int x2)]) hx hb d_Symbols_difference_33 rfl hl (by decide) rfl (fun ls hl => ?_)
      refine lv_iconst (v := 0) hx hb d_Symbols_difference_34 (by decide) ?_
      refine lv_istore (lv' := [(4, .int 0), (3, .int 0), (0, .ref (sy_a 0)), (1, .int x1), (2, .int x2)]) hx hb d_Symbols_difference_35 hl (by decide) rfl (fun ls hl => ?_)
      refine L_Symbols_difference_37 C0 (fun H locs ls x3_15 hP hD hS hl hf => ?_) 100000 _ _ _ 0 0 hP hD hS (lv_sub hl [2, 3, 4, 1, 0] rfl) hf
      try dsimp only at hf
      refine lv_iload_n hx hb d_Symbols_difference_75 rfl (lv_at hl 0 rfl) ?_
      exact hr76 _ _ _ x3_15 hP hD hS hf
    · rw [if_neg c_6] at hf
      refine lv_iconst (v := (-1)) hx hb d_Symbols_difference_30 (by decide) ?_
      exact hr31 _ _ _ (-1) hP hD hS hf
end
set_option maxHeartbeats 4000000 in
set_option maxRecDepth 100000 in
theorem k_Symbols_difference (l : Launch) (dC : Nat → ClassId) (dI : Nat → Nat → Nat) (cI cZ cJ : ClassId) (sy_a : Nat → Nat) (sz : Nat) {sy : Sy} {x1 : Int32} {x2 : Int32} {r : Int32} (hf : f_Symbols_difference sy x1 x2 = some r) :
    Met l y_Symbols_difference ws_Symbols_difference ({ frames := 1, cells := 0, slots := 0, locals := 22 }) (va_Pc [.ref (sy_a 0), .int x1, .int x2] (kP (dC, dI) vwCl (TYS cI cZ cJ) (wSy cI cZ cJ sy_a sy) sz)) (va_Qi (fun (q : Int32) (_ : Unit) => q = r) (fun _ t => kQ (dC, dI) vwCl (TYS cI cZ cJ) (wSy cI cZ cJ sy_a sy) sz (wSy cI cZ cJ sy_a sy) t) (va_A (wSy cI cZ cJ sy_a sy) sz)) 0 0 (va_A (wSy cI cZ cJ sy_a sy) sz) := by
  refine Met.ofW (cc := c_Symbols_difference) (maxL := 5) (ret := (some .int)) (by decide) rfl ?_
  intro p e s m args below meth c s₁ B hml hv
  obtain ⟨rfl, hsz, hP, hK, hD0, hN⟩ := hv
  have hr := B.returns
  have hlocks := B.notSynchronized
  subst hsz
  have hD := hD0.self (sz := s.heap.size)
  have hl := lv_entry ([.ref (sy_a 0), .int x1, .int x2]) (n := 5) (Nat.le_of_ble_eq_true rfl)
  rw [lg_entry_eq]
  generalize (lg_sl ([.ref (sy_a 0), .int x1, .int x2]) ++ List.replicate (5 - (lg_sl ([.ref (sy_a 0), .int x1, .int x2])).length) Slot.unset).toArray = ls at hl ⊢
  refine B_Symbols_difference (A := va_A (wSy cI cZ cJ sy_a sy) s.heap.size) ⟨B.exec, B.bytes, hml, findClass_of_methodNamed B.named, fun w h => atoms_spec (ws := ws_Symbols_difference) B.pre w (List.mem_cons_of_mem _ h), hK, fun q h => Or.inr h, Nat.le_of_ble_eq_true rfl, Nat.le_of_ble_eq_true rfl, hN, Nat.le_of_ble_eq_true rfl, Nat.le_of_ble_eq_true rfl⟩ (fun H locs ls v hP hD hS hf => ?_) (fun H locs ls v hP hD hS hf => ?_) hP hD va_S.rf hl hf
  · cases hf
    exact W.iret B.exec B.bytes hr (fun t ht hW => ⟨⟨_, (), rfl, rfl, ⟨by rw [ht]; exact hP, va_K.moved hW.alike hK, hD⟩⟩, hS.F ht⟩) hS.2.2 d_Symbols_difference_31
  · cases hf
    exact W.iret B.exec B.bytes hr (fun t ht hW => ⟨⟨_, (), rfl, rfl, ⟨by rw [ht]; exact hP, va_K.moved hW.alike hK, hD⟩⟩, hS.F ht⟩) hS.2.2 d_Symbols_difference_76

/-! Symbols_firstFitting -/
def l_Symbols_firstFitting_3 (sy : Sy) (x1 : Int32) (x2 : Int32) (x3 : Int32) (k35 : Int32 → Option (Int32)) (k44 : Unit → Option (Int32)) : Nat → Int32 → Option (Int32)
  | 0, _ => none
  | n + 1, x4 => (if x3 ≤ x4 then k44 () else gd (inb x4 40) <| bd (f_Symbols_difference sy (Sy_fc sy x4.toNatClampNeg) x1) <| fun r_4 => (if r_4 = (-1) then lt' (x4 + 1) <| fun x4_6 => (l_Symbols_firstFitting_3 sy x1 x2 x3 k35 k44 n) x4_6 else (if x2 < r_4 then lt' (x4 + 1) <| fun x4_8 => (l_Symbols_firstFitting_3 sy x1 x2 x3 k35 k44 n) x4_8 else k35 x4)))
def f_Symbols_firstFitting (sy : Sy) (x1 : Int32) (x2 : Int32) (x3 : Int32) : Option (Int32) := l_Symbols_firstFitting_3 sy x1 x2 x3 (fun x4_9 => some x4_9) (fun _ => some x3) 100000 0
section
variable {p : Program} {l : Launch} {e : Env} {R : Room} {s : State} {m : MethodId} {args : Array Value} {below : List Frame} {meth : Method} {c : Code} {Q : State → Prop} {A : Nat → Prop}
set_option maxHeartbeats 4000000 in
set_option maxRecDepth 100000 in
theorem L_Symbols_firstFitting_3 {cells slots : Nat} {dC : Nat → ClassId} {dI : Nat → Nat → Nat} {cI cZ cJ : ClassId} {sy_a : Nat → Nat} {sy : Sy} {x1 : Int32} {x2 : Int32} {x3 : Int32} {k35 : Int32 → Option (Int32)} {k44 : Unit → Option (Int32)} {res : Int32} (C0 : cxt p c m s args R cells slots R_Symbols c_Symbols_firstFitting tb 6 (dC, dI) vwCl (TYS cI cZ cJ) A 2 46)
    (hk35 : ∀ (H : Heap) (locs : List Loc) (ls : Array Slot) (x4_1 : Int32), va_P (dC, dI) vwCl (wSy cI cZ cJ sy_a sy) H → va_D A (wSy cI cZ cJ sy_a sy) → va_S A s.heap H locs → lv_has ls 6 [(4, .int x4_1)] → k35 x4_1 = some res → W p l e R s m args below meth c H locs cells slots Q (F0 m 35 ls []))
    (hk44 : ∀ (H : Heap) (locs : List Loc) (ls : Array Slot), va_P (dC, dI) vwCl (wSy cI cZ cJ sy_a sy) H → va_D A (wSy cI cZ cJ sy_a sy) → va_S A s.heap H locs → lv_has ls 6 [(3, .int x3)] → k44 () = some res → W p l e R s m args below meth c H locs cells slots Q (F0 m 44 ls [])) :
    ∀ (n : Nat) (H : Heap) (locs : List Loc) (ls : Array Slot) (x4 : Int32), va_P (dC, dI) vwCl (wSy cI cZ cJ sy_a sy) H → va_D A (wSy cI cZ cJ sy_a sy) → va_S A s.heap H locs → lv_has ls 6 [(0, .ref (sy_a 0)), (1, .int x1), (2, .int x2), (3, .int x3), (4, .int x4)] → l_Symbols_firstFitting_3 sy x1 x2 x3 k35 k44 n x4 = some res → W p l e R s m args below meth c H locs cells slots Q (F0 m 3 ls []) := by
  obtain ⟨hx, hb, hml, hown, hts, hK, hA, hRf, hRl, hN, hRc⟩ := id C0
  intro n
  induction n with
  | zero =>
    intro H locs ls x4 hP hD hS hl hf
    exact absurd hf (by simp [l_Symbols_firstFitting_3])
  | succ n ih =>
    intro H locs ls x4 hP hD hS hl hf
    rw [l_Symbols_firstFitting_3] at hf
    refine lv_iload hx hb d_Symbols_firstFitting_3 (lv_at hl 4 rfl) ?_
    refine lv_iload_n hx hb d_Symbols_firstFitting_5 rfl (lv_at hl 3 rfl) ?_
    refine lv_icmp_ge (tgt := 44) hx hb d_Symbols_firstFitting_6 (by decide) (fun c_2 => ?_) (fun c_2 => ?_)
    · rw [if_pos c_2] at hf
      exact hk44 _ _ _  hP hD hS (lv_sub hl [3] rfl) hf
    · rw [if_neg c_2] at hf
      refine lv_aload_n hx hb d_Symbols_firstFitting_9 rfl (lv_at hl 0 rfl) ?_
      refine lv_aload_n hx hb d_Symbols_firstFitting_10 rfl (lv_at hl 0 rfl) ?_
      refine va_get (D := (dC, dI)) (ci := 0) (v := .ref (sy_a 9)) (C := R_Symbols) (T := T_Symbols) (N := 10) hx hb hts in_Symbols hown hK hP 0 rfl rfl 9 (by decide) (hts _ t_235) (fun _ h9 => h9) rfl d_Symbols_firstFitting_11 ?_
      refine lv_iload hx hb d_Symbols_firstFitting_14 (lv_at hl 4 rfl) ?_
      obtain ⟨h_3, hf⟩ := gd_ex hf
      refine va_iald (f := Sy_fc sy) hx hb hK hP 9 0 rfl rfl (inb_in h_3) d_Symbols_firstFitting_16 ?_
      refine lv_iload_n hx hb d_Symbols_firstFitting_17 rfl (lv_at hl 1 rfl) ?_
      obtain ⟨r_4, hf1, hf⟩ := bd_ex hf
      try dsimp only at hf
      have hPc := hP.sub (ws' := (wSy cI cZ cJ sy_a sy)) [0, 1, 2, 3, 4, 5, 6, 7, 8, 9] rfl
      have hDc := hD.sub (ws' := (wSy cI cZ cJ sy_a sy)) [0, 1, 2, 3, 4, 5, 6, 7, 8, 9] (by decide) rfl
      have hFc := va_free (wc := (wSy cI cZ cJ sy_a sy)) hD hS hA [0, 1, 2, 3, 4, 5, 6, 7, 8, 9] rfl
      refine va_calli (va_runV (As := [.int (Sy_fc sy x4.toNatClampNeg), .int x1]) (rest := []) ⟨hx, hb, hml, hown, hts⟩ (k_Symbols_difference l dC dI cI cZ cJ sy_a H.size hf1) (cwV 2 hts (gV t_810 t_791 t_792 t_62 t_793) rfl rfl rfl hd_Symbols_difference ⟨Nat.le_trans (Nat.le_of_ble_eq_true rfl) hRf, Nat.le_trans (Nat.le_of_ble_eq_true rfl) hRl⟩) ⟨kP_blind, va_recv hK hP (ci := 0) (q0 := 0) rfl rfl, kP_at hPc hK hDc hN⟩ rfl rfl hl.1 rfl (lv_room (Nat.le_of_ble_eq_true rfl)) d_Symbols_firstFitting_18 hRc) hS (fun q _ h => hFc q h) hFc (fun r9 u t H1 locs ht hvm hw hB hz1 hk1 hS => ?_)
      rw [hw]
      obtain ⟨hP, hD⟩ := kQ_join (wr := ([] : va_W)) (w1 := (wSy cI cZ cJ sy_a sy)) hP hD [0, 1, 2, 3, 4, 5, 6, 7, 8, 9] [] rfl rfl (by decide) (by decide) ht hk1 hFc hB
      generalize H1 = H at hP hS ⊢
      have hP : va_P (dC, dI) vwCl (wSy cI cZ cJ sy_a sy) H := hP.sub [0, 1, 2, 3, 4, 5, 6, 7, 8, 9] rfl
      have hD : va_D A (wSy cI cZ cJ sy_a sy) := hD.sub [0, 1, 2, 3, 4, 5, 6, 7, 8, 9] (by decide) rfl
      refine lv_istore (lv' := [(5, .int r_4), (0, .ref (sy_a 0)), (1, .int x1), (2, .int x2), (3, .int x3), (4, .int x4)]) hx hb d_Symbols_firstFitting_21 hl (by decide) rfl (fun ls hl => ?_)
      refine lv_iload hx hb d_Symbols_firstFitting_23 (lv_at hl 0 rfl) ?_
      refine lv_iconst (v := (-1)) hx hb d_Symbols_firstFitting_25 (by decide) ?_
      refine lv_icmp_eq (tgt := 38) hx hb d_Symbols_firstFitting_26 (by decide) (fun c_5 => ?_) (fun c_5 => ?_)
      · rw [if_pos c_5] at hf
        obtain ⟨x4_6, ex4_6, hf⟩ := lt_ex hf
        try dsimp only at hf
        refine lv_iinc (v := x4_6) (lv' := [(4, .int x4_6), (5, .int r_4), (0, .ref (sy_a 0)), (1, .int x1), (2, .int x2), (3, .int x3)]) hx hb d_Symbols_firstFitting_38 hl (k := 5) rfl (by rw [ex4_6]; rfl) (by decide) rfl (fun ls hl => ?_)
        refine lv_goto (tgt := 3) hx hb d_Symbols_firstFitting_41 (by decide) ?_
        exact ih _ _ _ x4_6 hP hD hS (lv_sub hl [2, 3, 4, 5, 0] rfl) hf
      · rw [if_neg c_5] at hf
        refine lv_iload hx hb d_Symbols_firstFitting_29 (lv_at hl 0 rfl) ?_
        refine lv_iload_n hx hb d_Symbols_firstFitting_31 rfl (lv_at hl 3 rfl) ?_
        refine lv_icmp_gt (tgt := 38) hx hb d_Symbols_firstFitting_32 (by decide) (fun c_7 => ?_) (fun c_7 => ?_)
        · rw [if_pos c_7] at hf
          obtain ⟨x4_8, ex4_8, hf⟩ := lt_ex hf
          try dsimp only at hf
          refine lv_iinc (v := x4_8) (lv' := [(4, .int x4_8), (5, .int r_4), (0, .ref (sy_a 0)), (1, .int x1), (2, .int x2), (3, .int x3)]) hx hb d_Symbols_firstFitting_38 hl (k := 5) rfl (by rw [ex4_8]; rfl) (by decide) rfl (fun ls hl => ?_)
          refine lv_goto (tgt := 3) hx hb d_Symbols_firstFitting_41 (by decide) ?_
          exact ih _ _ _ x4_8 hP hD hS (lv_sub hl [2, 3, 4, 5, 0] rfl) hf
        · rw [if_neg c_7] at hf
          exact hk35 _ _ _ x4 hP hD hS (lv_sub hl [5] rfl) hf
set_option maxHeartbeats 4000000 in
set_option maxRecDepth 100000 in
theorem B_Symbols_firstFitting {cells slots : Nat} {dC : Nat → ClassId} {dI : Nat → Nat → Nat} {cI cZ cJ : ClassId} {sy_a : Nat → Nat} {sy : Sy} {x1 : Int32} {x2 : Int32} {x3 : Int32} {res : Int32} (C0 : cxt p c m s args R cells slots R_Symbols c_Symbols_firstFitting tb 6 (dC, dI) vwCl (TYS cI cZ cJ) A 2 46)
    (hr37 : ∀ (H : Heap) (locs : List Loc) (ls : Array Slot) (v : Int32), va_P (dC, dI) vwCl (wSy cI cZ cJ sy_a sy) H → va_D A (wSy cI cZ cJ sy_a sy) → va_S A s.heap H locs → some v = some res → W p l e R s m args below meth c H locs cells slots Q (F0 m 37 ls [.int v]))
    (hr45 : ∀ (H : Heap) (locs : List Loc) (ls : Array Slot) (v : Int32), va_P (dC, dI) vwCl (wSy cI cZ cJ sy_a sy) H → va_D A (wSy cI cZ cJ sy_a sy) → va_S A s.heap H locs → some v = some res → W p l e R s m args below meth c H locs cells slots Q (F0 m 45 ls [.int v]))
    {H : Heap} {locs : List Loc} {ls : Array Slot} (hP : va_P (dC, dI) vwCl (wSy cI cZ cJ sy_a sy) H) (hD : va_D A (wSy cI cZ cJ sy_a sy)) (hS : va_S A s.heap H locs) (hl : lv_has ls 6 [(0, .ref (sy_a 0)), (1, .int x1), (2, .int x2), (3, .int x3)]) (hf : f_Symbols_firstFitting sy x1 x2 x3 = some res) : W p l e R s m args below meth c H locs cells slots Q (F0 m 0 ls []) := by
  obtain ⟨hx, hb, hml, hown, hts, hK, hA, hRf, hRl, hN, hRc⟩ := id C0
  rw [f_Symbols_firstFitting] at hf
  refine lv_iconst (v := 0) hx hb d_Symbols_firstFitting_0 (by decide) ?_
  refine lv_istore (lv' := [(4, .int 0), (0, .ref (sy_a 0)), (1, .int x1), (2, .int x2), (3, .int x3)]) hx hb d_Symbols_firstFitting_1 hl (by decide) rfl (fun ls hl => ?_)
  refine L_Symbols_firstFitting_3 C0 (fun H locs ls x4_9 hP hD hS hl hf => ?_) (fun H locs ls  hP hD hS hl hf => ?_) 100000 _ _ _ 0 hP hD hS (lv_sub hl [1, 2, 3, 4, 0] rfl) hf
  · try dsimp only at hf
    refine lv_iload hx hb d_Symbols_firstFitting_35 (lv_at hl 0 rfl) ?_
    exact hr37 _ _ _ x4_9 hP hD hS hf
  · try dsimp only at hf
    refine lv_iload_n hx hb d_Symbols_firstFitting_44 rfl (lv_at hl 0 rfl) ?_
    exact hr45 _ _ _ x3 hP hD hS hf
end
set_option maxHeartbeats 4000000 in
set_option maxRecDepth 100000 in
theorem k_Symbols_firstFitting (l : Launch) (dC : Nat → ClassId) (dI : Nat → Nat → Nat) (cI cZ cJ : ClassId) (sy_a : Nat → Nat) (sz : Nat) {sy : Sy} {x1 : Int32} {x2 : Int32} {x3 : Int32} {r : Int32} (hf : f_Symbols_firstFitting sy x1 x2 x3 = some r) :
    Met l y_Symbols_firstFitting ws_Symbols_firstFitting ({ frames := 2, cells := 0, slots := 0, locals := 46 }) (va_Pc [.ref (sy_a 0), .int x1, .int x2, .int x3] (kP (dC, dI) vwCl (TYS cI cZ cJ) (wSy cI cZ cJ sy_a sy) sz)) (va_Qi (fun (q : Int32) (_ : Unit) => q = r) (fun _ t => kQ (dC, dI) vwCl (TYS cI cZ cJ) (wSy cI cZ cJ sy_a sy) sz (wSy cI cZ cJ sy_a sy) t) (va_A (wSy cI cZ cJ sy_a sy) sz)) 0 0 (va_A (wSy cI cZ cJ sy_a sy) sz) := by
  refine Met.ofW (cc := c_Symbols_firstFitting) (maxL := 6) (ret := (some .int)) (by decide) rfl ?_
  intro p e s m args below meth c s₁ B hml hv
  obtain ⟨rfl, hsz, hP, hK, hD0, hN⟩ := hv
  have hr := B.returns
  have hlocks := B.notSynchronized
  subst hsz
  have hD := hD0.self (sz := s.heap.size)
  have hl := lv_entry ([.ref (sy_a 0), .int x1, .int x2, .int x3]) (n := 6) (Nat.le_of_ble_eq_true rfl)
  rw [lg_entry_eq]
  generalize (lg_sl ([.ref (sy_a 0), .int x1, .int x2, .int x3]) ++ List.replicate (6 - (lg_sl ([.ref (sy_a 0), .int x1, .int x2, .int x3])).length) Slot.unset).toArray = ls at hl ⊢
  refine B_Symbols_firstFitting (A := va_A (wSy cI cZ cJ sy_a sy) s.heap.size) ⟨B.exec, B.bytes, hml, findClass_of_methodNamed B.named, fun w h => atoms_spec (ws := ws_Symbols_firstFitting) B.pre w (List.mem_cons_of_mem _ h), hK, fun q h => Or.inr h, Nat.le_of_ble_eq_true rfl, Nat.le_of_ble_eq_true rfl, hN, Nat.le_of_ble_eq_true rfl, Nat.le_of_ble_eq_true rfl⟩ (fun H locs ls v hP hD hS hf => ?_) (fun H locs ls v hP hD hS hf => ?_) hP hD va_S.rf hl hf
  · cases hf
    exact W.iret B.exec B.bytes hr (fun t ht hW => ⟨⟨_, (), rfl, rfl, ⟨by rw [ht]; exact hP, va_K.moved hW.alike hK, hD⟩⟩, hS.F ht⟩) hS.2.2 d_Symbols_firstFitting_37
  · cases hf
    exact W.iret B.exec B.bytes hr (fun t ht hW => ⟨⟨_, (), rfl, rfl, ⟨by rw [ht]; exact hP, va_K.moved hW.alike hK, hD⟩⟩, hS.F ht⟩) hS.2.2 d_Symbols_firstFitting_45

/-! Symbols_classify -/
def l_Symbols_classify_4 (x1 : Int32) (k51 : Sy → Int32 → Option (Int32 × Sy)) : Nat → Sy → Int32 → Int32 → Option (Int32 × Sy)
  | 0, _, _, _ => none
  | n + 1, sy, x2, x3 => (if (Sy_n sy) ≤ x3 then k51 sy x2 else bd (f_Symbols_firstFitting sy x3 x1 x2) <| fun r_4 => (if r_4 = x2 then gd (inb x2 40) <| lt' (Sy_s_fc sy (upd (Sy_fc sy) x2.toNatClampNeg x3)) <| fun sy_11 => lt' (x2 + 1) <| fun x2_13 => gd (inb x3 40) <| lt' (Sy_s_co sy_11 (upd (Sy_co sy_11) x3.toNatClampNeg r_4)) <| fun sy_15 => lt' (x3 + 1) <| fun x3_17 => (l_Symbols_classify_4 x1 k51 n) sy_15 x2_13 x3_17 else gd (inb x3 40) <| lt' (Sy_s_co sy (upd (Sy_co sy) x3.toNatClampNeg r_4)) <| fun sy_7 => lt' (x3 + 1) <| fun x3_9 => (l_Symbols_classify_4 x1 k51 n) sy_7 x2 x3_9))
def f_Symbols_classify (sy : Sy) (x1 : Int32) : Option (Int32 × Sy) := l_Symbols_classify_4 x1 (fun sy_18 x2_19 => some (x2_19, sy_18)) 100000 sy 0 0
section
variable {p : Program} {l : Launch} {e : Env} {R : Room} {s : State} {m : MethodId} {args : Array Value} {below : List Frame} {meth : Method} {c : Code} {Q : State → Prop} {A : Nat → Prop}
set_option maxHeartbeats 4000000 in
set_option maxRecDepth 100000 in
theorem L_Symbols_classify_4 {cells slots : Nat} {dC : Nat → ClassId} {dI : Nat → Nat → Nat} {cI cZ cJ : ClassId} {sy_a : Nat → Nat} {x1 : Int32} {k51 : Sy → Int32 → Option (Int32 × Sy)} {res : Int32 × Sy} (C0 : cxt p c m s args R cells slots R_Symbols c_Symbols_classify tb 5 (dC, dI) vwCl (TYS cI cZ cJ) A 3 71)
    (hk51 : ∀ (H : Heap) (locs : List Loc) (ls : Array Slot) (sy_1 : Sy) (x2_2 : Int32), va_P (dC, dI) vwCl (wSy cI cZ cJ sy_a sy_1) H → va_D A (wSy cI cZ cJ sy_a sy_1) → va_S A s.heap H locs → lv_has ls 5 [(2, .int x2_2)] → k51 sy_1 x2_2 = some res → W p l e R s m args below meth c H locs cells slots Q (F0 m 51 ls [])) :
    ∀ (n : Nat) (H : Heap) (locs : List Loc) (ls : Array Slot) (sy : Sy) (x2 : Int32) (x3 : Int32), va_P (dC, dI) vwCl (wSy cI cZ cJ sy_a sy) H → va_D A (wSy cI cZ cJ sy_a sy) → va_S A s.heap H locs → lv_has ls 5 [(0, .ref (sy_a 0)), (1, .int x1), (2, .int x2), (3, .int x3)] → l_Symbols_classify_4 x1 k51 n sy x2 x3 = some res → W p l e R s m args below meth c H locs cells slots Q (F0 m 4 ls []) := by
  obtain ⟨hx, hb, hml, hown, hts, hK, hA, hRf, hRl, hN, hRc⟩ := id C0
  intro n
  induction n with
  | zero =>
    intro H locs ls sy x2 x3 hP hD hS hl hf
    exact absurd hf (by simp [l_Symbols_classify_4])
  | succ n ih =>
    intro H locs ls sy x2 x3 hP hD hS hl hf
    rw [l_Symbols_classify_4] at hf
    refine lv_iload_n hx hb d_Symbols_classify_4 rfl (lv_at hl 3 rfl) ?_
    refine lv_aload_n hx hb d_Symbols_classify_5 rfl (lv_at hl 0 rfl) ?_
    refine va_get (D := (dC, dI)) (ci := 0) (v := .int (Sy_n sy)) (C := R_Symbols) (T := T_Symbols) (N := 10) hx hb hts in_Symbols hown hK hP 0 rfl rfl 7 (by decide) (hts _ t_230) (fun _ h9 => h9) rfl d_Symbols_classify_6 ?_
    refine lv_icmp_ge (tgt := 51) hx hb d_Symbols_classify_9 (by decide) (fun c_3 => ?_) (fun c_3 => ?_)
    · rw [if_pos c_3] at hf
      exact hk51 _ _ _ sy x2 hP hD hS (lv_sub hl [2] rfl) hf
    · rw [if_neg c_3] at hf
      refine lv_aload_n hx hb d_Symbols_classify_12 rfl (lv_at hl 0 rfl) ?_
      refine lv_iload_n hx hb d_Symbols_classify_13 rfl (lv_at hl 3 rfl) ?_
      refine lv_iload_n hx hb d_Symbols_classify_14 rfl (lv_at hl 1 rfl) ?_
      refine lv_iload_n hx hb d_Symbols_classify_15 rfl (lv_at hl 2 rfl) ?_
      obtain ⟨r_4, hf1, hf⟩ := bd_ex hf
      try dsimp only at hf
      have hPc := hP.sub (ws' := (wSy cI cZ cJ sy_a sy)) [0, 1, 2, 3, 4, 5, 6, 7, 8, 9] rfl
      have hDc := hD.sub (ws' := (wSy cI cZ cJ sy_a sy)) [0, 1, 2, 3, 4, 5, 6, 7, 8, 9] (by decide) rfl
      have hFc := va_free (wc := (wSy cI cZ cJ sy_a sy)) hD hS hA [0, 1, 2, 3, 4, 5, 6, 7, 8, 9] rfl
      refine va_calli (va_runV (As := [.int x3, .int x1, .int x2]) (rest := []) ⟨hx, hb, hml, hown, hts⟩ (k_Symbols_firstFitting l dC dI cI cZ cJ sy_a H.size hf1) (cwV 3 hts (gV t_806 t_808 t_22 t_62 t_809) rfl rfl rfl hd_Symbols_firstFitting ⟨Nat.le_trans (Nat.le_of_ble_eq_true rfl) hRf, Nat.le_trans (Nat.le_of_ble_eq_true rfl) hRl⟩) ⟨kP_blind, va_recv hK hP (ci := 0) (q0 := 0) rfl rfl, kP_at hPc hK hDc hN⟩ rfl rfl hl.1 rfl (lv_room (Nat.le_of_ble_eq_true rfl)) d_Symbols_classify_16 hRc) hS (fun q _ h => hFc q h) hFc (fun r9 u t H1 locs ht hvm hw hB hz1 hk1 hS => ?_)
      rw [hw]
      obtain ⟨hP, hD⟩ := kQ_join (wr := ([] : va_W)) (w1 := (wSy cI cZ cJ sy_a sy)) hP hD [0, 1, 2, 3, 4, 5, 6, 7, 8, 9] [] rfl rfl (by decide) (by decide) ht hk1 hFc hB
      generalize H1 = H at hP hS ⊢
      have hP : va_P (dC, dI) vwCl (wSy cI cZ cJ sy_a sy) H := hP.sub [0, 1, 2, 3, 4, 5, 6, 7, 8, 9] rfl
      have hD : va_D A (wSy cI cZ cJ sy_a sy) := hD.sub [0, 1, 2, 3, 4, 5, 6, 7, 8, 9] (by decide) rfl
      refine lv_istore (lv' := [(4, .int r_4), (0, .ref (sy_a 0)), (1, .int x1), (2, .int x2), (3, .int x3)]) hx hb d_Symbols_classify_19 hl (by decide) rfl (fun ls hl => ?_)
      refine lv_iload hx hb d_Symbols_classify_21 (lv_at hl 0 rfl) ?_
      refine lv_iload_n hx hb d_Symbols_classify_23 rfl (lv_at hl 3 rfl) ?_
      refine lv_icmp_ne (tgt := 37) hx hb d_Symbols_classify_24 (by decide) (fun c_5 => ?_) (fun c_5 => ?_)
      · rw [if_neg c_5] at hf
        refine lv_aload_n hx hb d_Symbols_classify_37 rfl (lv_at hl 1 rfl) ?_
        refine va_get (D := (dC, dI)) (ci := 0) (v := .ref (sy_a 7)) (C := R_Symbols) (T := T_Symbols) (N := 10) hx hb hts in_Symbols hown hK hP 0 rfl rfl 6 (by decide) (hts _ t_228) (fun _ h9 => h9) rfl d_Symbols_classify_38 ?_
        refine lv_iload_n hx hb d_Symbols_classify_41 rfl (lv_at hl 4 rfl) ?_
        refine lv_iload hx hb d_Symbols_classify_42 (lv_at hl 0 rfl) ?_
        obtain ⟨h_6, hf⟩ := gd_ex hf
        refine va_iast (f := Sy_co sy) hx hb hK hP hD hS 7 0 rfl rfl (inb_in h_6) d_Symbols_classify_44 (fun H locs hP hD hS => ?_)
        obtain ⟨sy_7, esy_7, hf⟩ := lt_ex hf
        try dsimp only at hf
        have hP : va_P (dC, dI) vwCl (wSy cI cZ cJ sy_a sy_7) H := by rw [esy_7]; exact hP
        have hD : va_D A (wSy cI cZ cJ sy_a sy_7) := by rw [esy_7]; exact hD
        obtain ⟨x3_9, ex3_9, hf⟩ := lt_ex hf
        try dsimp only at hf
        refine lv_iinc (v := x3_9) (lv' := [(3, .int x3_9), (4, .int r_4), (0, .ref (sy_a 0)), (1, .int x1), (2, .int x2)]) hx hb d_Symbols_classify_45 hl (k := 4) rfl (by rw [ex3_9]; rfl) (by decide) rfl (fun ls hl => ?_)
        refine lv_goto (tgt := 4) hx hb d_Symbols_classify_48 (by decide) ?_
        exact ih _ _ _ sy_7 x2 x3_9 hP hD hS (lv_sub hl [2, 3, 4, 0] rfl) hf
      · rw [if_pos c_5] at hf
        refine lv_aload_n hx hb d_Symbols_classify_27 rfl (lv_at hl 1 rfl) ?_
        refine va_get (D := (dC, dI)) (ci := 0) (v := .ref (sy_a 9)) (C := R_Symbols) (T := T_Symbols) (N := 10) hx hb hts in_Symbols hown hK hP 0 rfl rfl 9 (by decide) (hts _ t_235) (fun _ h9 => h9) rfl d_Symbols_classify_28 ?_
        refine lv_iload_n hx hb d_Symbols_classify_31 rfl (lv_at hl 3 rfl) ?_
        refine lv_iload_n hx hb d_Symbols_classify_32 rfl (lv_at hl 4 rfl) ?_
        obtain ⟨h_10, hf⟩ := gd_ex hf
        refine va_iast (f := Sy_fc sy) hx hb hK hP hD hS 9 0 rfl rfl (inb_in h_10) d_Symbols_classify_33 (fun H locs hP hD hS => ?_)
        obtain ⟨sy_11, esy_11, hf⟩ := lt_ex hf
        try dsimp only at hf
        have hP : va_P (dC, dI) vwCl (wSy cI cZ cJ sy_a sy_11) H := by rw [esy_11]; exact hP
        have hD : va_D A (wSy cI cZ cJ sy_a sy_11) := by rw [esy_11]; exact hD
        obtain ⟨x2_13, ex2_13, hf⟩ := lt_ex hf
        try dsimp only at hf
        refine lv_iinc (v := x2_13) (lv' := [(2, .int x2_13), (4, .int r_4), (0, .ref (sy_a 0)), (1, .int x1), (3, .int x3)]) hx hb d_Symbols_classify_34 hl (k := 3) rfl (by rw [ex2_13]; rfl) (by decide) rfl (fun ls hl => ?_)
        refine lv_aload_n hx hb d_Symbols_classify_37 rfl (lv_at hl 2 rfl) ?_
        refine va_get (D := (dC, dI)) (ci := 0) (v := .ref (sy_a 7)) (C := R_Symbols) (T := T_Symbols) (N := 10) hx hb hts in_Symbols hown hK hP 0 rfl rfl 6 (by decide) (hts _ t_228) (fun _ h9 => h9) rfl d_Symbols_classify_38 ?_
        refine lv_iload_n hx hb d_Symbols_classify_41 rfl (lv_at hl 4 rfl) ?_
        refine lv_iload hx hb d_Symbols_classify_42 (lv_at hl 1 rfl) ?_
        obtain ⟨h_14, hf⟩ := gd_ex hf
        refine va_iast (f := Sy_co sy_11) hx hb hK hP hD hS 7 0 rfl rfl (inb_in h_14) d_Symbols_classify_44 (fun H locs hP hD hS => ?_)
        obtain ⟨sy_15, esy_15, hf⟩ := lt_ex hf
        try dsimp only at hf
        have hP : va_P (dC, dI) vwCl (wSy cI cZ cJ sy_a sy_15) H := by rw [esy_15]; exact hP
        have hD : va_D A (wSy cI cZ cJ sy_a sy_15) := by rw [esy_15]; exact hD
        obtain ⟨x3_17, ex3_17, hf⟩ := lt_ex hf
        try dsimp only at hf
        refine lv_iinc (v := x3_17) (lv' := [(3, .int x3_17), (2, .int x2_13), (4, .int r_4), (0, .ref (sy_a 0)), (1, .int x1)]) hx hb d_Symbols_classify_45 hl (k := 4) rfl (by rw [ex3_17]; rfl) (by decide) rfl (fun ls hl => ?_)
        refine lv_goto (tgt := 4) hx hb d_Symbols_classify_48 (by decide) ?_
        exact ih _ _ _ sy_15 x2_13 x3_17 hP hD hS (lv_sub hl [3, 4, 1, 0] rfl) hf
set_option maxHeartbeats 4000000 in
set_option maxRecDepth 100000 in
theorem B_Symbols_classify {cells slots : Nat} {dC : Nat → ClassId} {dI : Nat → Nat → Nat} {cI cZ cJ : ClassId} {sy_a : Nat → Nat} {sy : Sy} {x1 : Int32} {res : Int32 × Sy} (C0 : cxt p c m s args R cells slots R_Symbols c_Symbols_classify tb 5 (dC, dI) vwCl (TYS cI cZ cJ) A 3 71)
    (hr52 : ∀ (H : Heap) (locs : List Loc) (ls : Array Slot) (v : Int32) (sy' : Sy), va_P (dC, dI) vwCl (wSy cI cZ cJ sy_a sy') H → va_D A (wSy cI cZ cJ sy_a sy') → va_S A s.heap H locs → some (v, sy') = some res → W p l e R s m args below meth c H locs cells slots Q (F0 m 52 ls [.int v]))
    {H : Heap} {locs : List Loc} {ls : Array Slot} (hP : va_P (dC, dI) vwCl (wSy cI cZ cJ sy_a sy) H) (hD : va_D A (wSy cI cZ cJ sy_a sy)) (hS : va_S A s.heap H locs) (hl : lv_has ls 5 [(0, .ref (sy_a 0)), (1, .int x1)]) (hf : f_Symbols_classify sy x1 = some res) : W p l e R s m args below meth c H locs cells slots Q (F0 m 0 ls []) := by
  obtain ⟨hx, hb, hml, hown, hts, hK, hA, hRf, hRl, hN, hRc⟩ := id C0
  rw [f_Symbols_classify] at hf
  refine lv_iconst (v := 0) hx hb d_Symbols_classify_0 (by decide) ?_
  refine lv_istore_n (lv' := [(2, .int 0), (0, .ref (sy_a 0)), (1, .int x1)]) hx hb d_Symbols_classify_1 rfl hl (by decide) rfl (fun ls hl => ?_)
  refine lv_iconst (v := 0) hx hb d_Symbols_classify_2 (by decide) ?_
  refine lv_istore_n (lv' := [(3, .int 0), (2, .int 0), (0, .ref (sy_a 0)), (1, .int x1)]) hx hb d_Symbols_classify_3 rfl hl (by decide) rfl (fun ls hl => ?_)
  refine L_Symbols_classify_4 C0 (fun H locs ls sy_18 x2_19 hP hD hS hl hf => ?_) 100000 _ _ _ sy 0 0 hP hD hS (lv_sub hl [2, 3, 1, 0] rfl) hf
  try dsimp only at hf
  refine lv_iload_n hx hb d_Symbols_classify_51 rfl (lv_at hl 0 rfl) ?_
  exact hr52 _ _ _ x2_19 sy_18 hP hD hS hf
end
set_option maxHeartbeats 4000000 in
set_option maxRecDepth 100000 in
theorem k_Symbols_classify (l : Launch) (dC : Nat → ClassId) (dI : Nat → Nat → Nat) (cI cZ cJ : ClassId) (sy_a : Nat → Nat) (sz : Nat) {sy : Sy} {x1 : Int32} {r : Int32} {sy' : Sy} (hf : f_Symbols_classify sy x1 = some (r, sy')) :
    Met l y_Symbols_classify ws_Symbols_classify ({ frames := 3, cells := 0, slots := 0, locals := 71 }) (va_Pc [.ref (sy_a 0), .int x1] (kP (dC, dI) vwCl (TYS cI cZ cJ) (wSy cI cZ cJ sy_a sy) sz)) (va_Qi (fun (q : Int32) (_ : Unit) => q = r) (fun _ t => kQ (dC, dI) vwCl (TYS cI cZ cJ) (wSy cI cZ cJ sy_a sy) sz (wSy cI cZ cJ sy_a sy') t) (va_A (wSy cI cZ cJ sy_a sy) sz)) 0 0 (va_A (wSy cI cZ cJ sy_a sy) sz) := by
  refine Met.ofW (cc := c_Symbols_classify) (maxL := 5) (ret := (some .int)) (by decide) rfl ?_
  intro p e s m args below meth c s₁ B hml hv
  obtain ⟨rfl, hsz, hP, hK, hD0, hN⟩ := hv
  have hr := B.returns
  have hlocks := B.notSynchronized
  subst hsz
  have hD := hD0.self (sz := s.heap.size)
  have hl := lv_entry ([.ref (sy_a 0), .int x1]) (n := 5) (Nat.le_of_ble_eq_true rfl)
  rw [lg_entry_eq]
  generalize (lg_sl ([.ref (sy_a 0), .int x1]) ++ List.replicate (5 - (lg_sl ([.ref (sy_a 0), .int x1])).length) Slot.unset).toArray = ls at hl ⊢
  refine B_Symbols_classify (A := va_A (wSy cI cZ cJ sy_a sy) s.heap.size) ⟨B.exec, B.bytes, hml, findClass_of_methodNamed B.named, fun w h => atoms_spec (ws := ws_Symbols_classify) B.pre w (List.mem_cons_of_mem _ h), hK, fun q h => Or.inr h, Nat.le_of_ble_eq_true rfl, Nat.le_of_ble_eq_true rfl, hN, Nat.le_of_ble_eq_true rfl, Nat.le_of_ble_eq_true rfl⟩ (fun H locs ls v sy'1 hP hD hS hf => ?_) hP hD va_S.rf hl hf
  · cases hf
    exact W.iret B.exec B.bytes hr (fun t ht hW => ⟨⟨_, (), rfl, rfl, ⟨by rw [ht]; exact hP, va_K.moved hW.alike hK, hD⟩⟩, hS.F ht⟩) hS.2.2 d_Symbols_classify_52

/-! Symbols_add -/
def l_Symbols_add_44 (x2 : Int32) (x3 : Int32) (k65 : Sy → Option (Int32 × Sy)) : Nat → Sy → Int32 → Option (Int32 × Sy)
  | 0, _, _ => none
  | n + 1, sy, x4 => (if x2 ≤ x4 then k65 sy else bd (f_Symbols_setRow sy x3 x4 0) <| fun (r_17, sy_18) => lt' (x4 + 1) <| fun x4_19 => (l_Symbols_add_44 x2 x3 k65 n) sy_18 x4_19)
def f_Symbols_add (sy : Sy) (x1 : Int32) (x2 : Int32) : Option (Int32 × Sy) := lt' (Sy_n sy) <| fun x3_1 => gd (inb x3_1 40) <| lt' (Sy_s_wd sy (upd (Sy_wd sy) x3_1.toNatClampNeg x1)) <| fun sy_3 => gd (inb x3_1 40) <| lt' (Sy_s_ht sy_3 (upd (Sy_ht sy_3) x3_1.toNatClampNeg x2)) <| fun sy_6 => gd (inb x3_1 40) <| lt' (Sy_s_ex sy_6 (upd (Sy_ex sy_6) x3_1.toNatClampNeg (vp_nar .boolean 0))) <| fun sy_9 => gd (inb x3_1 40) <| lt' (Sy_s_co sy_9 (upd (Sy_co sy_9) x3_1.toNatClampNeg (-1))) <| fun sy_12 => bd (f_Symbols_refine sy_12 x3_1 (-1) 0 0) <| fun sy_14 => l_Symbols_add_44 x2 x3_1 (fun sy_20 => lt' (Sy_s_n sy_20 (x3_1 + 1)) <| fun sy_21 => some (x3_1, sy_21)) 100000 sy_14 0
section
variable {p : Program} {l : Launch} {e : Env} {R : Room} {s : State} {m : MethodId} {args : Array Value} {below : List Frame} {meth : Method} {c : Code} {Q : State → Prop} {A : Nat → Prop}
set_option maxHeartbeats 4000000 in
set_option maxRecDepth 100000 in
theorem L_Symbols_add_44 {cells slots : Nat} {dC : Nat → ClassId} {dI : Nat → Nat → Nat} {cI cZ cJ : ClassId} {sy_a : Nat → Nat} {x2 : Int32} {x3 : Int32} {k65 : Sy → Option (Int32 × Sy)} {res : Int32 × Sy} (C0 : cxt p c m s args R cells slots R_Symbols c_Symbols_add tb 5 (dC, dI) vwCl (TYS cI cZ cJ) A 2 46)
    (hk65 : ∀ (H : Heap) (locs : List Loc) (ls : Array Slot) (sy_15 : Sy), va_P (dC, dI) vwCl (wSy cI cZ cJ sy_a sy_15) H → va_D A (wSy cI cZ cJ sy_a sy_15) → va_S A s.heap H locs → lv_has ls 5 [(0, .ref (sy_a 0)), (3, .int x3)] → k65 sy_15 = some res → W p l e R s m args below meth c H locs cells slots Q (F0 m 65 ls [])) :
    ∀ (n : Nat) (H : Heap) (locs : List Loc) (ls : Array Slot) (sy : Sy) (x4 : Int32), va_P (dC, dI) vwCl (wSy cI cZ cJ sy_a sy) H → va_D A (wSy cI cZ cJ sy_a sy) → va_S A s.heap H locs → lv_has ls 5 [(0, .ref (sy_a 0)), (2, .int x2), (3, .int x3), (4, .int x4)] → l_Symbols_add_44 x2 x3 k65 n sy x4 = some res → W p l e R s m args below meth c H locs cells slots Q (F0 m 44 ls []) := by
  obtain ⟨hx, hb, hml, hown, hts, hK, hA, hRf, hRl, hN, hRc⟩ := id C0
  intro n
  induction n with
  | zero =>
    intro H locs ls sy x4 hP hD hS hl hf
    exact absurd hf (by simp [l_Symbols_add_44])
  | succ n ih =>
    intro H locs ls sy x4 hP hD hS hl hf
    rw [l_Symbols_add_44] at hf
    refine lv_iload hx hb d_Symbols_add_44 (lv_at hl 3 rfl) ?_
    refine lv_iload_n hx hb d_Symbols_add_46 rfl (lv_at hl 1 rfl) ?_
    refine lv_icmp_ge (tgt := 65) hx hb d_Symbols_add_47 (by decide) (fun c_16 => ?_) (fun c_16 => ?_)
    · rw [if_pos c_16] at hf
      exact hk65 _ _ _ sy hP hD hS (lv_sub hl [0, 2] rfl) hf
    · rw [if_neg c_16] at hf
      refine lv_aload_n hx hb d_Symbols_add_50 rfl (lv_at hl 0 rfl) ?_
      refine lv_iload_n hx hb d_Symbols_add_51 rfl (lv_at hl 2 rfl) ?_
      refine lv_iload hx hb d_Symbols_add_52 (lv_at hl 3 rfl) ?_
      refine lv_iconst (v := 0) hx hb d_Symbols_add_54 (by decide) ?_
      obtain ⟨⟨r_17, sy_18⟩, hf1, hf⟩ := bd_ex hf
      try dsimp only at hf
      have hPc := hP.sub (ws' := (wSy cI cZ cJ sy_a sy)) [0, 1, 2, 3, 4, 5, 6, 7, 8, 9] rfl
      have hDc := hD.sub (ws' := (wSy cI cZ cJ sy_a sy)) [0, 1, 2, 3, 4, 5, 6, 7, 8, 9] (by decide) rfl
      have hFc := va_free (wc := (wSy cI cZ cJ sy_a sy)) hD hS hA [0, 1, 2, 3, 4, 5, 6, 7, 8, 9] rfl
      refine va_calli (va_runV (As := [.int x3, .int x4, .int 0]) (rest := []) ⟨hx, hb, hml, hown, hts⟩ (k_Symbols_setRow l dC dI cI cZ cJ sy_a H.size hf1) (cwV 3 hts (gV t_506 t_507 t_508 t_62 t_509) rfl rfl rfl hd_Symbols_setRow ⟨Nat.le_trans (Nat.le_of_ble_eq_true rfl) hRf, Nat.le_trans (Nat.le_of_ble_eq_true rfl) hRl⟩) ⟨kP_blind, va_recv hK hP (ci := 0) (q0 := 0) rfl rfl, kP_at hPc hK hDc hN⟩ rfl rfl hl.1 rfl (lv_room (Nat.le_of_ble_eq_true rfl)) d_Symbols_add_55 hRc) hS (fun q _ h => hFc q h) hFc (fun r9 u t H1 locs ht hvm hw hB hz1 hk1 hS => ?_)
      rw [hw]
      obtain ⟨hP, hD⟩ := kQ_join (wr := ([] : va_W)) (w1 := (wSy cI cZ cJ sy_a sy_18)) hP hD [0, 1, 2, 3, 4, 5, 6, 7, 8, 9] [] rfl rfl (by decide) (by decide) ht hk1 hFc hB
      generalize H1 = H at hP hS ⊢
      have hP : va_P (dC, dI) vwCl (wSy cI cZ cJ sy_a sy_18) H := hP.sub [0, 1, 2, 3, 4, 5, 6, 7, 8, 9] rfl
      have hD : va_D A (wSy cI cZ cJ sy_a sy_18) := hD.sub [0, 1, 2, 3, 4, 5, 6, 7, 8, 9] (by decide) rfl
      refine lv_pop hx hb d_Symbols_add_58 rfl ?_
      obtain ⟨x4_19, ex4_19, hf⟩ := lt_ex hf
      try dsimp only at hf
      refine lv_iinc (v := x4_19) (lv' := [(4, .int x4_19), (0, .ref (sy_a 0)), (2, .int x2), (3, .int x3)]) hx hb d_Symbols_add_59 hl (k := 3) rfl (by rw [ex4_19]; rfl) (by decide) rfl (fun ls hl => ?_)
      refine lv_goto (tgt := 44) hx hb d_Symbols_add_62 (by decide) ?_
      exact ih _ _ _ sy_18 x4_19 hP hD hS (lv_sub hl [1, 2, 3, 0] rfl) hf
set_option maxHeartbeats 4000000 in
set_option maxRecDepth 100000 in
theorem B_Symbols_add {cells slots : Nat} {dC : Nat → ClassId} {dI : Nat → Nat → Nat} {cI cZ cJ : ClassId} {sy_a : Nat → Nat} {sy : Sy} {x1 : Int32} {x2 : Int32} {res : Int32 × Sy} (C0 : cxt p c m s args R cells slots R_Symbols c_Symbols_add tb 5 (dC, dI) vwCl (TYS cI cZ cJ) A 2 46)
    (hr73 : ∀ (H : Heap) (locs : List Loc) (ls : Array Slot) (v : Int32) (sy' : Sy), va_P (dC, dI) vwCl (wSy cI cZ cJ sy_a sy') H → va_D A (wSy cI cZ cJ sy_a sy') → va_S A s.heap H locs → some (v, sy') = some res → W p l e R s m args below meth c H locs cells slots Q (F0 m 73 ls [.int v]))
    {H : Heap} {locs : List Loc} {ls : Array Slot} (hP : va_P (dC, dI) vwCl (wSy cI cZ cJ sy_a sy) H) (hD : va_D A (wSy cI cZ cJ sy_a sy)) (hS : va_S A s.heap H locs) (hl : lv_has ls 5 [(0, .ref (sy_a 0)), (1, .int x1), (2, .int x2)]) (hf : f_Symbols_add sy x1 x2 = some res) : W p l e R s m args below meth c H locs cells slots Q (F0 m 0 ls []) := by
  obtain ⟨hx, hb, hml, hown, hts, hK, hA, hRf, hRl, hN, hRc⟩ := id C0
  rw [f_Symbols_add] at hf
  refine lv_aload_n hx hb d_Symbols_add_0 rfl (lv_at hl 0 rfl) ?_
  refine va_get (D := (dC, dI)) (ci := 0) (v := .int (Sy_n sy)) (C := R_Symbols) (T := T_Symbols) (N := 10) hx hb hts in_Symbols hown hK hP 0 rfl rfl 7 (by decide) (hts _ t_230) (fun _ h9 => h9) rfl d_Symbols_add_1 ?_
  obtain ⟨x3_1, ex3_1, hf⟩ := lt_ex hf
  try dsimp only at hf
  refine tp_i ex3_1 ?_
  refine lv_istore_n (lv' := [(3, .int x3_1), (0, .ref (sy_a 0)), (1, .int x1), (2, .int x2)]) hx hb d_Symbols_add_4 rfl hl (by decide) rfl (fun ls hl => ?_)
  refine lv_aload_n hx hb d_Symbols_add_5 rfl (lv_at hl 1 rfl) ?_
  refine va_get (D := (dC, dI)) (ci := 0) (v := .ref (sy_a 1)) (C := R_Symbols) (T := T_Symbols) (N := 10) hx hb hts in_Symbols hown hK hP 0 rfl rfl 0 (by decide) (hts _ t_206) (fun _ h9 => h9) rfl d_Symbols_add_6 ?_
  refine lv_iload_n hx hb d_Symbols_add_9 rfl (lv_at hl 0 rfl) ?_
  refine lv_iload_n hx hb d_Symbols_add_10 rfl (lv_at hl 2 rfl) ?_
  obtain ⟨h_2, hf⟩ := gd_ex hf
  refine va_iast (f := Sy_wd sy) hx hb hK hP hD hS 1 0 rfl rfl (inb_in h_2) d_Symbols_add_11 (fun H locs hP hD hS => ?_)
  obtain ⟨sy_3, esy_3, hf⟩ := lt_ex hf
  try dsimp only at hf
  have hP : va_P (dC, dI) vwCl (wSy cI cZ cJ sy_a sy_3) H := by rw [esy_3]; exact hP
  have hD : va_D A (wSy cI cZ cJ sy_a sy_3) := by rw [esy_3]; exact hD
  refine lv_aload_n hx hb d_Symbols_add_12 rfl (lv_at hl 1 rfl) ?_
  refine va_get (D := (dC, dI)) (ci := 0) (v := .ref (sy_a 2)) (C := R_Symbols) (T := T_Symbols) (N := 10) hx hb hts in_Symbols hown hK hP 0 rfl rfl 1 (by decide) (hts _ t_210) (fun _ h9 => h9) rfl d_Symbols_add_13 ?_
  refine lv_iload_n hx hb d_Symbols_add_16 rfl (lv_at hl 0 rfl) ?_
  refine lv_iload_n hx hb d_Symbols_add_17 rfl (lv_at hl 3 rfl) ?_
  obtain ⟨h_5, hf⟩ := gd_ex hf
  refine va_iast (f := Sy_ht sy_3) hx hb hK hP hD hS 2 0 rfl rfl (inb_in h_5) d_Symbols_add_18 (fun H locs hP hD hS => ?_)
  obtain ⟨sy_6, esy_6, hf⟩ := lt_ex hf
  try dsimp only at hf
  have hP : va_P (dC, dI) vwCl (wSy cI cZ cJ sy_a sy_6) H := by rw [esy_6]; exact hP
  have hD : va_D A (wSy cI cZ cJ sy_a sy_6) := by rw [esy_6]; exact hD
  refine lv_aload_n hx hb d_Symbols_add_19 rfl (lv_at hl 1 rfl) ?_
  refine va_get (D := (dC, dI)) (ci := 0) (v := .ref (sy_a 3)) (C := R_Symbols) (T := T_Symbols) (N := 10) hx hb hts in_Symbols hown hK hP 0 rfl rfl 2 (by decide) (hts _ t_214) (fun _ h9 => h9) rfl d_Symbols_add_20 ?_
  refine lv_iload_n hx hb d_Symbols_add_23 rfl (lv_at hl 0 rfl) ?_
  refine lv_iconst (v := 0) hx hb d_Symbols_add_24 (by decide) ?_
  obtain ⟨h_8, hf⟩ := gd_ex hf
  refine va_zast (f := Sy_ex sy_6) hx hb hK hP hD hS 3 1 rfl rfl (inb_in h_8) d_Symbols_add_25 (fun H locs hP hD hS => ?_)
  obtain ⟨sy_9, esy_9, hf⟩ := lt_ex hf
  try dsimp only at hf
  have hP : va_P (dC, dI) vwCl (wSy cI cZ cJ sy_a sy_9) H := by rw [esy_9]; exact hP
  have hD : va_D A (wSy cI cZ cJ sy_a sy_9) := by rw [esy_9]; exact hD
  refine lv_aload_n hx hb d_Symbols_add_26 rfl (lv_at hl 1 rfl) ?_
  refine va_get (D := (dC, dI)) (ci := 0) (v := .ref (sy_a 7)) (C := R_Symbols) (T := T_Symbols) (N := 10) hx hb hts in_Symbols hown hK hP 0 rfl rfl 6 (by decide) (hts _ t_228) (fun _ h9 => h9) rfl d_Symbols_add_27 ?_
  refine lv_iload_n hx hb d_Symbols_add_30 rfl (lv_at hl 0 rfl) ?_
  refine lv_iconst (v := (-1)) hx hb d_Symbols_add_31 (by decide) ?_
  obtain ⟨h_11, hf⟩ := gd_ex hf
  refine va_iast (f := Sy_co sy_9) hx hb hK hP hD hS 7 0 rfl rfl (inb_in h_11) d_Symbols_add_32 (fun H locs hP hD hS => ?_)
  obtain ⟨sy_12, esy_12, hf⟩ := lt_ex hf
  try dsimp only at hf
  have hP : va_P (dC, dI) vwCl (wSy cI cZ cJ sy_a sy_12) H := by rw [esy_12]; exact hP
  have hD : va_D A (wSy cI cZ cJ sy_a sy_12) := by rw [esy_12]; exact hD
  refine lv_aload_n hx hb d_Symbols_add_33 rfl (lv_at hl 1 rfl) ?_
  refine lv_iload_n hx hb d_Symbols_add_34 rfl (lv_at hl 0 rfl) ?_
  refine lv_iconst (v := (-1)) hx hb d_Symbols_add_35 (by decide) ?_
  refine lv_iconst (v := 0) hx hb d_Symbols_add_36 (by decide) ?_
  refine lv_iconst (v := 0) hx hb d_Symbols_add_37 (by decide) ?_
  obtain ⟨sy_14, hf1, hf⟩ := bd_ex hf
  try dsimp only at hf
  have hPc := hP.sub (ws' := (wSy cI cZ cJ sy_a sy_12)) [0, 1, 2, 3, 4, 5, 6, 7, 8, 9] rfl
  have hDc := hD.sub (ws' := (wSy cI cZ cJ sy_a sy_12)) [0, 1, 2, 3, 4, 5, 6, 7, 8, 9] (by decide) rfl
  have hFc := va_free (wc := (wSy cI cZ cJ sy_a sy_12)) hD hS hA [0, 1, 2, 3, 4, 5, 6, 7, 8, 9] rfl
  refine va_callv (va_runV (As := [.int x3_1, .int (-1), .int 0, .int 0]) (rest := []) ⟨hx, hb, hml, hown, hts⟩ (k_Symbols_refine l dC dI cI cZ cJ sy_a H.size hf1) (cwV 4 hts (gV t_502 t_503 t_504 t_62 t_505) rfl rfl rfl hd_Symbols_refine ⟨Nat.le_trans (Nat.le_of_ble_eq_true rfl) hRf, Nat.le_trans (Nat.le_of_ble_eq_true rfl) hRl⟩) ⟨kP_blind, va_recv hK hP (ci := 0) (q0 := 0) rfl rfl, kP_at hPc hK hDc hN⟩ rfl rfl hl.1 rfl (lv_room (Nat.le_of_ble_eq_true rfl)) d_Symbols_add_38 hRc) hS (fun q _ h => hFc q h) hFc (fun u t H1 locs ht hvm hw hB hz1 hk1 hS => ?_)
  obtain ⟨hP, hD⟩ := kQ_join (wr := ([] : va_W)) (w1 := (wSy cI cZ cJ sy_a sy_14)) hP hD [0, 1, 2, 3, 4, 5, 6, 7, 8, 9] [] rfl rfl (by decide) (by decide) ht hk1 hFc hB
  generalize H1 = H at hP hS ⊢
  have hP : va_P (dC, dI) vwCl (wSy cI cZ cJ sy_a sy_14) H := hP.sub [0, 1, 2, 3, 4, 5, 6, 7, 8, 9] rfl
  have hD : va_D A (wSy cI cZ cJ sy_a sy_14) := hD.sub [0, 1, 2, 3, 4, 5, 6, 7, 8, 9] (by decide) rfl
  refine lv_iconst (v := 0) hx hb d_Symbols_add_41 (by decide) ?_
  refine lv_istore (lv' := [(4, .int 0), (3, .int x3_1), (0, .ref (sy_a 0)), (1, .int x1), (2, .int x2)]) hx hb d_Symbols_add_42 hl (by decide) rfl (fun ls hl => ?_)
  refine L_Symbols_add_44 C0 (fun H locs ls sy_20 hP hD hS hl hf => ?_) 100000 _ _ _ sy_14 0 hP hD hS (lv_sub hl [2, 4, 1, 0] rfl) hf
  try dsimp only at hf
  refine lv_aload_n hx hb d_Symbols_add_65 rfl (lv_at hl 0 rfl) ?_
  refine lv_iload_n hx hb d_Symbols_add_66 rfl (lv_at hl 1 rfl) ?_
  refine lv_iconst (v := 1) hx hb d_Symbols_add_67 (by decide) ?_
  refine lv_iadd hx hb d_Symbols_add_68 ?_
  refine va_put (D := (dC, dI)) (ci := 0) (v := .int (x3_1 + 1)) (ty := .int) (C := R_Symbols) (T := T_Symbols) (N := 10) hx hb hts in_Symbols ty_Symbols tyok_Symbols nm_Symbols hown hK hP hD hS 0 rfl rfl 7 (by decide) (hts _ t_230) (fun _ h9 => h9) rfl (by decide +kernel) rfl rfl (Nat.le_of_ble_eq_true rfl) d_Symbols_add_69 (fun H locs hP hD hS => ?_)
  obtain ⟨sy_21, esy_21, hf⟩ := lt_ex hf
  try dsimp only at hf
  have hP : va_P (dC, dI) vwCl (wSy cI cZ cJ sy_a sy_21) H := by rw [esy_21]; exact hP
  have hD : va_D A (wSy cI cZ cJ sy_a sy_21) := by rw [esy_21]; exact hD
  refine lv_iload_n hx hb d_Symbols_add_72 rfl (lv_at hl 1 rfl) ?_
  exact hr73 _ _ _ x3_1 sy_21 hP hD hS hf
end
set_option maxHeartbeats 4000000 in
set_option maxRecDepth 100000 in
theorem k_Symbols_add (l : Launch) (dC : Nat → ClassId) (dI : Nat → Nat → Nat) (cI cZ cJ : ClassId) (sy_a : Nat → Nat) (sz : Nat) {sy : Sy} {x1 : Int32} {x2 : Int32} {r : Int32} {sy' : Sy} (hf : f_Symbols_add sy x1 x2 = some (r, sy')) :
    Met l y_Symbols_add ws_Symbols_add ({ frames := 2, cells := 0, slots := 0, locals := 46 }) (va_Pc [.ref (sy_a 0), .int x1, .int x2] (kP (dC, dI) vwCl (TYS cI cZ cJ) (wSy cI cZ cJ sy_a sy) sz)) (va_Qi (fun (q : Int32) (_ : Unit) => q = r) (fun _ t => kQ (dC, dI) vwCl (TYS cI cZ cJ) (wSy cI cZ cJ sy_a sy) sz (wSy cI cZ cJ sy_a sy') t) (va_A (wSy cI cZ cJ sy_a sy) sz)) 0 0 (va_A (wSy cI cZ cJ sy_a sy) sz) := by
  refine Met.ofW (cc := c_Symbols_add) (maxL := 5) (ret := (some .int)) (by decide) rfl ?_
  intro p e s m args below meth c s₁ B hml hv
  obtain ⟨rfl, hsz, hP, hK, hD0, hN⟩ := hv
  have hr := B.returns
  have hlocks := B.notSynchronized
  subst hsz
  have hD := hD0.self (sz := s.heap.size)
  have hl := lv_entry ([.ref (sy_a 0), .int x1, .int x2]) (n := 5) (Nat.le_of_ble_eq_true rfl)
  rw [lg_entry_eq]
  generalize (lg_sl ([.ref (sy_a 0), .int x1, .int x2]) ++ List.replicate (5 - (lg_sl ([.ref (sy_a 0), .int x1, .int x2])).length) Slot.unset).toArray = ls at hl ⊢
  refine B_Symbols_add (A := va_A (wSy cI cZ cJ sy_a sy) s.heap.size) ⟨B.exec, B.bytes, hml, findClass_of_methodNamed B.named, fun w h => atoms_spec (ws := ws_Symbols_add) B.pre w (List.mem_cons_of_mem _ h), hK, fun q h => Or.inr h, Nat.le_of_ble_eq_true rfl, Nat.le_of_ble_eq_true rfl, hN, Nat.le_of_ble_eq_true rfl, Nat.le_of_ble_eq_true rfl⟩ (fun H locs ls v sy'1 hP hD hS hf => ?_) hP hD va_S.rf hl hf
  · cases hf
    exact W.iret B.exec B.bytes hr (fun t ht hW => ⟨⟨_, (), rfl, rfl, ⟨by rw [ht]; exact hP, va_K.moved hW.alike hK, hD⟩⟩, hS.F ht⟩) hS.2.2 d_Symbols_add_73

