theorem mle_none {ρ : Type} {b : Nat} {π : ρ → Nat} : mle (none : Option ρ) b π := fun r hr => by cases hr
theorem t_232 : (.fieldLink R_SD 75 "SymbolDictionaries$Symbols" "size" "I" : Cond) ∈ tb := List.mem_filter.mpr ⟨List.mem_of_getElem? (i := 232) (by decide +kernel), by decide +kernel⟩
theorem t_664 : (.methodLink R_SD 101 y_SD_requireSymbol : Cond) ∈ tb := List.mem_filter.mpr ⟨List.mem_of_getElem? (i := 664) (by decide +kernel), by decide +kernel⟩
theorem t_666 : (.instanceMethod y_SD_requireSymbol : Cond) ∈ tb := List.mem_filter.mpr ⟨List.mem_of_getElem? (i := 666) (by decide +kernel), by decide +kernel⟩
theorem t_21 : (.selects R_SD y_SD_requireSymbol y_SD_requireSymbol : Cond) ∈ tb := List.mem_filter.mpr ⟨List.mem_of_getElem? (i := 21) (by decide +kernel), by decide +kernel⟩
theorem t_667 : (.code y_SD_requireSymbol c_SD_requireSymbol 2 none : Cond) ∈ tb := List.mem_filter.mpr ⟨List.mem_of_getElem? (i := 667) (by decide +kernel), by decide +kernel⟩
theorem t_209 : (.fieldLink R_SD 166 "SymbolDictionaries$Symbols" "widths" "[I" : Cond) ∈ tb := List.mem_filter.mpr ⟨List.mem_of_getElem? (i := 209) (by decide +kernel), by decide +kernel⟩
theorem t_213 : (.fieldLink R_SD 169 "SymbolDictionaries$Symbols" "heights" "[I" : Cond) ∈ tb := List.mem_filter.mpr ⟨List.mem_of_getElem? (i := 213) (by decide +kernel), by decide +kernel⟩
theorem t_651 : (.methodLink R_SD 83 y_Symbols_add : Cond) ∈ tb := List.mem_filter.mpr ⟨List.mem_of_getElem? (i := 651) (by decide +kernel), by decide +kernel⟩
theorem t_660 : (.methodLink R_SD 86 y_SD_requireSample : Cond) ∈ tb := List.mem_filter.mpr ⟨List.mem_of_getElem? (i := 660) (by decide +kernel), by decide +kernel⟩
theorem t_662 : (.instanceMethod y_SD_requireSample : Cond) ∈ tb := List.mem_filter.mpr ⟨List.mem_of_getElem? (i := 662) (by decide +kernel), by decide +kernel⟩
theorem t_20 : (.selects R_SD y_SD_requireSample y_SD_requireSample : Cond) ∈ tb := List.mem_filter.mpr ⟨List.mem_of_getElem? (i := 20) (by decide +kernel), by decide +kernel⟩
theorem t_663 : (.code y_SD_requireSample c_SD_requireSample 4 none : Cond) ∈ tb := List.mem_filter.mpr ⟨List.mem_of_getElem? (i := 663) (by decide +kernel), by decide +kernel⟩
theorem t_685 : (.methodLink R_SD 90 y_Symbols_isBlack : Cond) ∈ tb := List.mem_filter.mpr ⟨List.mem_of_getElem? (i := 685) (by decide +kernel), by decide +kernel⟩
theorem t_686 : (.instanceMethod y_Symbols_isBlack : Cond) ∈ tb := List.mem_filter.mpr ⟨List.mem_of_getElem? (i := 686) (by decide +kernel), by decide +kernel⟩
theorem t_687 : (.selects R_Symbols y_Symbols_isBlack y_Symbols_isBlack : Cond) ∈ tb := List.mem_filter.mpr ⟨List.mem_of_getElem? (i := 687) (by decide +kernel), by decide +kernel⟩
theorem t_688 : (.code y_Symbols_isBlack c_Symbols_isBlack 4 (some .boolean) : Cond) ∈ tb := List.mem_filter.mpr ⟨List.mem_of_getElem? (i := 688) (by decide +kernel), by decide +kernel⟩
theorem t_689 : (.methodLink R_SD 94 y_Symbols_turn : Cond) ∈ tb := List.mem_filter.mpr ⟨List.mem_of_getElem? (i := 689) (by decide +kernel), by decide +kernel⟩
theorem t_697 : (.methodLink R_SD 97 y_Symbols_setRow : Cond) ∈ tb := List.mem_filter.mpr ⟨List.mem_of_getElem? (i := 697) (by decide +kernel), by decide +kernel⟩
theorem t_220 : (.fieldLink R_SD 104 "SymbolDictionaries$Symbols" "bases" "[I" : Cond) ∈ tb := List.mem_filter.mpr ⟨List.mem_of_getElem? (i := 220) (by decide +kernel), by decide +kernel⟩
theorem t_715 : (.methodLink R_SD 114 y_Symbols_comesBefore : Cond) ∈ tb := List.mem_filter.mpr ⟨List.mem_of_getElem? (i := 715) (by decide +kernel), by decide +kernel⟩
theorem t_713 : (.methodLink R_SD 108 y_Symbols_refine : Cond) ∈ tb := List.mem_filter.mpr ⟨List.mem_of_getElem? (i := 713) (by decide +kernel), by decide +kernel⟩
theorem t_216 : (.fieldLink R_SD 123 "SymbolDictionaries$Symbols" "exported" "[Z" : Cond) ∈ tb := List.mem_filter.mpr ⟨List.mem_of_getElem? (i := 216) (by decide +kernel), by decide +kernel⟩
theorem t_777 : (.methodLink R_SD 172 y_Symbols_blackOf : Cond) ∈ tb := List.mem_filter.mpr ⟨List.mem_of_getElem? (i := 777) (by decide +kernel), by decide +kernel⟩
theorem t_778 : (.instanceMethod y_Symbols_blackOf : Cond) ∈ tb := List.mem_filter.mpr ⟨List.mem_of_getElem? (i := 778) (by decide +kernel), by decide +kernel⟩
theorem t_779 : (.selects R_Symbols y_Symbols_blackOf y_Symbols_blackOf : Cond) ∈ tb := List.mem_filter.mpr ⟨List.mem_of_getElem? (i := 779) (by decide +kernel), by decide +kernel⟩
theorem t_780 : (.code y_Symbols_blackOf c_Symbols_blackOf 4 (some .int) : Cond) ∈ tb := List.mem_filter.mpr ⟨List.mem_of_getElem? (i := 780) (by decide +kernel), by decide +kernel⟩
theorem t_224 : (.fieldLink R_SD 176 "SymbolDictionaries$Symbols" "dxs" "[I" : Cond) ∈ tb := List.mem_filter.mpr ⟨List.mem_of_getElem? (i := 224) (by decide +kernel), by decide +kernel⟩
theorem t_227 : (.fieldLink R_SD 179 "SymbolDictionaries$Symbols" "dys" "[I" : Cond) ∈ tb := List.mem_filter.mpr ⟨List.mem_of_getElem? (i := 227) (by decide +kernel), by decide +kernel⟩
theorem t_781 : (.methodLink R_SD 182 y_Symbols_placeOf : Cond) ∈ tb := List.mem_filter.mpr ⟨List.mem_of_getElem? (i := 781) (by decide +kernel), by decide +kernel⟩
theorem t_790 : (.methodLink R_SD 187 y_Symbols_difference : Cond) ∈ tb := List.mem_filter.mpr ⟨List.mem_of_getElem? (i := 790) (by decide +kernel), by decide +kernel⟩
theorem t_802 : (.methodLink R_SD 192 y_Symbols_classify : Cond) ∈ tb := List.mem_filter.mpr ⟨List.mem_of_getElem? (i := 802) (by decide +kernel), by decide +kernel⟩
theorem t_803 : (.instanceMethod y_Symbols_classify : Cond) ∈ tb := List.mem_filter.mpr ⟨List.mem_of_getElem? (i := 803) (by decide +kernel), by decide +kernel⟩
theorem t_804 : (.selects R_Symbols y_Symbols_classify y_Symbols_classify : Cond) ∈ tb := List.mem_filter.mpr ⟨List.mem_of_getElem? (i := 804) (by decide +kernel), by decide +kernel⟩
theorem t_805 : (.code y_Symbols_classify c_Symbols_classify 5 (some .int) : Cond) ∈ tb := List.mem_filter.mpr ⟨List.mem_of_getElem? (i := 805) (by decide +kernel), by decide +kernel⟩
theorem t_229 : (.fieldLink R_SD 195 "SymbolDictionaries$Symbols" "classOf" "[I" : Cond) ∈ tb := List.mem_filter.mpr ⟨List.mem_of_getElem? (i := 229) (by decide +kernel), by decide +kernel⟩
theorem t_97 : (.fieldLink R_SD 131 "SymbolDictionaries$ByteRow" "size" "I" : Cond) ∈ tb := List.mem_filter.mpr ⟨List.mem_of_getElem? (i := 97) (by decide +kernel), by decide +kernel⟩
theorem t_95 : (.fieldLink R_SD 137 "SymbolDictionaries$ByteRow" "bytes" "[I" : Cond) ∈ tb := List.mem_filter.mpr ⟨List.mem_of_getElem? (i := 95) (by decide +kernel), by decide +kernel⟩
theorem t_756 : (.methodLink R_SD 144 y_ByteRow_add : Cond) ∈ tb := List.mem_filter.mpr ⟨List.mem_of_getElem? (i := 756) (by decide +kernel), by decide +kernel⟩
theorem t_769 : (.methodLink R_ByteRow 23 y_ByteRow_add : Cond) ∈ tb := List.mem_filter.mpr ⟨List.mem_of_getElem? (i := 769) (by decide +kernel), by decide +kernel⟩
theorem t_765 : (.methodLink R_SD 148 y_ByteRow_addAll : Cond) ∈ tb := List.mem_filter.mpr ⟨List.mem_of_getElem? (i := 765) (by decide +kernel), by decide +kernel⟩
theorem t_766 : (.instanceMethod y_ByteRow_addAll : Cond) ∈ tb := List.mem_filter.mpr ⟨List.mem_of_getElem? (i := 766) (by decide +kernel), by decide +kernel⟩
theorem t_767 : (.selects R_ByteRow y_ByteRow_addAll y_ByteRow_addAll : Cond) ∈ tb := List.mem_filter.mpr ⟨List.mem_of_getElem? (i := 767) (by decide +kernel), by decide +kernel⟩
theorem t_768 : (.code y_ByteRow_addAll c_ByteRow_addAll 3 none : Cond) ∈ tb := List.mem_filter.mpr ⟨List.mem_of_getElem? (i := 768) (by decide +kernel), by decide +kernel⟩
theorem t_437 : (.methodLink R_SD 152 y_Symbols_removeAll : Cond) ∈ tb := List.mem_filter.mpr ⟨List.mem_of_getElem? (i := 437) (by decide +kernel), by decide +kernel⟩
theorem t_438 : (.instanceMethod y_Symbols_removeAll : Cond) ∈ tb := List.mem_filter.mpr ⟨List.mem_of_getElem? (i := 438) (by decide +kernel), by decide +kernel⟩
theorem t_439 : (.selects R_Symbols y_Symbols_removeAll y_Symbols_removeAll : Cond) ∈ tb := List.mem_filter.mpr ⟨List.mem_of_getElem? (i := 439) (by decide +kernel), by decide +kernel⟩
theorem t_440 : (.code y_Symbols_removeAll c_Symbols_removeAll 1 none : Cond) ∈ tb := List.mem_filter.mpr ⟨List.mem_of_getElem? (i := 440) (by decide +kernel), by decide +kernel⟩
theorem t_545 : (.methodLink R_SD 162 y_ByteRow_removeAll : Cond) ∈ tb := List.mem_filter.mpr ⟨List.mem_of_getElem? (i := 545) (by decide +kernel), by decide +kernel⟩
theorem t_284 : (.methodLink R_SD 127 y_Writer_tell : Cond) ∈ tb := List.mem_filter.mpr ⟨List.mem_of_getElem? (i := 284) (by decide +kernel), by decide +kernel⟩
theorem t_285 : (.instanceMethod y_Writer_tell : Cond) ∈ tb := List.mem_filter.mpr ⟨List.mem_of_getElem? (i := 285) (by decide +kernel), by decide +kernel⟩
theorem t_286 : (.selects R_Writer y_Writer_tell y_Writer_tell : Cond) ∈ tb := List.mem_filter.mpr ⟨List.mem_of_getElem? (i := 286) (by decide +kernel), by decide +kernel⟩
theorem t_287 : (.code y_Writer_tell c_Writer_tell 3 none : Cond) ∈ tb := List.mem_filter.mpr ⟨List.mem_of_getElem? (i := 287) (by decide +kernel), by decide +kernel⟩
abbrev ws_SD_requireSymbol : List Cond := .code y_SD_requireSymbol c_SD_requireSymbol 2 none :: tb
theorem hd_SD_requireSymbol : y_SD_requireSymbol.cls = R_SD ∧ y_SD_requireSymbol.cls ≠ "java/lang/invoke/MethodHandle" ∧ y_SD_requireSymbol.cls ≠ "java/lang/invoke/VarHandle" ∧ (parseMethodDescriptor y_SD_requireSymbol.desc).map (fun d => d.parameters.length) = some 1 := by decide +kernel
theorem d_SD_requireSymbol_0 : decode c_SD_requireSymbol 0 = .ok (.iload_n 1, 1) := by decide +kernel
theorem d_SD_requireSymbol_1 : decode c_SD_requireSymbol 1 = .ok (.ifCond .lt 14, 3) := by decide +kernel
theorem d_SD_requireSymbol_4 : decode c_SD_requireSymbol 4 = .ok (.iload_n 1, 1) := by decide +kernel
theorem d_SD_requireSymbol_5 : decode c_SD_requireSymbol 5 = .ok (.aload_n 0, 1) := by decide +kernel
theorem d_SD_requireSymbol_6 : decode c_SD_requireSymbol 6 = .ok (.getfield 61, 3) := by decide +kernel
theorem d_SD_requireSymbol_9 : decode c_SD_requireSymbol 9 = .ok (.getfield 75, 3) := by decide +kernel
theorem d_SD_requireSymbol_12 : decode c_SD_requireSymbol 12 = .ok (.if_icmp .lt 13, 3) := by decide +kernel
theorem d_SD_requireSymbol_15 : decode c_SD_requireSymbol 15 = .ok (.new 132, 3) := by decide +kernel
theorem d_SD_requireSymbol_18 : decode c_SD_requireSymbol 18 = .ok (.dup, 1) := by decide +kernel
theorem d_SD_requireSymbol_19 : decode c_SD_requireSymbol 19 = .ok (.ldc 198, 2) := by decide +kernel
theorem d_SD_requireSymbol_21 : decode c_SD_requireSymbol 21 = .ok (.invokespecial 136, 3) := by decide +kernel
theorem d_SD_requireSymbol_24 : decode c_SD_requireSymbol 24 = .ok (.athrow, 1) := by decide +kernel
theorem d_SD_requireSymbol_25 : decode c_SD_requireSymbol 25 = .ok (.return_, 1) := by decide +kernel
abbrev ws_SD_requireSample : List Cond := .code y_SD_requireSample c_SD_requireSample 4 none :: tb
theorem hd_SD_requireSample : y_SD_requireSample.cls = R_SD ∧ y_SD_requireSample.cls ≠ "java/lang/invoke/MethodHandle" ∧ y_SD_requireSample.cls ≠ "java/lang/invoke/VarHandle" ∧ (parseMethodDescriptor y_SD_requireSample.desc).map (fun d => d.parameters.length) = some 3 := by decide +kernel
theorem d_SD_requireSample_0 : decode c_SD_requireSample 0 = .ok (.aload_n 0, 1) := by decide +kernel
theorem d_SD_requireSample_1 : decode c_SD_requireSample 1 = .ok (.iload_n 1, 1) := by decide +kernel
theorem d_SD_requireSample_2 : decode c_SD_requireSample 2 = .ok (.invokevirtual 101, 3) := by decide +kernel
theorem d_SD_requireSample_5 : decode c_SD_requireSample 5 = .ok (.iload_n 2, 1) := by decide +kernel
theorem d_SD_requireSample_6 : decode c_SD_requireSample 6 = .ok (.ifCond .lt 33, 3) := by decide +kernel
theorem d_SD_requireSample_9 : decode c_SD_requireSample 9 = .ok (.iload_n 2, 1) := by decide +kernel
theorem d_SD_requireSample_10 : decode c_SD_requireSample 10 = .ok (.aload_n 0, 1) := by decide +kernel
theorem d_SD_requireSample_11 : decode c_SD_requireSample 11 = .ok (.getfield 61, 3) := by decide +kernel
theorem d_SD_requireSample_14 : decode c_SD_requireSample 14 = .ok (.getfield 166, 3) := by decide +kernel
theorem d_SD_requireSample_17 : decode c_SD_requireSample 17 = .ok (.iload_n 1, 1) := by decide +kernel
theorem d_SD_requireSample_18 : decode c_SD_requireSample 18 = .ok (.iaload, 1) := by decide +kernel
theorem d_SD_requireSample_19 : decode c_SD_requireSample 19 = .ok (.if_icmp .ge 20, 3) := by decide +kernel
theorem d_SD_requireSample_22 : decode c_SD_requireSample 22 = .ok (.iload_n 3, 1) := by decide +kernel
theorem d_SD_requireSample_23 : decode c_SD_requireSample 23 = .ok (.ifCond .lt 16, 3) := by decide +kernel
theorem d_SD_requireSample_26 : decode c_SD_requireSample 26 = .ok (.iload_n 3, 1) := by decide +kernel
theorem d_SD_requireSample_27 : decode c_SD_requireSample 27 = .ok (.aload_n 0, 1) := by decide +kernel
theorem d_SD_requireSample_28 : decode c_SD_requireSample 28 = .ok (.getfield 61, 3) := by decide +kernel
theorem d_SD_requireSample_31 : decode c_SD_requireSample 31 = .ok (.getfield 169, 3) := by decide +kernel
theorem d_SD_requireSample_34 : decode c_SD_requireSample 34 = .ok (.iload_n 1, 1) := by decide +kernel
theorem d_SD_requireSample_35 : decode c_SD_requireSample 35 = .ok (.iaload, 1) := by decide +kernel
theorem d_SD_requireSample_36 : decode c_SD_requireSample 36 = .ok (.if_icmp .lt 13, 3) := by decide +kernel
theorem d_SD_requireSample_39 : decode c_SD_requireSample 39 = .ok (.new 132, 3) := by decide +kernel
theorem d_SD_requireSample_42 : decode c_SD_requireSample 42 = .ok (.dup, 1) := by decide +kernel
theorem d_SD_requireSample_43 : decode c_SD_requireSample 43 = .ok (.ldc 200, 2) := by decide +kernel
theorem d_SD_requireSample_45 : decode c_SD_requireSample 45 = .ok (.invokespecial 136, 3) := by decide +kernel
theorem d_SD_requireSample_48 : decode c_SD_requireSample 48 = .ok (.athrow, 1) := by decide +kernel
theorem d_SD_requireSample_49 : decode c_SD_requireSample 49 = .ok (.return_, 1) := by decide +kernel
abbrev ws_SD_symbol : List Cond := .code y_SD_symbol c_SD_symbol 3 (some .int) :: tb
theorem hd_SD_symbol : y_SD_symbol.cls = R_SD ∧ y_SD_symbol.cls ≠ "java/lang/invoke/MethodHandle" ∧ y_SD_symbol.cls ≠ "java/lang/invoke/VarHandle" ∧ (parseMethodDescriptor y_SD_symbol.desc).map (fun d => d.parameters.length) = some 2 := by decide +kernel
theorem d_SD_symbol_0 : decode c_SD_symbol 0 = .ok (.iload_n 1, 1) := by decide +kernel
theorem d_SD_symbol_1 : decode c_SD_symbol 1 = .ok (.iconst 1, 1) := by decide +kernel
theorem d_SD_symbol_2 : decode c_SD_symbol 2 = .ok (.if_icmp .lt 20, 3) := by decide +kernel
theorem d_SD_symbol_5 : decode c_SD_symbol 5 = .ok (.iload_n 1, 1) := by decide +kernel
theorem d_SD_symbol_6 : decode c_SD_symbol 6 = .ok (.bipush 16, 2) := by decide +kernel
theorem d_SD_symbol_8 : decode c_SD_symbol 8 = .ok (.if_icmp .gt 14, 3) := by decide +kernel
theorem d_SD_symbol_11 : decode c_SD_symbol 11 = .ok (.iload_n 2, 1) := by decide +kernel
theorem d_SD_symbol_12 : decode c_SD_symbol 12 = .ok (.iconst 1, 1) := by decide +kernel
theorem d_SD_symbol_13 : decode c_SD_symbol 13 = .ok (.if_icmp .lt 9, 3) := by decide +kernel
theorem d_SD_symbol_16 : decode c_SD_symbol 16 = .ok (.iload_n 2, 1) := by decide +kernel
theorem d_SD_symbol_17 : decode c_SD_symbol 17 = .ok (.bipush 16, 2) := by decide +kernel
theorem d_SD_symbol_19 : decode c_SD_symbol 19 = .ok (.if_icmp .le 13, 3) := by decide +kernel
theorem d_SD_symbol_22 : decode c_SD_symbol 22 = .ok (.new 68, 3) := by decide +kernel
theorem d_SD_symbol_25 : decode c_SD_symbol 25 = .ok (.dup, 1) := by decide +kernel
theorem d_SD_symbol_26 : decode c_SD_symbol 26 = .ok (.ldc 70, 2) := by decide +kernel
theorem d_SD_symbol_28 : decode c_SD_symbol 28 = .ok (.invokespecial 72, 3) := by decide +kernel
theorem d_SD_symbol_31 : decode c_SD_symbol 31 = .ok (.athrow, 1) := by decide +kernel
theorem d_SD_symbol_32 : decode c_SD_symbol 32 = .ok (.aload_n 0, 1) := by decide +kernel
theorem d_SD_symbol_33 : decode c_SD_symbol 33 = .ok (.getfield 61, 3) := by decide +kernel
theorem d_SD_symbol_36 : decode c_SD_symbol 36 = .ok (.getfield 75, 3) := by decide +kernel
theorem d_SD_symbol_39 : decode c_SD_symbol 39 = .ok (.bipush 40, 2) := by decide +kernel
theorem d_SD_symbol_41 : decode c_SD_symbol 41 = .ok (.if_icmp .lt 13, 3) := by decide +kernel
theorem d_SD_symbol_44 : decode c_SD_symbol 44 = .ok (.new 78, 3) := by decide +kernel
theorem d_SD_symbol_47 : decode c_SD_symbol 47 = .ok (.dup, 1) := by decide +kernel
theorem d_SD_symbol_48 : decode c_SD_symbol 48 = .ok (.ldc 80, 2) := by decide +kernel
theorem d_SD_symbol_50 : decode c_SD_symbol 50 = .ok (.invokespecial 82, 3) := by decide +kernel
theorem d_SD_symbol_53 : decode c_SD_symbol 53 = .ok (.athrow, 1) := by decide +kernel
theorem d_SD_symbol_54 : decode c_SD_symbol 54 = .ok (.aload_n 0, 1) := by decide +kernel
theorem d_SD_symbol_55 : decode c_SD_symbol 55 = .ok (.getfield 61, 3) := by decide +kernel
theorem d_SD_symbol_58 : decode c_SD_symbol 58 = .ok (.iload_n 1, 1) := by decide +kernel
theorem d_SD_symbol_59 : decode c_SD_symbol 59 = .ok (.iload_n 2, 1) := by decide +kernel
theorem d_SD_symbol_60 : decode c_SD_symbol 60 = .ok (.invokevirtual 83, 3) := by decide +kernel
theorem d_SD_symbol_63 : decode c_SD_symbol 63 = .ok (.ireturn, 1) := by decide +kernel
abbrev ws_SD_put : List Cond := .code y_SD_put c_SD_put 5 (some .boolean) :: tb
theorem hd_SD_put : y_SD_put.cls = R_SD ∧ y_SD_put.cls ≠ "java/lang/invoke/MethodHandle" ∧ y_SD_put.cls ≠ "java/lang/invoke/VarHandle" ∧ (parseMethodDescriptor y_SD_put.desc).map (fun d => d.parameters.length) = some 4 := by decide +kernel
theorem d_SD_put_0 : decode c_SD_put 0 = .ok (.aload_n 0, 1) := by decide +kernel
theorem d_SD_put_1 : decode c_SD_put 1 = .ok (.iload_n 1, 1) := by decide +kernel
theorem d_SD_put_2 : decode c_SD_put 2 = .ok (.iload_n 2, 1) := by decide +kernel
theorem d_SD_put_3 : decode c_SD_put 3 = .ok (.iload_n 3, 1) := by decide +kernel
theorem d_SD_put_4 : decode c_SD_put 4 = .ok (.invokevirtual 86, 3) := by decide +kernel
theorem d_SD_put_7 : decode c_SD_put 7 = .ok (.aload_n 0, 1) := by decide +kernel
theorem d_SD_put_8 : decode c_SD_put 8 = .ok (.getfield 61, 3) := by decide +kernel
theorem d_SD_put_11 : decode c_SD_put 11 = .ok (.iload_n 1, 1) := by decide +kernel
theorem d_SD_put_12 : decode c_SD_put 12 = .ok (.iload_n 2, 1) := by decide +kernel
theorem d_SD_put_13 : decode c_SD_put 13 = .ok (.iload_n 3, 1) := by decide +kernel
theorem d_SD_put_14 : decode c_SD_put 14 = .ok (.invokevirtual 90, 3) := by decide +kernel
theorem d_SD_put_17 : decode c_SD_put 17 = .ok (.iload 4, 2) := by decide +kernel
theorem d_SD_put_19 : decode c_SD_put 19 = .ok (.if_icmp .ne 5, 3) := by decide +kernel
theorem d_SD_put_22 : decode c_SD_put 22 = .ok (.iconst 0, 1) := by decide +kernel
theorem d_SD_put_23 : decode c_SD_put 23 = .ok (.ireturn, 1) := by decide +kernel
theorem d_SD_put_24 : decode c_SD_put 24 = .ok (.aload_n 0, 1) := by decide +kernel
theorem d_SD_put_25 : decode c_SD_put 25 = .ok (.getfield 61, 3) := by decide +kernel
theorem d_SD_put_28 : decode c_SD_put 28 = .ok (.iload_n 1, 1) := by decide +kernel
theorem d_SD_put_29 : decode c_SD_put 29 = .ok (.iload_n 2, 1) := by decide +kernel
theorem d_SD_put_30 : decode c_SD_put 30 = .ok (.iload_n 3, 1) := by decide +kernel
theorem d_SD_put_31 : decode c_SD_put 31 = .ok (.invokevirtual 94, 3) := by decide +kernel
theorem d_SD_put_34 : decode c_SD_put 34 = .ok (.iconst 1, 1) := by decide +kernel
theorem d_SD_put_35 : decode c_SD_put 35 = .ok (.ireturn, 1) := by decide +kernel
abbrev ws_SD_row : List Cond := .code y_SD_row c_SD_row 4 (some .int) :: tb
theorem hd_SD_row : y_SD_row.cls = R_SD ∧ y_SD_row.cls ≠ "java/lang/invoke/MethodHandle" ∧ y_SD_row.cls ≠ "java/lang/invoke/VarHandle" ∧ (parseMethodDescriptor y_SD_row.desc).map (fun d => d.parameters.length) = some 3 := by decide +kernel
theorem d_SD_row_0 : decode c_SD_row 0 = .ok (.aload_n 0, 1) := by decide +kernel
theorem d_SD_row_1 : decode c_SD_row 1 = .ok (.iload_n 1, 1) := by decide +kernel
theorem d_SD_row_2 : decode c_SD_row 2 = .ok (.iconst 0, 1) := by decide +kernel
theorem d_SD_row_3 : decode c_SD_row 3 = .ok (.iload_n 2, 1) := by decide +kernel
theorem d_SD_row_4 : decode c_SD_row 4 = .ok (.invokevirtual 86, 3) := by decide +kernel
theorem d_SD_row_7 : decode c_SD_row 7 = .ok (.aload_n 0, 1) := by decide +kernel
theorem d_SD_row_8 : decode c_SD_row 8 = .ok (.getfield 61, 3) := by decide +kernel
theorem d_SD_row_11 : decode c_SD_row 11 = .ok (.iload_n 1, 1) := by decide +kernel
theorem d_SD_row_12 : decode c_SD_row 12 = .ok (.iload_n 2, 1) := by decide +kernel
theorem d_SD_row_13 : decode c_SD_row 13 = .ok (.iload_n 3, 1) := by decide +kernel
theorem d_SD_row_14 : decode c_SD_row 14 = .ok (.invokevirtual 97, 3) := by decide +kernel
theorem d_SD_row_17 : decode c_SD_row 17 = .ok (.ireturn, 1) := by decide +kernel
abbrev ws_SD_at : List Cond := .code y_SD_at c_SD_at 4 (some .boolean) :: tb
theorem hd_SD_at : y_SD_at.cls = R_SD ∧ y_SD_at.cls ≠ "java/lang/invoke/MethodHandle" ∧ y_SD_at.cls ≠ "java/lang/invoke/VarHandle" ∧ (parseMethodDescriptor y_SD_at.desc).map (fun d => d.parameters.length) = some 3 := by decide +kernel
theorem d_SD_at_0 : decode c_SD_at 0 = .ok (.aload_n 0, 1) := by decide +kernel
theorem d_SD_at_1 : decode c_SD_at 1 = .ok (.iload_n 1, 1) := by decide +kernel
theorem d_SD_at_2 : decode c_SD_at 2 = .ok (.iload_n 2, 1) := by decide +kernel
theorem d_SD_at_3 : decode c_SD_at 3 = .ok (.iload_n 3, 1) := by decide +kernel
theorem d_SD_at_4 : decode c_SD_at 4 = .ok (.invokevirtual 86, 3) := by decide +kernel
theorem d_SD_at_7 : decode c_SD_at 7 = .ok (.aload_n 0, 1) := by decide +kernel
theorem d_SD_at_8 : decode c_SD_at 8 = .ok (.getfield 61, 3) := by decide +kernel
theorem d_SD_at_11 : decode c_SD_at 11 = .ok (.iload_n 1, 1) := by decide +kernel
theorem d_SD_at_12 : decode c_SD_at 12 = .ok (.iload_n 2, 1) := by decide +kernel
theorem d_SD_at_13 : decode c_SD_at 13 = .ok (.iload_n 3, 1) := by decide +kernel
theorem d_SD_at_14 : decode c_SD_at 14 = .ok (.invokevirtual 90, 3) := by decide +kernel
theorem d_SD_at_17 : decode c_SD_at 17 = .ok (.ireturn, 1) := by decide +kernel
abbrev ws_SD_refined : List Cond := .code y_SD_refined c_SD_refined 6 (some .int) :: tb
theorem hd_SD_refined : y_SD_refined.cls = R_SD ∧ y_SD_refined.cls ≠ "java/lang/invoke/MethodHandle" ∧ y_SD_refined.cls ≠ "java/lang/invoke/VarHandle" ∧ (parseMethodDescriptor y_SD_refined.desc).map (fun d => d.parameters.length) = some 4 := by decide +kernel
theorem d_SD_refined_0 : decode c_SD_refined 0 = .ok (.aload_n 0, 1) := by decide +kernel
theorem d_SD_refined_1 : decode c_SD_refined 1 = .ok (.iload_n 1, 1) := by decide +kernel
theorem d_SD_refined_2 : decode c_SD_refined 2 = .ok (.invokevirtual 101, 3) := by decide +kernel
theorem d_SD_refined_5 : decode c_SD_refined 5 = .ok (.aload_n 0, 1) := by decide +kernel
theorem d_SD_refined_6 : decode c_SD_refined 6 = .ok (.getfield 61, 3) := by decide +kernel
theorem d_SD_refined_9 : decode c_SD_refined 9 = .ok (.getfield 104, 3) := by decide +kernel
theorem d_SD_refined_12 : decode c_SD_refined 12 = .ok (.iload_n 1, 1) := by decide +kernel
theorem d_SD_refined_13 : decode c_SD_refined 13 = .ok (.iaload, 1) := by decide +kernel
theorem d_SD_refined_14 : decode c_SD_refined 14 = .ok (.istore 5, 2) := by decide +kernel
theorem d_SD_refined_16 : decode c_SD_refined 16 = .ok (.iload_n 2, 1) := by decide +kernel
theorem d_SD_refined_17 : decode c_SD_refined 17 = .ok (.iconst (-1), 1) := by decide +kernel
theorem d_SD_refined_18 : decode c_SD_refined 18 = .ok (.if_icmp .ne 17, 3) := by decide +kernel
theorem d_SD_refined_21 : decode c_SD_refined 21 = .ok (.aload_n 0, 1) := by decide +kernel
theorem d_SD_refined_22 : decode c_SD_refined 22 = .ok (.getfield 61, 3) := by decide +kernel
theorem d_SD_refined_25 : decode c_SD_refined 25 = .ok (.iload_n 1, 1) := by decide +kernel
theorem d_SD_refined_26 : decode c_SD_refined 26 = .ok (.iconst (-1), 1) := by decide +kernel
theorem d_SD_refined_27 : decode c_SD_refined 27 = .ok (.iconst 0, 1) := by decide +kernel
theorem d_SD_refined_28 : decode c_SD_refined 28 = .ok (.iconst 0, 1) := by decide +kernel
theorem d_SD_refined_29 : decode c_SD_refined 29 = .ok (.invokevirtual 108, 3) := by decide +kernel
theorem d_SD_refined_32 : decode c_SD_refined 32 = .ok (.iload 5, 2) := by decide +kernel
theorem d_SD_refined_34 : decode c_SD_refined 34 = .ok (.ireturn, 1) := by decide +kernel
theorem d_SD_refined_35 : decode c_SD_refined 35 = .ok (.aload_n 0, 1) := by decide +kernel
theorem d_SD_refined_36 : decode c_SD_refined 36 = .ok (.iload_n 2, 1) := by decide +kernel
theorem d_SD_refined_37 : decode c_SD_refined 37 = .ok (.invokevirtual 101, 3) := by decide +kernel
theorem d_SD_refined_40 : decode c_SD_refined 40 = .ok (.iload_n 3, 1) := by decide +kernel
theorem d_SD_refined_41 : decode c_SD_refined 41 = .ok (.bipush (-4), 2) := by decide +kernel
theorem d_SD_refined_43 : decode c_SD_refined 43 = .ok (.if_icmp .lt 21, 3) := by decide +kernel
theorem d_SD_refined_46 : decode c_SD_refined 46 = .ok (.iload_n 3, 1) := by decide +kernel
theorem d_SD_refined_47 : decode c_SD_refined 47 = .ok (.iconst 4, 1) := by decide +kernel
theorem d_SD_refined_48 : decode c_SD_refined 48 = .ok (.if_icmp .gt 16, 3) := by decide +kernel
theorem d_SD_refined_51 : decode c_SD_refined 51 = .ok (.iload 4, 2) := by decide +kernel
theorem d_SD_refined_53 : decode c_SD_refined 53 = .ok (.bipush (-4), 2) := by decide +kernel
theorem d_SD_refined_55 : decode c_SD_refined 55 = .ok (.if_icmp .lt 9, 3) := by decide +kernel
theorem d_SD_refined_58 : decode c_SD_refined 58 = .ok (.iload 4, 2) := by decide +kernel
theorem d_SD_refined_60 : decode c_SD_refined 60 = .ok (.iconst 4, 1) := by decide +kernel
theorem d_SD_refined_61 : decode c_SD_refined 61 = .ok (.if_icmp .le 13, 3) := by decide +kernel
theorem d_SD_refined_64 : decode c_SD_refined 64 = .ok (.new 68, 3) := by decide +kernel
theorem d_SD_refined_67 : decode c_SD_refined 67 = .ok (.dup, 1) := by decide +kernel
theorem d_SD_refined_68 : decode c_SD_refined 68 = .ok (.ldc 112, 2) := by decide +kernel
theorem d_SD_refined_70 : decode c_SD_refined 70 = .ok (.invokespecial 72, 3) := by decide +kernel
theorem d_SD_refined_73 : decode c_SD_refined 73 = .ok (.athrow, 1) := by decide +kernel
theorem d_SD_refined_74 : decode c_SD_refined 74 = .ok (.aload_n 0, 1) := by decide +kernel
theorem d_SD_refined_75 : decode c_SD_refined 75 = .ok (.getfield 61, 3) := by decide +kernel
theorem d_SD_refined_78 : decode c_SD_refined 78 = .ok (.iload_n 2, 1) := by decide +kernel
theorem d_SD_refined_79 : decode c_SD_refined 79 = .ok (.iload_n 1, 1) := by decide +kernel
theorem d_SD_refined_80 : decode c_SD_refined 80 = .ok (.invokevirtual 114, 3) := by decide +kernel
theorem d_SD_refined_83 : decode c_SD_refined 83 = .ok (.ifCond .ne 13, 3) := by decide +kernel
theorem d_SD_refined_86 : decode c_SD_refined 86 = .ok (.new 118, 3) := by decide +kernel
theorem d_SD_refined_89 : decode c_SD_refined 89 = .ok (.dup, 1) := by decide +kernel
theorem d_SD_refined_90 : decode c_SD_refined 90 = .ok (.ldc 120, 2) := by decide +kernel
theorem d_SD_refined_92 : decode c_SD_refined 92 = .ok (.invokespecial 122, 3) := by decide +kernel
theorem d_SD_refined_95 : decode c_SD_refined 95 = .ok (.athrow, 1) := by decide +kernel
theorem d_SD_refined_96 : decode c_SD_refined 96 = .ok (.aload_n 0, 1) := by decide +kernel
theorem d_SD_refined_97 : decode c_SD_refined 97 = .ok (.getfield 61, 3) := by decide +kernel
theorem d_SD_refined_100 : decode c_SD_refined 100 = .ok (.iload_n 1, 1) := by decide +kernel
theorem d_SD_refined_101 : decode c_SD_refined 101 = .ok (.iload_n 2, 1) := by decide +kernel
theorem d_SD_refined_102 : decode c_SD_refined 102 = .ok (.iload_n 3, 1) := by decide +kernel
theorem d_SD_refined_103 : decode c_SD_refined 103 = .ok (.iload 4, 2) := by decide +kernel
theorem d_SD_refined_105 : decode c_SD_refined 105 = .ok (.invokevirtual 108, 3) := by decide +kernel
theorem d_SD_refined_108 : decode c_SD_refined 108 = .ok (.iload 5, 2) := by decide +kernel
theorem d_SD_refined_110 : decode c_SD_refined 110 = .ok (.ireturn, 1) := by decide +kernel
abbrev ws_SD_export : List Cond := .code y_SD_export c_SD_export 4 (some .boolean) :: tb
theorem hd_SD_export : y_SD_export.cls = R_SD ∧ y_SD_export.cls ≠ "java/lang/invoke/MethodHandle" ∧ y_SD_export.cls ≠ "java/lang/invoke/VarHandle" ∧ (parseMethodDescriptor y_SD_export.desc).map (fun d => d.parameters.length) = some 2 := by decide +kernel
theorem d_SD_export_0 : decode c_SD_export 0 = .ok (.aload_n 0, 1) := by decide +kernel
theorem d_SD_export_1 : decode c_SD_export 1 = .ok (.iload_n 1, 1) := by decide +kernel
theorem d_SD_export_2 : decode c_SD_export 2 = .ok (.invokevirtual 101, 3) := by decide +kernel
theorem d_SD_export_5 : decode c_SD_export 5 = .ok (.aload_n 0, 1) := by decide +kernel
theorem d_SD_export_6 : decode c_SD_export 6 = .ok (.getfield 61, 3) := by decide +kernel
theorem d_SD_export_9 : decode c_SD_export 9 = .ok (.getfield 123, 3) := by decide +kernel
theorem d_SD_export_12 : decode c_SD_export 12 = .ok (.iload_n 1, 1) := by decide +kernel
theorem d_SD_export_13 : decode c_SD_export 13 = .ok (.baload, 1) := by decide +kernel
theorem d_SD_export_14 : decode c_SD_export 14 = .ok (.iload_n 2, 1) := by decide +kernel
theorem d_SD_export_15 : decode c_SD_export 15 = .ok (.if_icmp .eq 7, 3) := by decide +kernel
theorem d_SD_export_18 : decode c_SD_export 18 = .ok (.iconst 1, 1) := by decide +kernel
theorem d_SD_export_19 : decode c_SD_export 19 = .ok (.goto 4, 3) := by decide +kernel
theorem d_SD_export_22 : decode c_SD_export 22 = .ok (.iconst 0, 1) := by decide +kernel
theorem d_SD_export_23 : decode c_SD_export 23 = .ok (.istore_n 3, 1) := by decide +kernel
theorem d_SD_export_24 : decode c_SD_export 24 = .ok (.aload_n 0, 1) := by decide +kernel
theorem d_SD_export_25 : decode c_SD_export 25 = .ok (.getfield 61, 3) := by decide +kernel
theorem d_SD_export_28 : decode c_SD_export 28 = .ok (.getfield 123, 3) := by decide +kernel
theorem d_SD_export_31 : decode c_SD_export 31 = .ok (.iload_n 1, 1) := by decide +kernel
theorem d_SD_export_32 : decode c_SD_export 32 = .ok (.iload_n 2, 1) := by decide +kernel
theorem d_SD_export_33 : decode c_SD_export 33 = .ok (.bastore, 1) := by decide +kernel
theorem d_SD_export_34 : decode c_SD_export 34 = .ok (.iload_n 3, 1) := by decide +kernel
theorem d_SD_export_35 : decode c_SD_export 35 = .ok (.ireturn, 1) := by decide +kernel
abbrev ws_SD_told : List Cond := .code y_SD_told c_SD_told 3 (some .int) :: tb
theorem hd_SD_told : y_SD_told.cls = R_SD ∧ y_SD_told.cls ≠ "java/lang/invoke/MethodHandle" ∧ y_SD_told.cls ≠ "java/lang/invoke/VarHandle" ∧ (parseMethodDescriptor y_SD_told.desc).map (fun d => d.parameters.length) = some 2 := by decide +kernel
theorem d_SD_told_0 : decode c_SD_told 0 = .ok (.aload_n 0, 1) := by decide +kernel
theorem d_SD_told_1 : decode c_SD_told 1 = .ok (.iload_n 1, 1) := by decide +kernel
theorem d_SD_told_2 : decode c_SD_told 2 = .ok (.invokevirtual 101, 3) := by decide +kernel
theorem d_SD_told_5 : decode c_SD_told 5 = .ok (.iload_n 2, 1) := by decide +kernel
theorem d_SD_told_6 : decode c_SD_told 6 = .ok (.tableswitch 132 0 7 #[46, 56, 66, 75, 93, 103, 113, 123], 46) := by decide +kernel
theorem d_SD_told_52 : decode c_SD_told 52 = .ok (.aload_n 0, 1) := by decide +kernel
theorem d_SD_told_53 : decode c_SD_told 53 = .ok (.getfield 61, 3) := by decide +kernel
theorem d_SD_told_56 : decode c_SD_told 56 = .ok (.getfield 166, 3) := by decide +kernel
theorem d_SD_told_59 : decode c_SD_told 59 = .ok (.iload_n 1, 1) := by decide +kernel
theorem d_SD_told_60 : decode c_SD_told 60 = .ok (.iaload, 1) := by decide +kernel
theorem d_SD_told_61 : decode c_SD_told 61 = .ok (.ireturn, 1) := by decide +kernel
theorem d_SD_told_62 : decode c_SD_told 62 = .ok (.aload_n 0, 1) := by decide +kernel
theorem d_SD_told_63 : decode c_SD_told 63 = .ok (.getfield 61, 3) := by decide +kernel
theorem d_SD_told_66 : decode c_SD_told 66 = .ok (.getfield 169, 3) := by decide +kernel
theorem d_SD_told_69 : decode c_SD_told 69 = .ok (.iload_n 1, 1) := by decide +kernel
theorem d_SD_told_70 : decode c_SD_told 70 = .ok (.iaload, 1) := by decide +kernel
theorem d_SD_told_71 : decode c_SD_told 71 = .ok (.ireturn, 1) := by decide +kernel
theorem d_SD_told_72 : decode c_SD_told 72 = .ok (.aload_n 0, 1) := by decide +kernel
theorem d_SD_told_73 : decode c_SD_told 73 = .ok (.getfield 61, 3) := by decide +kernel
theorem d_SD_told_76 : decode c_SD_told 76 = .ok (.iload_n 1, 1) := by decide +kernel
theorem d_SD_told_77 : decode c_SD_told 77 = .ok (.invokevirtual 172, 3) := by decide +kernel
theorem d_SD_told_80 : decode c_SD_told 80 = .ok (.ireturn, 1) := by decide +kernel
theorem d_SD_told_81 : decode c_SD_told 81 = .ok (.aload_n 0, 1) := by decide +kernel
theorem d_SD_told_82 : decode c_SD_told 82 = .ok (.getfield 61, 3) := by decide +kernel
theorem d_SD_told_85 : decode c_SD_told 85 = .ok (.getfield 123, 3) := by decide +kernel
theorem d_SD_told_88 : decode c_SD_told 88 = .ok (.iload_n 1, 1) := by decide +kernel
theorem d_SD_told_89 : decode c_SD_told 89 = .ok (.baload, 1) := by decide +kernel
theorem d_SD_told_90 : decode c_SD_told 90 = .ok (.ifCond .eq 7, 3) := by decide +kernel
theorem d_SD_told_93 : decode c_SD_told 93 = .ok (.iconst 1, 1) := by decide +kernel
theorem d_SD_told_94 : decode c_SD_told 94 = .ok (.goto 4, 3) := by decide +kernel
theorem d_SD_told_97 : decode c_SD_told 97 = .ok (.iconst 0, 1) := by decide +kernel
theorem d_SD_told_98 : decode c_SD_told 98 = .ok (.ireturn, 1) := by decide +kernel
theorem d_SD_told_99 : decode c_SD_told 99 = .ok (.aload_n 0, 1) := by decide +kernel
theorem d_SD_told_100 : decode c_SD_told 100 = .ok (.getfield 61, 3) := by decide +kernel
theorem d_SD_told_103 : decode c_SD_told 103 = .ok (.getfield 104, 3) := by decide +kernel
theorem d_SD_told_106 : decode c_SD_told 106 = .ok (.iload_n 1, 1) := by decide +kernel
theorem d_SD_told_107 : decode c_SD_told 107 = .ok (.iaload, 1) := by decide +kernel
theorem d_SD_told_108 : decode c_SD_told 108 = .ok (.ireturn, 1) := by decide +kernel
theorem d_SD_told_109 : decode c_SD_told 109 = .ok (.aload_n 0, 1) := by decide +kernel
theorem d_SD_told_110 : decode c_SD_told 110 = .ok (.getfield 61, 3) := by decide +kernel
theorem d_SD_told_113 : decode c_SD_told 113 = .ok (.getfield 176, 3) := by decide +kernel
theorem d_SD_told_116 : decode c_SD_told 116 = .ok (.iload_n 1, 1) := by decide +kernel
theorem d_SD_told_117 : decode c_SD_told 117 = .ok (.iaload, 1) := by decide +kernel
theorem d_SD_told_118 : decode c_SD_told 118 = .ok (.ireturn, 1) := by decide +kernel
theorem d_SD_told_119 : decode c_SD_told 119 = .ok (.aload_n 0, 1) := by decide +kernel
theorem d_SD_told_120 : decode c_SD_told 120 = .ok (.getfield 61, 3) := by decide +kernel
theorem d_SD_told_123 : decode c_SD_told 123 = .ok (.getfield 179, 3) := by decide +kernel
theorem d_SD_told_126 : decode c_SD_told 126 = .ok (.iload_n 1, 1) := by decide +kernel
theorem d_SD_told_127 : decode c_SD_told 127 = .ok (.iaload, 1) := by decide +kernel
theorem d_SD_told_128 : decode c_SD_told 128 = .ok (.ireturn, 1) := by decide +kernel
theorem d_SD_told_129 : decode c_SD_told 129 = .ok (.aload_n 0, 1) := by decide +kernel
theorem d_SD_told_130 : decode c_SD_told 130 = .ok (.getfield 61, 3) := by decide +kernel
theorem d_SD_told_133 : decode c_SD_told 133 = .ok (.iload_n 1, 1) := by decide +kernel
theorem d_SD_told_134 : decode c_SD_told 134 = .ok (.invokevirtual 182, 3) := by decide +kernel
theorem d_SD_told_137 : decode c_SD_told 137 = .ok (.ireturn, 1) := by decide +kernel
theorem d_SD_told_138 : decode c_SD_told 138 = .ok (.new 68, 3) := by decide +kernel
theorem d_SD_told_141 : decode c_SD_told 141 = .ok (.dup, 1) := by decide +kernel
theorem d_SD_told_142 : decode c_SD_told 142 = .ok (.ldc 185, 2) := by decide +kernel
theorem d_SD_told_144 : decode c_SD_told 144 = .ok (.invokespecial 72, 3) := by decide +kernel
theorem d_SD_told_147 : decode c_SD_told 147 = .ok (.athrow, 1) := by decide +kernel
abbrev ws_SD_likeness : List Cond := .code y_SD_likeness c_SD_likeness 3 (some .int) :: tb
theorem hd_SD_likeness : y_SD_likeness.cls = R_SD ∧ y_SD_likeness.cls ≠ "java/lang/invoke/MethodHandle" ∧ y_SD_likeness.cls ≠ "java/lang/invoke/VarHandle" ∧ (parseMethodDescriptor y_SD_likeness.desc).map (fun d => d.parameters.length) = some 2 := by decide +kernel
theorem d_SD_likeness_0 : decode c_SD_likeness 0 = .ok (.aload_n 0, 1) := by decide +kernel
theorem d_SD_likeness_1 : decode c_SD_likeness 1 = .ok (.iload_n 1, 1) := by decide +kernel
theorem d_SD_likeness_2 : decode c_SD_likeness 2 = .ok (.invokevirtual 101, 3) := by decide +kernel
theorem d_SD_likeness_5 : decode c_SD_likeness 5 = .ok (.aload_n 0, 1) := by decide +kernel
theorem d_SD_likeness_6 : decode c_SD_likeness 6 = .ok (.iload_n 2, 1) := by decide +kernel
theorem d_SD_likeness_7 : decode c_SD_likeness 7 = .ok (.invokevirtual 101, 3) := by decide +kernel
theorem d_SD_likeness_10 : decode c_SD_likeness 10 = .ok (.aload_n 0, 1) := by decide +kernel
theorem d_SD_likeness_11 : decode c_SD_likeness 11 = .ok (.getfield 61, 3) := by decide +kernel
theorem d_SD_likeness_14 : decode c_SD_likeness 14 = .ok (.iload_n 1, 1) := by decide +kernel
theorem d_SD_likeness_15 : decode c_SD_likeness 15 = .ok (.iload_n 2, 1) := by decide +kernel
theorem d_SD_likeness_16 : decode c_SD_likeness 16 = .ok (.invokevirtual 187, 3) := by decide +kernel
theorem d_SD_likeness_19 : decode c_SD_likeness 19 = .ok (.ireturn, 1) := by decide +kernel
abbrev ws_SD_classes : List Cond := .code y_SD_classes c_SD_classes 2 (some .int) :: tb
theorem hd_SD_classes : y_SD_classes.cls = R_SD ∧ y_SD_classes.cls ≠ "java/lang/invoke/MethodHandle" ∧ y_SD_classes.cls ≠ "java/lang/invoke/VarHandle" ∧ (parseMethodDescriptor y_SD_classes.desc).map (fun d => d.parameters.length) = some 1 := by decide +kernel
theorem d_SD_classes_0 : decode c_SD_classes 0 = .ok (.iload_n 1, 1) := by decide +kernel
theorem d_SD_classes_1 : decode c_SD_classes 1 = .ok (.ifCond .ge 13, 3) := by decide +kernel
theorem d_SD_classes_4 : decode c_SD_classes 4 = .ok (.new 68, 3) := by decide +kernel
theorem d_SD_classes_7 : decode c_SD_classes 7 = .ok (.dup, 1) := by decide +kernel
theorem d_SD_classes_8 : decode c_SD_classes 8 = .ok (.ldc 190, 2) := by decide +kernel
theorem d_SD_classes_10 : decode c_SD_classes 10 = .ok (.invokespecial 72, 3) := by decide +kernel
theorem d_SD_classes_13 : decode c_SD_classes 13 = .ok (.athrow, 1) := by decide +kernel
theorem d_SD_classes_14 : decode c_SD_classes 14 = .ok (.aload_n 0, 1) := by decide +kernel
theorem d_SD_classes_15 : decode c_SD_classes 15 = .ok (.getfield 61, 3) := by decide +kernel
theorem d_SD_classes_18 : decode c_SD_classes 18 = .ok (.iload_n 1, 1) := by decide +kernel
theorem d_SD_classes_19 : decode c_SD_classes 19 = .ok (.invokevirtual 192, 3) := by decide +kernel
theorem d_SD_classes_22 : decode c_SD_classes 22 = .ok (.ireturn, 1) := by decide +kernel
abbrev ws_SD_cls : List Cond := .code y_SD_cls c_SD_cls 2 (some .int) :: tb
theorem hd_SD_cls : y_SD_cls.cls = R_SD ∧ y_SD_cls.cls ≠ "java/lang/invoke/MethodHandle" ∧ y_SD_cls.cls ≠ "java/lang/invoke/VarHandle" ∧ (parseMethodDescriptor y_SD_cls.desc).map (fun d => d.parameters.length) = some 1 := by decide +kernel
theorem d_SD_cls_0 : decode c_SD_cls 0 = .ok (.aload_n 0, 1) := by decide +kernel
theorem d_SD_cls_1 : decode c_SD_cls 1 = .ok (.iload_n 1, 1) := by decide +kernel
theorem d_SD_cls_2 : decode c_SD_cls 2 = .ok (.invokevirtual 101, 3) := by decide +kernel
theorem d_SD_cls_5 : decode c_SD_cls 5 = .ok (.aload_n 0, 1) := by decide +kernel
theorem d_SD_cls_6 : decode c_SD_cls 6 = .ok (.getfield 61, 3) := by decide +kernel
theorem d_SD_cls_9 : decode c_SD_cls 9 = .ok (.getfield 195, 3) := by decide +kernel
theorem d_SD_cls_12 : decode c_SD_cls 12 = .ok (.iload_n 1, 1) := by decide +kernel
theorem d_SD_cls_13 : decode c_SD_cls 13 = .ok (.iaload, 1) := by decide +kernel
theorem d_SD_cls_14 : decode c_SD_cls 14 = .ok (.ireturn, 1) := by decide +kernel
abbrev ws_SD_byteAt : List Cond := .code y_SD_byteAt c_SD_byteAt 2 (some .int) :: tb
theorem hd_SD_byteAt : y_SD_byteAt.cls = R_SD ∧ y_SD_byteAt.cls ≠ "java/lang/invoke/MethodHandle" ∧ y_SD_byteAt.cls ≠ "java/lang/invoke/VarHandle" ∧ (parseMethodDescriptor y_SD_byteAt.desc).map (fun d => d.parameters.length) = some 1 := by decide +kernel
theorem d_SD_byteAt_0 : decode c_SD_byteAt 0 = .ok (.iload_n 1, 1) := by decide +kernel
theorem d_SD_byteAt_1 : decode c_SD_byteAt 1 = .ok (.ifCond .lt 14, 3) := by decide +kernel
theorem d_SD_byteAt_4 : decode c_SD_byteAt 4 = .ok (.iload_n 1, 1) := by decide +kernel
theorem d_SD_byteAt_5 : decode c_SD_byteAt 5 = .ok (.aload_n 0, 1) := by decide +kernel
theorem d_SD_byteAt_6 : decode c_SD_byteAt 6 = .ok (.getfield 27, 3) := by decide +kernel
theorem d_SD_byteAt_9 : decode c_SD_byteAt 9 = .ok (.getfield 131, 3) := by decide +kernel
theorem d_SD_byteAt_12 : decode c_SD_byteAt 12 = .ok (.if_icmp .lt 13, 3) := by decide +kernel
theorem d_SD_byteAt_15 : decode c_SD_byteAt 15 = .ok (.new 132, 3) := by decide +kernel
theorem d_SD_byteAt_18 : decode c_SD_byteAt 18 = .ok (.dup, 1) := by decide +kernel
theorem d_SD_byteAt_19 : decode c_SD_byteAt 19 = .ok (.ldc 134, 2) := by decide +kernel
theorem d_SD_byteAt_21 : decode c_SD_byteAt 21 = .ok (.invokespecial 136, 3) := by decide +kernel
theorem d_SD_byteAt_24 : decode c_SD_byteAt 24 = .ok (.athrow, 1) := by decide +kernel
theorem d_SD_byteAt_25 : decode c_SD_byteAt 25 = .ok (.aload_n 0, 1) := by decide +kernel
theorem d_SD_byteAt_26 : decode c_SD_byteAt 26 = .ok (.getfield 27, 3) := by decide +kernel
theorem d_SD_byteAt_29 : decode c_SD_byteAt 29 = .ok (.getfield 137, 3) := by decide +kernel
theorem d_SD_byteAt_32 : decode c_SD_byteAt 32 = .ok (.iload_n 1, 1) := by decide +kernel
theorem d_SD_byteAt_33 : decode c_SD_byteAt 33 = .ok (.iaload, 1) := by decide +kernel
theorem d_SD_byteAt_34 : decode c_SD_byteAt 34 = .ok (.ireturn, 1) := by decide +kernel
abbrev ws_SD_feed : List Cond := .code y_SD_feed c_SD_feed 2 (some .int) :: tb
theorem hd_SD_feed : y_SD_feed.cls = R_SD ∧ y_SD_feed.cls ≠ "java/lang/invoke/MethodHandle" ∧ y_SD_feed.cls ≠ "java/lang/invoke/VarHandle" ∧ (parseMethodDescriptor y_SD_feed.desc).map (fun d => d.parameters.length) = some 1 := by decide +kernel
theorem d_SD_feed_0 : decode c_SD_feed 0 = .ok (.iload_n 1, 1) := by decide +kernel
theorem d_SD_feed_1 : decode c_SD_feed 1 = .ok (.ifCond .lt 10, 3) := by decide +kernel
theorem d_SD_feed_4 : decode c_SD_feed 4 = .ok (.iload_n 1, 1) := by decide +kernel
theorem d_SD_feed_5 : decode c_SD_feed 5 = .ok (.sipush 255, 3) := by decide +kernel
theorem d_SD_feed_8 : decode c_SD_feed 8 = .ok (.if_icmp .le 13, 3) := by decide +kernel
theorem d_SD_feed_11 : decode c_SD_feed 11 = .ok (.new 68, 3) := by decide +kernel
theorem d_SD_feed_14 : decode c_SD_feed 14 = .ok (.dup, 1) := by decide +kernel
theorem d_SD_feed_15 : decode c_SD_feed 15 = .ok (.ldc 140, 2) := by decide +kernel
theorem d_SD_feed_17 : decode c_SD_feed 17 = .ok (.invokespecial 72, 3) := by decide +kernel
theorem d_SD_feed_20 : decode c_SD_feed 20 = .ok (.athrow, 1) := by decide +kernel
theorem d_SD_feed_21 : decode c_SD_feed 21 = .ok (.aload_n 0, 1) := by decide +kernel
theorem d_SD_feed_22 : decode c_SD_feed 22 = .ok (.getfield 31, 3) := by decide +kernel
theorem d_SD_feed_25 : decode c_SD_feed 25 = .ok (.getfield 131, 3) := by decide +kernel
theorem d_SD_feed_28 : decode c_SD_feed 28 = .ok (.sipush 3000, 3) := by decide +kernel
theorem d_SD_feed_31 : decode c_SD_feed 31 = .ok (.if_icmp .lt 13, 3) := by decide +kernel
theorem d_SD_feed_34 : decode c_SD_feed 34 = .ok (.new 78, 3) := by decide +kernel
theorem d_SD_feed_37 : decode c_SD_feed 37 = .ok (.dup, 1) := by decide +kernel
theorem d_SD_feed_38 : decode c_SD_feed 38 = .ok (.ldc 142, 2) := by decide +kernel
theorem d_SD_feed_40 : decode c_SD_feed 40 = .ok (.invokespecial 82, 3) := by decide +kernel
theorem d_SD_feed_43 : decode c_SD_feed 43 = .ok (.athrow, 1) := by decide +kernel
theorem d_SD_feed_44 : decode c_SD_feed 44 = .ok (.aload_n 0, 1) := by decide +kernel
theorem d_SD_feed_45 : decode c_SD_feed 45 = .ok (.getfield 31, 3) := by decide +kernel
theorem d_SD_feed_48 : decode c_SD_feed 48 = .ok (.iload_n 1, 1) := by decide +kernel
theorem d_SD_feed_49 : decode c_SD_feed 49 = .ok (.invokevirtual 144, 3) := by decide +kernel
theorem d_SD_feed_52 : decode c_SD_feed 52 = .ok (.aload_n 0, 1) := by decide +kernel
theorem d_SD_feed_53 : decode c_SD_feed 53 = .ok (.getfield 31, 3) := by decide +kernel
theorem d_SD_feed_56 : decode c_SD_feed 56 = .ok (.getfield 131, 3) := by decide +kernel
theorem d_SD_feed_59 : decode c_SD_feed 59 = .ok (.ireturn, 1) := by decide +kernel
abbrev ws_ByteRow_addAll : List Cond := .code y_ByteRow_addAll c_ByteRow_addAll 3 none :: tb
theorem hd_ByteRow_addAll : y_ByteRow_addAll.cls = R_ByteRow ∧ y_ByteRow_addAll.cls ≠ "java/lang/invoke/MethodHandle" ∧ y_ByteRow_addAll.cls ≠ "java/lang/invoke/VarHandle" ∧ (parseMethodDescriptor y_ByteRow_addAll.desc).map (fun d => d.parameters.length) = some 1 := by decide +kernel
theorem d_ByteRow_addAll_0 : decode c_ByteRow_addAll 0 = .ok (.iconst 0, 1) := by decide +kernel
theorem d_ByteRow_addAll_1 : decode c_ByteRow_addAll 1 = .ok (.istore_n 2, 1) := by decide +kernel
theorem d_ByteRow_addAll_2 : decode c_ByteRow_addAll 2 = .ok (.iload_n 2, 1) := by decide +kernel
theorem d_ByteRow_addAll_3 : decode c_ByteRow_addAll 3 = .ok (.aload_n 1, 1) := by decide +kernel
theorem d_ByteRow_addAll_4 : decode c_ByteRow_addAll 4 = .ok (.getfield 13, 3) := by decide +kernel
theorem d_ByteRow_addAll_7 : decode c_ByteRow_addAll 7 = .ok (.if_icmp .ge 19, 3) := by decide +kernel
theorem d_ByteRow_addAll_10 : decode c_ByteRow_addAll 10 = .ok (.aload_n 0, 1) := by decide +kernel
theorem d_ByteRow_addAll_11 : decode c_ByteRow_addAll 11 = .ok (.aload_n 1, 1) := by decide +kernel
theorem d_ByteRow_addAll_12 : decode c_ByteRow_addAll 12 = .ok (.getfield 7, 3) := by decide +kernel
theorem d_ByteRow_addAll_15 : decode c_ByteRow_addAll 15 = .ok (.iload_n 2, 1) := by decide +kernel
theorem d_ByteRow_addAll_16 : decode c_ByteRow_addAll 16 = .ok (.iaload, 1) := by decide +kernel
theorem d_ByteRow_addAll_17 : decode c_ByteRow_addAll 17 = .ok (.invokevirtual 23, 3) := by decide +kernel
theorem d_ByteRow_addAll_20 : decode c_ByteRow_addAll 20 = .ok (.iinc 2 1, 3) := by decide +kernel
theorem d_ByteRow_addAll_23 : decode c_ByteRow_addAll 23 = .ok (.goto (-21), 3) := by decide +kernel
theorem d_ByteRow_addAll_26 : decode c_ByteRow_addAll 26 = .ok (.return_, 1) := by decide +kernel
abbrev ws_SD_pass : List Cond := .code y_SD_pass c_SD_pass 1 (some .int) :: tb
theorem hd_SD_pass : y_SD_pass.cls = R_SD ∧ y_SD_pass.cls ≠ "java/lang/invoke/MethodHandle" ∧ y_SD_pass.cls ≠ "java/lang/invoke/VarHandle" ∧ (parseMethodDescriptor y_SD_pass.desc).map (fun d => d.parameters.length) = some 0 := by decide +kernel
theorem d_SD_pass_0 : decode c_SD_pass 0 = .ok (.aload_n 0, 1) := by decide +kernel
theorem d_SD_pass_1 : decode c_SD_pass 1 = .ok (.getfield 31, 3) := by decide +kernel
theorem d_SD_pass_4 : decode c_SD_pass 4 = .ok (.getfield 131, 3) := by decide +kernel
theorem d_SD_pass_7 : decode c_SD_pass 7 = .ok (.aload_n 0, 1) := by decide +kernel
theorem d_SD_pass_8 : decode c_SD_pass 8 = .ok (.getfield 27, 3) := by decide +kernel
theorem d_SD_pass_11 : decode c_SD_pass 11 = .ok (.getfield 131, 3) := by decide +kernel
theorem d_SD_pass_14 : decode c_SD_pass 14 = .ok (.iadd, 1) := by decide +kernel
theorem d_SD_pass_15 : decode c_SD_pass 15 = .ok (.sipush 3000, 3) := by decide +kernel
theorem d_SD_pass_18 : decode c_SD_pass 18 = .ok (.if_icmp .le 13, 3) := by decide +kernel
theorem d_SD_pass_21 : decode c_SD_pass 21 = .ok (.new 78, 3) := by decide +kernel
theorem d_SD_pass_24 : decode c_SD_pass 24 = .ok (.dup, 1) := by decide +kernel
theorem d_SD_pass_25 : decode c_SD_pass 25 = .ok (.ldc 146, 2) := by decide +kernel
theorem d_SD_pass_27 : decode c_SD_pass 27 = .ok (.invokespecial 82, 3) := by decide +kernel
theorem d_SD_pass_30 : decode c_SD_pass 30 = .ok (.athrow, 1) := by decide +kernel
theorem d_SD_pass_31 : decode c_SD_pass 31 = .ok (.aload_n 0, 1) := by decide +kernel
theorem d_SD_pass_32 : decode c_SD_pass 32 = .ok (.getfield 31, 3) := by decide +kernel
theorem d_SD_pass_35 : decode c_SD_pass 35 = .ok (.aload_n 0, 1) := by decide +kernel
theorem d_SD_pass_36 : decode c_SD_pass 36 = .ok (.getfield 27, 3) := by decide +kernel
theorem d_SD_pass_39 : decode c_SD_pass 39 = .ok (.invokevirtual 148, 3) := by decide +kernel
theorem d_SD_pass_42 : decode c_SD_pass 42 = .ok (.aload_n 0, 1) := by decide +kernel
theorem d_SD_pass_43 : decode c_SD_pass 43 = .ok (.getfield 31, 3) := by decide +kernel
theorem d_SD_pass_46 : decode c_SD_pass 46 = .ok (.getfield 131, 3) := by decide +kernel
theorem d_SD_pass_49 : decode c_SD_pass 49 = .ok (.ireturn, 1) := by decide +kernel
abbrev ws_SD_count : List Cond := .code y_SD_count c_SD_count 2 (some .int) :: tb
theorem hd_SD_count : y_SD_count.cls = R_SD ∧ y_SD_count.cls ≠ "java/lang/invoke/MethodHandle" ∧ y_SD_count.cls ≠ "java/lang/invoke/VarHandle" ∧ (parseMethodDescriptor y_SD_count.desc).map (fun d => d.parameters.length) = some 1 := by decide +kernel
theorem d_SD_count_0 : decode c_SD_count 0 = .ok (.iload_n 1, 1) := by decide +kernel
theorem d_SD_count_1 : decode c_SD_count 1 = .ok (.tableswitch 60 0 3 #[31, 39, 47, 55], 31) := by decide +kernel
theorem d_SD_count_32 : decode c_SD_count 32 = .ok (.aload_n 0, 1) := by decide +kernel
theorem d_SD_count_33 : decode c_SD_count 33 = .ok (.getfield 61, 3) := by decide +kernel
theorem d_SD_count_36 : decode c_SD_count 36 = .ok (.getfield 75, 3) := by decide +kernel
theorem d_SD_count_39 : decode c_SD_count 39 = .ok (.ireturn, 1) := by decide +kernel
theorem d_SD_count_40 : decode c_SD_count 40 = .ok (.aload_n 0, 1) := by decide +kernel
theorem d_SD_count_41 : decode c_SD_count 41 = .ok (.getfield 27, 3) := by decide +kernel
theorem d_SD_count_44 : decode c_SD_count 44 = .ok (.getfield 131, 3) := by decide +kernel
theorem d_SD_count_47 : decode c_SD_count 47 = .ok (.ireturn, 1) := by decide +kernel
theorem d_SD_count_48 : decode c_SD_count 48 = .ok (.aload_n 0, 1) := by decide +kernel
theorem d_SD_count_49 : decode c_SD_count 49 = .ok (.getfield 31, 3) := by decide +kernel
theorem d_SD_count_52 : decode c_SD_count 52 = .ok (.getfield 131, 3) := by decide +kernel
theorem d_SD_count_55 : decode c_SD_count 55 = .ok (.ireturn, 1) := by decide +kernel
theorem d_SD_count_56 : decode c_SD_count 56 = .ok (.aload_n 0, 1) := by decide +kernel
theorem d_SD_count_57 : decode c_SD_count 57 = .ok (.getfield 18, 3) := by decide +kernel
theorem d_SD_count_60 : decode c_SD_count 60 = .ok (.ireturn, 1) := by decide +kernel
theorem d_SD_count_61 : decode c_SD_count 61 = .ok (.iconst (-1), 1) := by decide +kernel
theorem d_SD_count_62 : decode c_SD_count 62 = .ok (.ireturn, 1) := by decide +kernel
abbrev ws_SD_clear : List Cond := .code y_SD_clear c_SD_clear 1 none :: tb
theorem hd_SD_clear : y_SD_clear.cls = R_SD ∧ y_SD_clear.cls ≠ "java/lang/invoke/MethodHandle" ∧ y_SD_clear.cls ≠ "java/lang/invoke/VarHandle" ∧ (parseMethodDescriptor y_SD_clear.desc).map (fun d => d.parameters.length) = some 0 := by decide +kernel
theorem d_SD_clear_0 : decode c_SD_clear 0 = .ok (.aload_n 0, 1) := by decide +kernel
theorem d_SD_clear_1 : decode c_SD_clear 1 = .ok (.getfield 61, 3) := by decide +kernel
theorem d_SD_clear_4 : decode c_SD_clear 4 = .ok (.invokevirtual 152, 3) := by decide +kernel
theorem d_SD_clear_7 : decode c_SD_clear 7 = .ok (.aload_n 0, 1) := by decide +kernel
theorem d_SD_clear_8 : decode c_SD_clear 8 = .ok (.getfield 27, 3) := by decide +kernel
theorem d_SD_clear_11 : decode c_SD_clear 11 = .ok (.invokevirtual 162, 3) := by decide +kernel
theorem d_SD_clear_14 : decode c_SD_clear 14 = .ok (.aload_n 0, 1) := by decide +kernel
theorem d_SD_clear_15 : decode c_SD_clear 15 = .ok (.getfield 31, 3) := by decide +kernel
theorem d_SD_clear_18 : decode c_SD_clear 18 = .ok (.invokevirtual 162, 3) := by decide +kernel
theorem d_SD_clear_21 : decode c_SD_clear 21 = .ok (.return_, 1) := by decide +kernel
abbrev ws_SD_write : List Cond := .code y_SD_write c_SD_write 1 (some .int) :: tb
theorem hd_SD_write : y_SD_write.cls = R_SD ∧ y_SD_write.cls ≠ "java/lang/invoke/MethodHandle" ∧ y_SD_write.cls ≠ "java/lang/invoke/VarHandle" ∧ (parseMethodDescriptor y_SD_write.desc).map (fun d => d.parameters.length) = some 0 := by decide +kernel
theorem d_SD_write_0 : decode c_SD_write 0 = .ok (.aload_n 0, 1) := by decide +kernel
theorem d_SD_write_1 : decode c_SD_write 1 = .ok (.getfield 47, 3) := by decide +kernel
theorem d_SD_write_4 : decode c_SD_write 4 = .ok (.aload_n 0, 1) := by decide +kernel
theorem d_SD_write_5 : decode c_SD_write 5 = .ok (.getfield 61, 3) := by decide +kernel
theorem d_SD_write_8 : decode c_SD_write 8 = .ok (.invokevirtual 127, 3) := by decide +kernel
theorem d_SD_write_11 : decode c_SD_write 11 = .ok (.aload_n 0, 1) := by decide +kernel
theorem d_SD_write_12 : decode c_SD_write 12 = .ok (.getfield 27, 3) := by decide +kernel
theorem d_SD_write_15 : decode c_SD_write 15 = .ok (.getfield 131, 3) := by decide +kernel
theorem d_SD_write_18 : decode c_SD_write 18 = .ok (.ireturn, 1) := by decide +kernel
/-! SD_requireSymbol -/
def f_SD_requireSymbol (sd : Sd) (cu : Sy) (x1 : Int32) : Option (Unit) := (if x1 < 0 then none else (if x1 < (Sy_n cu) then some () else none))
section
variable {p : Program} {l : Launch} {e : Env} {R : Room} {s : State} {m : MethodId} {args : Array Value} {below : List Frame} {meth : Method} {c : Code} {Q : State → Prop} {A : Nat → Prop}
set_option maxHeartbeats 4000000 in
set_option maxRecDepth 100000 in
theorem B_SD_requireSymbol {cells slots : Nat} {dC : Nat → ClassId} {dI : Nat → Nat → Nat} {cI cZ cJ : ClassId} {sd_a : Nat → Nat} {cu_a : Nat → Nat} {lk_w : Nat} {lk_v : Nat} {lk_wr : Nat} {lk_rd : Nat} {lk_sp : Nat} {sd : Sd} {cu : Sy} {x1 : Int32} {res : Unit} (C0 : cxt p c m s args R cells slots R_SD c_SD_requireSymbol tb 2 (dC, dI) vwCl (TYS cI cZ cJ) A 0 0)
    (hr25 : ∀ (H : Heap) (locs : List Loc) (ls : Array Slot), va_P (dC, dI) vwCl (wSd cI cZ cJ sd_a lk_w lk_v lk_wr lk_rd (cu_a 0) lk_sp sd ++ wSy cI cZ cJ cu_a cu) H → va_D A (wSd cI cZ cJ sd_a lk_w lk_v lk_wr lk_rd (cu_a 0) lk_sp sd ++ wSy cI cZ cJ cu_a cu) → va_S A s.heap H locs → some () = some res → W p l e R s m args below meth c H locs cells slots Q (F0 m 25 ls []))
    {H : Heap} {locs : List Loc} {ls : Array Slot} (hP : va_P (dC, dI) vwCl (wSd cI cZ cJ sd_a lk_w lk_v lk_wr lk_rd (cu_a 0) lk_sp sd ++ wSy cI cZ cJ cu_a cu) H) (hD : va_D A (wSd cI cZ cJ sd_a lk_w lk_v lk_wr lk_rd (cu_a 0) lk_sp sd ++ wSy cI cZ cJ cu_a cu)) (hS : va_S A s.heap H locs) (hl : lv_has ls 2 [(0, .ref (sd_a 0)), (1, .int x1)]) (hf : f_SD_requireSymbol sd cu x1 = some res) : W p l e R s m args below meth c H locs cells slots Q (F0 m 0 ls []) := by
  obtain ⟨hx, hb, hml, hown, hts, hK, hA, hRf, hRl, hN, hRc⟩ := id C0
  rw [f_SD_requireSymbol] at hf
  refine lv_iload_n hx hb d_SD_requireSymbol_0 rfl (lv_at hl 1 rfl) ?_
  refine lv_if_lt (tgt := 15) hx hb d_SD_requireSymbol_1 (by decide) (fun c_1 => ?_) (fun c_1 => ?_)
  · rw [if_pos c_1] at hf
    exact absurd hf (by simp)
  · rw [if_neg c_1] at hf
    refine lv_iload_n hx hb d_SD_requireSymbol_4 rfl (lv_at hl 1 rfl) ?_
    refine lv_aload_n hx hb d_SD_requireSymbol_5 rfl (lv_at hl 0 rfl) ?_
    refine va_get (D := (dC, dI)) (ci := 6) (v := .ref (cu_a 0)) (C := R_SD) (T := T_SD) (N := 7) hx hb hts in_SD hown hK hP 0 rfl rfl 5 (by decide) (hts _ t_263) (fun _ h9 => h9) rfl d_SD_requireSymbol_6 ?_
    refine va_get (D := (dC, dI)) (ci := 0) (v := .int (Sy_n cu)) (C := R_Symbols) (T := T_Symbols) (N := 10) hx hb hts in_Symbols hown hK hP 1 rfl rfl 7 (by decide) (hts _ t_232) (fun _ h9 => h9) rfl d_SD_requireSymbol_9 ?_
    refine lv_icmp_lt (tgt := 25) hx hb d_SD_requireSymbol_12 (by decide) (fun c_2 => ?_) (fun c_2 => ?_)
    · rw [if_pos c_2] at hf
      exact hr25 _ _ _ hP hD hS hf
    · rw [if_neg c_2] at hf
      exact absurd hf (by simp)
end
set_option maxHeartbeats 4000000 in
set_option maxRecDepth 100000 in
theorem k_SD_requireSymbol (l : Launch) (dC : Nat → ClassId) (dI : Nat → Nat → Nat) (cI cZ cJ : ClassId) (sd_a : Nat → Nat) (cu_a : Nat → Nat) (lk_w : Nat) (lk_v : Nat) (lk_wr : Nat) (lk_rd : Nat) (lk_sp : Nat) (sz : Nat) {sd : Sd} {cu : Sy} {x1 : Int32} (hf : f_SD_requireSymbol sd cu x1 = some ()) :
    Met l y_SD_requireSymbol ws_SD_requireSymbol ({ frames := 0, cells := 0, slots := 0, locals := 0 }) (va_Pc [.ref (sd_a 0), .int x1] (kP (dC, dI) vwCl (TYS cI cZ cJ) (wSd cI cZ cJ sd_a lk_w lk_v lk_wr lk_rd (cu_a 0) lk_sp sd ++ wSy cI cZ cJ cu_a cu) sz)) (va_Qv (fun (_ : Unit) => True) (fun _ t => kQ (dC, dI) vwCl (TYS cI cZ cJ) (wSd cI cZ cJ sd_a lk_w lk_v lk_wr lk_rd (cu_a 0) lk_sp sd ++ wSy cI cZ cJ cu_a cu) sz (wSd cI cZ cJ sd_a lk_w lk_v lk_wr lk_rd (cu_a 0) lk_sp sd ++ wSy cI cZ cJ cu_a cu) t) (va_A (wSd cI cZ cJ sd_a lk_w lk_v lk_wr lk_rd (cu_a 0) lk_sp sd ++ wSy cI cZ cJ cu_a cu) sz)) 0 0 (va_A (wSd cI cZ cJ sd_a lk_w lk_v lk_wr lk_rd (cu_a 0) lk_sp sd ++ wSy cI cZ cJ cu_a cu) sz) := by
  refine Met.ofW (cc := c_SD_requireSymbol) (maxL := 2) (ret := none) (by decide) rfl ?_
  intro p e s m args below meth c s₁ B hml hv
  obtain ⟨rfl, hsz, hP, hK, hD0, hN⟩ := hv
  have hr := B.returns
  have hlocks := B.notSynchronized
  subst hsz
  have hD := hD0.self (sz := s.heap.size)
  have hl := lv_entry ([.ref (sd_a 0), .int x1]) (n := 2) (Nat.le_of_ble_eq_true rfl)
  rw [lg_entry_eq]
  generalize (lg_sl ([.ref (sd_a 0), .int x1]) ++ List.replicate (2 - (lg_sl ([.ref (sd_a 0), .int x1])).length) Slot.unset).toArray = ls at hl ⊢
  refine B_SD_requireSymbol (A := va_A (wSd cI cZ cJ sd_a lk_w lk_v lk_wr lk_rd (cu_a 0) lk_sp sd ++ wSy cI cZ cJ cu_a cu) s.heap.size) ⟨B.exec, B.bytes, hml, findClass_of_methodNamed B.named, fun w h => atoms_spec (ws := ws_SD_requireSymbol) B.pre w (List.mem_cons_of_mem _ h), hK, fun q h => Or.inr h, Nat.le_of_ble_eq_true rfl, Nat.le_of_ble_eq_true rfl, hN, Nat.le_of_ble_eq_true rfl, Nat.le_of_ble_eq_true rfl⟩ (fun H locs ls hP hD hS hf => ?_) hP hD va_S.rf hl hf
  · cases hf
    exact W.vret B.exec B.bytes hr (fun t ht hW => ⟨⟨(), rfl, trivial, ⟨by rw [ht]; exact hP, va_K.moved hW.alike hK, hD⟩⟩, hS.F ht⟩) hS.2.2 d_SD_requireSymbol_25

/-! SD_requireSample -/
def f_SD_requireSample (sd : Sd) (cu : Sy) (x1 : Int32) (x2 : Int32) (x3 : Int32) : Option (Unit) := bd (f_SD_requireSymbol sd cu x1) <| fun _ => (if x2 < 0 then none else gd (inb x1 40) <| (if (Sy_wd cu x1.toNatClampNeg) ≤ x2 then none else (if x3 < 0 then none else gd (inb x1 40) <| (if x3 < (Sy_ht cu x1.toNatClampNeg) then some () else none))))
section
variable {p : Program} {l : Launch} {e : Env} {R : Room} {s : State} {m : MethodId} {args : Array Value} {below : List Frame} {meth : Method} {c : Code} {Q : State → Prop} {A : Nat → Prop}
set_option maxHeartbeats 4000000 in
set_option maxRecDepth 100000 in
theorem B_SD_requireSample {cells slots : Nat} {dC : Nat → ClassId} {dI : Nat → Nat → Nat} {cI cZ cJ : ClassId} {sd_a : Nat → Nat} {cu_a : Nat → Nat} {lk_w : Nat} {lk_v : Nat} {lk_wr : Nat} {lk_rd : Nat} {lk_sp : Nat} {sd : Sd} {cu : Sy} {x1 : Int32} {x2 : Int32} {x3 : Int32} {res : Unit} (C0 : cxt p c m s args R cells slots R_SD c_SD_requireSample tb 4 (dC, dI) vwCl (TYS cI cZ cJ) A 1 21)
    (hr49 : ∀ (H : Heap) (locs : List Loc) (ls : Array Slot), va_P (dC, dI) vwCl (wSd cI cZ cJ sd_a lk_w lk_v lk_wr lk_rd (cu_a 0) lk_sp sd ++ wSy cI cZ cJ cu_a cu) H → va_D A (wSd cI cZ cJ sd_a lk_w lk_v lk_wr lk_rd (cu_a 0) lk_sp sd ++ wSy cI cZ cJ cu_a cu) → va_S A s.heap H locs → some () = some res → W p l e R s m args below meth c H locs cells slots Q (F0 m 49 ls []))
    {H : Heap} {locs : List Loc} {ls : Array Slot} (hP : va_P (dC, dI) vwCl (wSd cI cZ cJ sd_a lk_w lk_v lk_wr lk_rd (cu_a 0) lk_sp sd ++ wSy cI cZ cJ cu_a cu) H) (hD : va_D A (wSd cI cZ cJ sd_a lk_w lk_v lk_wr lk_rd (cu_a 0) lk_sp sd ++ wSy cI cZ cJ cu_a cu)) (hS : va_S A s.heap H locs) (hl : lv_has ls 4 [(0, .ref (sd_a 0)), (1, .int x1), (2, .int x2), (3, .int x3)]) (hf : f_SD_requireSample sd cu x1 x2 x3 = some res) : W p l e R s m args below meth c H locs cells slots Q (F0 m 0 ls []) := by
  obtain ⟨hx, hb, hml, hown, hts, hK, hA, hRf, hRl, hN, hRc⟩ := id C0
  rw [f_SD_requireSample] at hf
  refine lv_aload_n hx hb d_SD_requireSample_0 rfl (lv_at hl 0 rfl) ?_
  refine lv_iload_n hx hb d_SD_requireSample_1 rfl (lv_at hl 1 rfl) ?_
  obtain ⟨_, hf1, hf⟩ := bd_ex hf
  try dsimp only at hf
  have hPc := hP.sub (ws' := (wSd cI cZ cJ sd_a lk_w lk_v lk_wr lk_rd (cu_a 0) lk_sp sd ++ wSy cI cZ cJ cu_a cu)) [0, 1, 2, 3, 4, 5, 6, 7, 8, 9, 10] rfl
  have hDc := hD.sub (ws' := (wSd cI cZ cJ sd_a lk_w lk_v lk_wr lk_rd (cu_a 0) lk_sp sd ++ wSy cI cZ cJ cu_a cu)) [0, 1, 2, 3, 4, 5, 6, 7, 8, 9, 10] (by decide) rfl
  have hFc := va_free (wc := (wSd cI cZ cJ sd_a lk_w lk_v lk_wr lk_rd (cu_a 0) lk_sp sd ++ wSy cI cZ cJ cu_a cu)) hD hS hA [0, 1, 2, 3, 4, 5, 6, 7, 8, 9, 10] rfl
  refine va_callv (va_runV (As := [.int x1]) (rest := []) ⟨hx, hb, hml, hown, hts⟩ (k_SD_requireSymbol l dC dI cI cZ cJ sd_a cu_a lk_w lk_v lk_wr lk_rd lk_sp H.size hf1) (cwV 1 hts (gV t_664 t_666 t_21 t_54 t_667) rfl rfl rfl hd_SD_requireSymbol ⟨Nat.le_trans (Nat.le_of_ble_eq_true rfl) hRf, Nat.le_trans (Nat.le_of_ble_eq_true rfl) hRl⟩) ⟨kP_blind, va_recv hK hP (ci := 6) (q0 := 0) rfl rfl, kP_at hPc hK hDc hN⟩ rfl rfl hl.1 rfl (lv_room (Nat.le_of_ble_eq_true rfl)) d_SD_requireSample_2 hRc) hS (fun q _ h => hFc q h) hFc (fun u t H1 locs ht hvm hw hB hz1 hk1 hS => ?_)
  obtain ⟨hP, hD⟩ := kQ_join (wr := ([] : va_W)) (w1 := (wSd cI cZ cJ sd_a lk_w lk_v lk_wr lk_rd (cu_a 0) lk_sp sd ++ wSy cI cZ cJ cu_a cu)) hP hD [0, 1, 2, 3, 4, 5, 6, 7, 8, 9, 10] [] rfl rfl (by decide) (by decide) ht hk1 hFc hB
  generalize H1 = H at hP hS ⊢
  have hP : va_P (dC, dI) vwCl (wSd cI cZ cJ sd_a lk_w lk_v lk_wr lk_rd (cu_a 0) lk_sp sd ++ wSy cI cZ cJ cu_a cu) H := hP.sub [0, 1, 2, 3, 4, 5, 6, 7, 8, 9, 10] rfl
  have hD : va_D A (wSd cI cZ cJ sd_a lk_w lk_v lk_wr lk_rd (cu_a 0) lk_sp sd ++ wSy cI cZ cJ cu_a cu) := hD.sub [0, 1, 2, 3, 4, 5, 6, 7, 8, 9, 10] (by decide) rfl
  refine lv_iload_n hx hb d_SD_requireSample_5 rfl (lv_at hl 2 rfl) ?_
  refine lv_if_lt (tgt := 39) hx hb d_SD_requireSample_6 (by decide) (fun c_1 => ?_) (fun c_1 => ?_)
  · rw [if_pos c_1] at hf
    exact absurd hf (by simp)
  · rw [if_neg c_1] at hf
    refine lv_iload_n hx hb d_SD_requireSample_9 rfl (lv_at hl 2 rfl) ?_
    refine lv_aload_n hx hb d_SD_requireSample_10 rfl (lv_at hl 0 rfl) ?_
    refine va_get (D := (dC, dI)) (ci := 6) (v := .ref (cu_a 0)) (C := R_SD) (T := T_SD) (N := 7) hx hb hts in_SD hown hK hP 0 rfl rfl 5 (by decide) (hts _ t_263) (fun _ h9 => h9) rfl d_SD_requireSample_11 ?_
    refine va_get (D := (dC, dI)) (ci := 0) (v := .ref (cu_a 1)) (C := R_Symbols) (T := T_Symbols) (N := 10) hx hb hts in_Symbols hown hK hP 1 rfl rfl 0 (by decide) (hts _ t_209) (fun _ h9 => h9) rfl d_SD_requireSample_14 ?_
    refine lv_iload_n hx hb d_SD_requireSample_17 rfl (lv_at hl 1 rfl) ?_
    obtain ⟨h_2, hf⟩ := gd_ex hf
    refine va_iald (f := Sy_wd cu) hx hb hK hP 2 0 rfl rfl (inb_in h_2) d_SD_requireSample_18 ?_
    refine lv_icmp_ge (tgt := 39) hx hb d_SD_requireSample_19 (by decide) (fun c_3 => ?_) (fun c_3 => ?_)
    · rw [if_pos c_3] at hf
      exact absurd hf (by simp)
    · rw [if_neg c_3] at hf
      refine lv_iload_n hx hb d_SD_requireSample_22 rfl (lv_at hl 3 rfl) ?_
      refine lv_if_lt (tgt := 39) hx hb d_SD_requireSample_23 (by decide) (fun c_4 => ?_) (fun c_4 => ?_)
      · rw [if_pos c_4] at hf
        exact absurd hf (by simp)
      · rw [if_neg c_4] at hf
        refine lv_iload_n hx hb d_SD_requireSample_26 rfl (lv_at hl 3 rfl) ?_
        refine lv_aload_n hx hb d_SD_requireSample_27 rfl (lv_at hl 0 rfl) ?_
        refine va_get (D := (dC, dI)) (ci := 6) (v := .ref (cu_a 0)) (C := R_SD) (T := T_SD) (N := 7) hx hb hts in_SD hown hK hP 0 rfl rfl 5 (by decide) (hts _ t_263) (fun _ h9 => h9) rfl d_SD_requireSample_28 ?_
        refine va_get (D := (dC, dI)) (ci := 0) (v := .ref (cu_a 2)) (C := R_Symbols) (T := T_Symbols) (N := 10) hx hb hts in_Symbols hown hK hP 1 rfl rfl 1 (by decide) (hts _ t_213) (fun _ h9 => h9) rfl d_SD_requireSample_31 ?_
        refine lv_iload_n hx hb d_SD_requireSample_34 rfl (lv_at hl 1 rfl) ?_
        obtain ⟨h_5, hf⟩ := gd_ex hf
        refine va_iald (f := Sy_ht cu) hx hb hK hP 3 0 rfl rfl (inb_in h_5) d_SD_requireSample_35 ?_
        refine lv_icmp_lt (tgt := 49) hx hb d_SD_requireSample_36 (by decide) (fun c_6 => ?_) (fun c_6 => ?_)
        · rw [if_pos c_6] at hf
          exact hr49 _ _ _ hP hD hS hf
        · rw [if_neg c_6] at hf
          exact absurd hf (by simp)
end
set_option maxHeartbeats 4000000 in
set_option maxRecDepth 100000 in
theorem k_SD_requireSample (l : Launch) (dC : Nat → ClassId) (dI : Nat → Nat → Nat) (cI cZ cJ : ClassId) (sd_a : Nat → Nat) (cu_a : Nat → Nat) (lk_w : Nat) (lk_v : Nat) (lk_wr : Nat) (lk_rd : Nat) (lk_sp : Nat) (sz : Nat) {sd : Sd} {cu : Sy} {x1 : Int32} {x2 : Int32} {x3 : Int32} (hf : f_SD_requireSample sd cu x1 x2 x3 = some ()) :
    Met l y_SD_requireSample ws_SD_requireSample ({ frames := 1, cells := 0, slots := 0, locals := 21 }) (va_Pc [.ref (sd_a 0), .int x1, .int x2, .int x3] (kP (dC, dI) vwCl (TYS cI cZ cJ) (wSd cI cZ cJ sd_a lk_w lk_v lk_wr lk_rd (cu_a 0) lk_sp sd ++ wSy cI cZ cJ cu_a cu) sz)) (va_Qv (fun (_ : Unit) => True) (fun _ t => kQ (dC, dI) vwCl (TYS cI cZ cJ) (wSd cI cZ cJ sd_a lk_w lk_v lk_wr lk_rd (cu_a 0) lk_sp sd ++ wSy cI cZ cJ cu_a cu) sz (wSd cI cZ cJ sd_a lk_w lk_v lk_wr lk_rd (cu_a 0) lk_sp sd ++ wSy cI cZ cJ cu_a cu) t) (va_A (wSd cI cZ cJ sd_a lk_w lk_v lk_wr lk_rd (cu_a 0) lk_sp sd ++ wSy cI cZ cJ cu_a cu) sz)) 0 0 (va_A (wSd cI cZ cJ sd_a lk_w lk_v lk_wr lk_rd (cu_a 0) lk_sp sd ++ wSy cI cZ cJ cu_a cu) sz) := by
  refine Met.ofW (cc := c_SD_requireSample) (maxL := 4) (ret := none) (by decide) rfl ?_
  intro p e s m args below meth c s₁ B hml hv
  obtain ⟨rfl, hsz, hP, hK, hD0, hN⟩ := hv
  have hr := B.returns
  have hlocks := B.notSynchronized
  subst hsz
  have hD := hD0.self (sz := s.heap.size)
  have hl := lv_entry ([.ref (sd_a 0), .int x1, .int x2, .int x3]) (n := 4) (Nat.le_of_ble_eq_true rfl)
  rw [lg_entry_eq]
  generalize (lg_sl ([.ref (sd_a 0), .int x1, .int x2, .int x3]) ++ List.replicate (4 - (lg_sl ([.ref (sd_a 0), .int x1, .int x2, .int x3])).length) Slot.unset).toArray = ls at hl ⊢
  refine B_SD_requireSample (A := va_A (wSd cI cZ cJ sd_a lk_w lk_v lk_wr lk_rd (cu_a 0) lk_sp sd ++ wSy cI cZ cJ cu_a cu) s.heap.size) ⟨B.exec, B.bytes, hml, findClass_of_methodNamed B.named, fun w h => atoms_spec (ws := ws_SD_requireSample) B.pre w (List.mem_cons_of_mem _ h), hK, fun q h => Or.inr h, Nat.le_of_ble_eq_true rfl, Nat.le_of_ble_eq_true rfl, hN, Nat.le_of_ble_eq_true rfl, Nat.le_of_ble_eq_true rfl⟩ (fun H locs ls hP hD hS hf => ?_) hP hD va_S.rf hl hf
  · cases hf
    exact W.vret B.exec B.bytes hr (fun t ht hW => ⟨⟨(), rfl, trivial, ⟨by rw [ht]; exact hP, va_K.moved hW.alike hK, hD⟩⟩, hS.F ht⟩) hS.2.2 d_SD_requireSample_49

/-! SD_symbol -/
def f_SD_symbol (sd : Sd) (cu : Sy) (x1 : Int32) (x2 : Int32) : Option (Int32 × Sy) := (if x1 < 1 then none else (if 16 < x1 then none else (if x2 < 1 then none else (if x2 ≤ 16 then (if (Sy_n cu) < 40 then bd (f_Symbols_add cu x1 x2) <| fun (r_6, cu_7) => some (r_6, cu_7) else none) else none))))
section
variable {p : Program} {l : Launch} {e : Env} {R : Room} {s : State} {m : MethodId} {args : Array Value} {below : List Frame} {meth : Method} {c : Code} {Q : State → Prop} {A : Nat → Prop}
set_option maxHeartbeats 4000000 in
set_option maxRecDepth 100000 in
theorem B_SD_symbol {cells slots : Nat} {dC : Nat → ClassId} {dI : Nat → Nat → Nat} {cI cZ cJ : ClassId} {sd_a : Nat → Nat} {cu_a : Nat → Nat} {lk_w : Nat} {lk_v : Nat} {lk_wr : Nat} {lk_rd : Nat} {lk_sp : Nat} {sd : Sd} {cu : Sy} {x1 : Int32} {x2 : Int32} {res : Int32 × Sy} (C0 : cxt p c m s args R cells slots R_SD c_SD_symbol tb 3 (dC, dI) vwCl (TYS cI cZ cJ) A 3 70)
    (hr63 : ∀ (H : Heap) (locs : List Loc) (ls : Array Slot) (v : Int32) (cu' : Sy), va_P (dC, dI) vwCl (wSd cI cZ cJ sd_a lk_w lk_v lk_wr lk_rd (cu_a 0) lk_sp sd ++ wSy cI cZ cJ cu_a cu') H → va_D A (wSd cI cZ cJ sd_a lk_w lk_v lk_wr lk_rd (cu_a 0) lk_sp sd ++ wSy cI cZ cJ cu_a cu') → va_S A s.heap H locs → some (v, cu') = some res → W p l e R s m args below meth c H locs cells slots Q (F0 m 63 ls [.int v]))
    {H : Heap} {locs : List Loc} {ls : Array Slot} (hP : va_P (dC, dI) vwCl (wSd cI cZ cJ sd_a lk_w lk_v lk_wr lk_rd (cu_a 0) lk_sp sd ++ wSy cI cZ cJ cu_a cu) H) (hD : va_D A (wSd cI cZ cJ sd_a lk_w lk_v lk_wr lk_rd (cu_a 0) lk_sp sd ++ wSy cI cZ cJ cu_a cu)) (hS : va_S A s.heap H locs) (hl : lv_has ls 3 [(0, .ref (sd_a 0)), (1, .int x1), (2, .int x2)]) (hf : f_SD_symbol sd cu x1 x2 = some res) : W p l e R s m args below meth c H locs cells slots Q (F0 m 0 ls []) := by
  obtain ⟨hx, hb, hml, hown, hts, hK, hA, hRf, hRl, hN, hRc⟩ := id C0
  rw [f_SD_symbol] at hf
  refine lv_iload_n hx hb d_SD_symbol_0 rfl (lv_at hl 1 rfl) ?_
  refine lv_iconst (v := 1) hx hb d_SD_symbol_1 (by decide) ?_
  refine lv_icmp_lt (tgt := 22) hx hb d_SD_symbol_2 (by decide) (fun c_1 => ?_) (fun c_1 => ?_)
  · rw [if_pos c_1] at hf
    exact absurd hf (by simp)
  · rw [if_neg c_1] at hf
    refine lv_iload_n hx hb d_SD_symbol_5 rfl (lv_at hl 1 rfl) ?_
    refine lv_bipush (v := 16) hx hb d_SD_symbol_6 (by decide) ?_
    refine lv_icmp_gt (tgt := 22) hx hb d_SD_symbol_8 (by decide) (fun c_2 => ?_) (fun c_2 => ?_)
    · rw [if_pos c_2] at hf
      exact absurd hf (by simp)
    · rw [if_neg c_2] at hf
      refine lv_iload_n hx hb d_SD_symbol_11 rfl (lv_at hl 2 rfl) ?_
      refine lv_iconst (v := 1) hx hb d_SD_symbol_12 (by decide) ?_
      refine lv_icmp_lt (tgt := 22) hx hb d_SD_symbol_13 (by decide) (fun c_3 => ?_) (fun c_3 => ?_)
      · rw [if_pos c_3] at hf
        exact absurd hf (by simp)
      · rw [if_neg c_3] at hf
        refine lv_iload_n hx hb d_SD_symbol_16 rfl (lv_at hl 2 rfl) ?_
        refine lv_bipush (v := 16) hx hb d_SD_symbol_17 (by decide) ?_
        refine lv_icmp_le (tgt := 32) hx hb d_SD_symbol_19 (by decide) (fun c_4 => ?_) (fun c_4 => ?_)
        · rw [if_pos c_4] at hf
          refine lv_aload_n hx hb d_SD_symbol_32 rfl (lv_at hl 0 rfl) ?_
          refine va_get (D := (dC, dI)) (ci := 6) (v := .ref (cu_a 0)) (C := R_SD) (T := T_SD) (N := 7) hx hb hts in_SD hown hK hP 0 rfl rfl 5 (by decide) (hts _ t_263) (fun _ h9 => h9) rfl d_SD_symbol_33 ?_
          refine va_get (D := (dC, dI)) (ci := 0) (v := .int (Sy_n cu)) (C := R_Symbols) (T := T_Symbols) (N := 10) hx hb hts in_Symbols hown hK hP 1 rfl rfl 7 (by decide) (hts _ t_232) (fun _ h9 => h9) rfl d_SD_symbol_36 ?_
          refine lv_bipush (v := 40) hx hb d_SD_symbol_39 (by decide) ?_
          refine lv_icmp_lt (tgt := 54) hx hb d_SD_symbol_41 (by decide) (fun c_5 => ?_) (fun c_5 => ?_)
          · rw [if_pos c_5] at hf
            refine lv_aload_n hx hb d_SD_symbol_54 rfl (lv_at hl 0 rfl) ?_
            refine va_get (D := (dC, dI)) (ci := 6) (v := .ref (cu_a 0)) (C := R_SD) (T := T_SD) (N := 7) hx hb hts in_SD hown hK hP 0 rfl rfl 5 (by decide) (hts _ t_263) (fun _ h9 => h9) rfl d_SD_symbol_55 ?_
            refine lv_iload_n hx hb d_SD_symbol_58 rfl (lv_at hl 1 rfl) ?_
            refine lv_iload_n hx hb d_SD_symbol_59 rfl (lv_at hl 2 rfl) ?_
            obtain ⟨⟨r_6, cu_7⟩, hf1, hf⟩ := bd_ex hf
            try dsimp only at hf
            have hPc := hP.sub (ws' := (wSy cI cZ cJ cu_a cu)) [1, 2, 3, 4, 5, 6, 7, 8, 9, 10] rfl
            have hDc := hD.sub (ws' := (wSy cI cZ cJ cu_a cu)) [1, 2, 3, 4, 5, 6, 7, 8, 9, 10] (by decide) rfl
            have hFc := va_free (wc := (wSy cI cZ cJ cu_a cu)) hD hS hA [1, 2, 3, 4, 5, 6, 7, 8, 9, 10] rfl
            refine va_calli (va_runV (As := [.int x1, .int x2]) (rest := []) ⟨hx, hb, hml, hown, hts⟩ (k_Symbols_add l dC dI cI cZ cJ cu_a H.size hf1) (cwV 2 hts (gV t_651 t_499 t_500 t_62 t_501) rfl rfl rfl hd_Symbols_add ⟨Nat.le_trans (Nat.le_of_ble_eq_true rfl) hRf, Nat.le_trans (Nat.le_of_ble_eq_true rfl) hRl⟩) ⟨kP_blind, va_recv hK hP (ci := 0) (q0 := 1) rfl rfl, kP_at hPc hK hDc hN⟩ rfl rfl hl.1 rfl (lv_room (Nat.le_of_ble_eq_true rfl)) d_SD_symbol_60 hRc) hS (fun q _ h => hFc q h) hFc (fun r9 u t H1 locs ht hvm hw hB hz1 hk1 hS => ?_)
            rw [hw]
            obtain ⟨hP, hD⟩ := kQ_join (wr := (wSd cI cZ cJ sd_a lk_w lk_v lk_wr lk_rd (cu_a 0) lk_sp sd)) (w1 := (wSy cI cZ cJ cu_a cu_7)) hP hD [1, 2, 3, 4, 5, 6, 7, 8, 9, 10] [0] rfl rfl (by decide) (by decide) ht hk1 hFc hB
            generalize H1 = H at hP hS ⊢
            have hP : va_P (dC, dI) vwCl (wSd cI cZ cJ sd_a lk_w lk_v lk_wr lk_rd (cu_a 0) lk_sp sd ++ wSy cI cZ cJ cu_a cu_7) H := hP.sub [0, 1, 2, 3, 4, 5, 6, 7, 8, 9, 10] rfl
            have hD : va_D A (wSd cI cZ cJ sd_a lk_w lk_v lk_wr lk_rd (cu_a 0) lk_sp sd ++ wSy cI cZ cJ cu_a cu_7) := hD.sub [0, 1, 2, 3, 4, 5, 6, 7, 8, 9, 10] (by decide) rfl
            exact hr63 _ _ _ r_6 cu_7 hP hD hS hf
          · rw [if_neg c_5] at hf
            exact absurd hf (by simp)
        · rw [if_neg c_4] at hf
          exact absurd hf (by simp)
end
set_option maxHeartbeats 4000000 in
set_option maxRecDepth 100000 in
theorem k_SD_symbol (l : Launch) (dC : Nat → ClassId) (dI : Nat → Nat → Nat) (cI cZ cJ : ClassId) (sd_a : Nat → Nat) (cu_a : Nat → Nat) (lk_w : Nat) (lk_v : Nat) (lk_wr : Nat) (lk_rd : Nat) (lk_sp : Nat) (sz : Nat) {sd : Sd} {cu : Sy} {x1 : Int32} {x2 : Int32} {r : Int32} {cu' : Sy} (hf : f_SD_symbol sd cu x1 x2 = some (r, cu')) :
    Met l y_SD_symbol ws_SD_symbol ({ frames := 3, cells := 0, slots := 0, locals := 70 }) (va_Pc [.ref (sd_a 0), .int x1, .int x2] (kP (dC, dI) vwCl (TYS cI cZ cJ) (wSd cI cZ cJ sd_a lk_w lk_v lk_wr lk_rd (cu_a 0) lk_sp sd ++ wSy cI cZ cJ cu_a cu) sz)) (va_Qi (fun (q : Int32) (_ : Unit) => q = r) (fun _ t => kQ (dC, dI) vwCl (TYS cI cZ cJ) (wSd cI cZ cJ sd_a lk_w lk_v lk_wr lk_rd (cu_a 0) lk_sp sd ++ wSy cI cZ cJ cu_a cu) sz (wSd cI cZ cJ sd_a lk_w lk_v lk_wr lk_rd (cu_a 0) lk_sp sd ++ wSy cI cZ cJ cu_a cu') t) (va_A (wSd cI cZ cJ sd_a lk_w lk_v lk_wr lk_rd (cu_a 0) lk_sp sd ++ wSy cI cZ cJ cu_a cu) sz)) 0 0 (va_A (wSd cI cZ cJ sd_a lk_w lk_v lk_wr lk_rd (cu_a 0) lk_sp sd ++ wSy cI cZ cJ cu_a cu) sz) := by
  refine Met.ofW (cc := c_SD_symbol) (maxL := 3) (ret := (some .int)) (by decide) rfl ?_
  intro p e s m args below meth c s₁ B hml hv
  obtain ⟨rfl, hsz, hP, hK, hD0, hN⟩ := hv
  have hr := B.returns
  have hlocks := B.notSynchronized
  subst hsz
  have hD := hD0.self (sz := s.heap.size)
  have hl := lv_entry ([.ref (sd_a 0), .int x1, .int x2]) (n := 3) (Nat.le_of_ble_eq_true rfl)
  rw [lg_entry_eq]
  generalize (lg_sl ([.ref (sd_a 0), .int x1, .int x2]) ++ List.replicate (3 - (lg_sl ([.ref (sd_a 0), .int x1, .int x2])).length) Slot.unset).toArray = ls at hl ⊢
  refine B_SD_symbol (A := va_A (wSd cI cZ cJ sd_a lk_w lk_v lk_wr lk_rd (cu_a 0) lk_sp sd ++ wSy cI cZ cJ cu_a cu) s.heap.size) ⟨B.exec, B.bytes, hml, findClass_of_methodNamed B.named, fun w h => atoms_spec (ws := ws_SD_symbol) B.pre w (List.mem_cons_of_mem _ h), hK, fun q h => Or.inr h, Nat.le_of_ble_eq_true rfl, Nat.le_of_ble_eq_true rfl, hN, Nat.le_of_ble_eq_true rfl, Nat.le_of_ble_eq_true rfl⟩ (fun H locs ls v cu'1 hP hD hS hf => ?_) hP hD va_S.rf hl hf
  · cases hf
    exact W.iret B.exec B.bytes hr (fun t ht hW => ⟨⟨_, (), rfl, rfl, ⟨by rw [ht]; exact hP, va_K.moved hW.alike hK, hD⟩⟩, hS.F ht⟩) hS.2.2 d_SD_symbol_63

/-! SD_put -/
def f_SD_put (sd : Sd) (cu : Sy) (x1 : Int32) (x2 : Int32) (x3 : Int32) (x4 : Int32) : Option (Int32 × Sy) := bd (f_SD_requireSample sd cu x1 x2 x3) <| fun _ => bd (f_Symbols_isBlack cu x1 x2 x3) <| fun r_1 => (if r_1 = x4 then some (0, cu) else bd (f_Symbols_turn cu x1 x2 x3) <| fun cu_3 => some (1, cu_3))
section
variable {p : Program} {l : Launch} {e : Env} {R : Room} {s : State} {m : MethodId} {args : Array Value} {below : List Frame} {meth : Method} {c : Code} {Q : State → Prop} {A : Nat → Prop}
set_option maxHeartbeats 4000000 in
set_option maxRecDepth 100000 in
theorem B_SD_put {cells slots : Nat} {dC : Nat → ClassId} {dI : Nat → Nat → Nat} {cI cZ cJ : ClassId} {sd_a : Nat → Nat} {cu_a : Nat → Nat} {lk_w : Nat} {lk_v : Nat} {lk_wr : Nat} {lk_rd : Nat} {lk_sp : Nat} {sd : Sd} {cu : Sy} {x1 : Int32} {x2 : Int32} {x3 : Int32} {x4 : Int32} {res : Int32 × Sy} (C0 : cxt p c m s args R cells slots R_SD c_SD_put tb 5 (dC, dI) vwCl (TYS cI cZ cJ) A 2 45)
    (hr23 : ∀ (H : Heap) (locs : List Loc) (ls : Array Slot) (v : Int32) (cu' : Sy), vp_nar .boolean v = v → va_P (dC, dI) vwCl (wSd cI cZ cJ sd_a lk_w lk_v lk_wr lk_rd (cu_a 0) lk_sp sd ++ wSy cI cZ cJ cu_a cu') H → va_D A (wSd cI cZ cJ sd_a lk_w lk_v lk_wr lk_rd (cu_a 0) lk_sp sd ++ wSy cI cZ cJ cu_a cu') → va_S A s.heap H locs → some (v, cu') = some res → W p l e R s m args below meth c H locs cells slots Q (F0 m 23 ls [.int v]))
    (hr35 : ∀ (H : Heap) (locs : List Loc) (ls : Array Slot) (v : Int32) (cu' : Sy), vp_nar .boolean v = v → va_P (dC, dI) vwCl (wSd cI cZ cJ sd_a lk_w lk_v lk_wr lk_rd (cu_a 0) lk_sp sd ++ wSy cI cZ cJ cu_a cu') H → va_D A (wSd cI cZ cJ sd_a lk_w lk_v lk_wr lk_rd (cu_a 0) lk_sp sd ++ wSy cI cZ cJ cu_a cu') → va_S A s.heap H locs → some (v, cu') = some res → W p l e R s m args below meth c H locs cells slots Q (F0 m 35 ls [.int v]))
    {H : Heap} {locs : List Loc} {ls : Array Slot} (hP : va_P (dC, dI) vwCl (wSd cI cZ cJ sd_a lk_w lk_v lk_wr lk_rd (cu_a 0) lk_sp sd ++ wSy cI cZ cJ cu_a cu) H) (hD : va_D A (wSd cI cZ cJ sd_a lk_w lk_v lk_wr lk_rd (cu_a 0) lk_sp sd ++ wSy cI cZ cJ cu_a cu)) (hS : va_S A s.heap H locs) (hl : lv_has ls 5 [(0, .ref (sd_a 0)), (1, .int x1), (2, .int x2), (3, .int x3), (4, .int x4)]) (hf : f_SD_put sd cu x1 x2 x3 x4 = some res) : W p l e R s m args below meth c H locs cells slots Q (F0 m 0 ls []) := by
  obtain ⟨hx, hb, hml, hown, hts, hK, hA, hRf, hRl, hN, hRc⟩ := id C0
  rw [f_SD_put] at hf
  refine lv_aload_n hx hb d_SD_put_0 rfl (lv_at hl 0 rfl) ?_
  refine lv_iload_n hx hb d_SD_put_1 rfl (lv_at hl 1 rfl) ?_
  refine lv_iload_n hx hb d_SD_put_2 rfl (lv_at hl 2 rfl) ?_
  refine lv_iload_n hx hb d_SD_put_3 rfl (lv_at hl 3 rfl) ?_
  obtain ⟨_, hf1, hf⟩ := bd_ex hf
  try dsimp only at hf
  have hPc := hP.sub (ws' := (wSd cI cZ cJ sd_a lk_w lk_v lk_wr lk_rd (cu_a 0) lk_sp sd ++ wSy cI cZ cJ cu_a cu)) [0, 1, 2, 3, 4, 5, 6, 7, 8, 9, 10] rfl
  have hDc := hD.sub (ws' := (wSd cI cZ cJ sd_a lk_w lk_v lk_wr lk_rd (cu_a 0) lk_sp sd ++ wSy cI cZ cJ cu_a cu)) [0, 1, 2, 3, 4, 5, 6, 7, 8, 9, 10] (by decide) rfl
  have hFc := va_free (wc := (wSd cI cZ cJ sd_a lk_w lk_v lk_wr lk_rd (cu_a 0) lk_sp sd ++ wSy cI cZ cJ cu_a cu)) hD hS hA [0, 1, 2, 3, 4, 5, 6, 7, 8, 9, 10] rfl
  refine va_callv (va_runV (As := [.int x1, .int x2, .int x3]) (rest := []) ⟨hx, hb, hml, hown, hts⟩ (k_SD_requireSample l dC dI cI cZ cJ sd_a cu_a lk_w lk_v lk_wr lk_rd lk_sp H.size hf1) (cwV 3 hts (gV t_660 t_662 t_20 t_54 t_663) rfl rfl rfl hd_SD_requireSample ⟨Nat.le_trans (Nat.le_of_ble_eq_true rfl) hRf, Nat.le_trans (Nat.le_of_ble_eq_true rfl) hRl⟩) ⟨kP_blind, va_recv hK hP (ci := 6) (q0 := 0) rfl rfl, kP_at hPc hK hDc hN⟩ rfl rfl hl.1 rfl (lv_room (Nat.le_of_ble_eq_true rfl)) d_SD_put_4 hRc) hS (fun q _ h => hFc q h) hFc (fun u t H1 locs ht hvm hw hB hz1 hk1 hS => ?_)
  obtain ⟨hP, hD⟩ := kQ_join (wr := ([] : va_W)) (w1 := (wSd cI cZ cJ sd_a lk_w lk_v lk_wr lk_rd (cu_a 0) lk_sp sd ++ wSy cI cZ cJ cu_a cu)) hP hD [0, 1, 2, 3, 4, 5, 6, 7, 8, 9, 10] [] rfl rfl (by decide) (by decide) ht hk1 hFc hB
  generalize H1 = H at hP hS ⊢
  have hP : va_P (dC, dI) vwCl (wSd cI cZ cJ sd_a lk_w lk_v lk_wr lk_rd (cu_a 0) lk_sp sd ++ wSy cI cZ cJ cu_a cu) H := hP.sub [0, 1, 2, 3, 4, 5, 6, 7, 8, 9, 10] rfl
  have hD : va_D A (wSd cI cZ cJ sd_a lk_w lk_v lk_wr lk_rd (cu_a 0) lk_sp sd ++ wSy cI cZ cJ cu_a cu) := hD.sub [0, 1, 2, 3, 4, 5, 6, 7, 8, 9, 10] (by decide) rfl
  refine lv_aload_n hx hb d_SD_put_7 rfl (lv_at hl 0 rfl) ?_
  refine va_get (D := (dC, dI)) (ci := 6) (v := .ref (cu_a 0)) (C := R_SD) (T := T_SD) (N := 7) hx hb hts in_SD hown hK hP 0 rfl rfl 5 (by decide) (hts _ t_263) (fun _ h9 => h9) rfl d_SD_put_8 ?_
  refine lv_iload_n hx hb d_SD_put_11 rfl (lv_at hl 1 rfl) ?_
  refine lv_iload_n hx hb d_SD_put_12 rfl (lv_at hl 2 rfl) ?_
  refine lv_iload_n hx hb d_SD_put_13 rfl (lv_at hl 3 rfl) ?_
  obtain ⟨r_1, hf1, hf⟩ := bd_ex hf
  try dsimp only at hf
  have hPc := hP.sub (ws' := (wSy cI cZ cJ cu_a cu)) [1, 2, 3, 4, 5, 6, 7, 8, 9, 10] rfl
  have hDc := hD.sub (ws' := (wSy cI cZ cJ cu_a cu)) [1, 2, 3, 4, 5, 6, 7, 8, 9, 10] (by decide) rfl
  have hFc := va_free (wc := (wSy cI cZ cJ cu_a cu)) hD hS hA [1, 2, 3, 4, 5, 6, 7, 8, 9, 10] rfl
  refine va_calli (va_runV (As := [.int x1, .int x2, .int x3]) (rest := []) ⟨hx, hb, hml, hown, hts⟩ (k_Symbols_isBlack l dC dI cI cZ cJ cu_a H.size hf1) (cwV 3 hts (gV t_685 t_686 t_687 t_62 t_688) rfl rfl rfl hd_Symbols_isBlack ⟨Nat.le_trans (Nat.le_of_ble_eq_true rfl) hRf, Nat.le_trans (Nat.le_of_ble_eq_true rfl) hRl⟩) ⟨kP_blind, va_recv hK hP (ci := 0) (q0 := 1) rfl rfl, kP_at hPc hK hDc hN⟩ rfl rfl hl.1 rfl (lv_room (Nat.le_of_ble_eq_true rfl)) d_SD_put_14 hRc) hS (fun q _ h => hFc q h) hFc (fun r9 u t H1 locs ht hvm hw hB hz1 hk1 hS => ?_)
  rw [hw.1]
  obtain ⟨hP, hD⟩ := kQ_join (wr := (wSd cI cZ cJ sd_a lk_w lk_v lk_wr lk_rd (cu_a 0) lk_sp sd)) (w1 := (wSy cI cZ cJ cu_a cu)) hP hD [1, 2, 3, 4, 5, 6, 7, 8, 9, 10] [0] rfl rfl (by decide) (by decide) ht hk1 hFc hB
  generalize H1 = H at hP hS ⊢
  have hP : va_P (dC, dI) vwCl (wSd cI cZ cJ sd_a lk_w lk_v lk_wr lk_rd (cu_a 0) lk_sp sd ++ wSy cI cZ cJ cu_a cu) H := hP.sub [0, 1, 2, 3, 4, 5, 6, 7, 8, 9, 10] rfl
  have hD : va_D A (wSd cI cZ cJ sd_a lk_w lk_v lk_wr lk_rd (cu_a 0) lk_sp sd ++ wSy cI cZ cJ cu_a cu) := hD.sub [0, 1, 2, 3, 4, 5, 6, 7, 8, 9, 10] (by decide) rfl
  refine lv_iload hx hb d_SD_put_17 (lv_at hl 4 rfl) ?_
  refine lv_icmp_ne (tgt := 24) hx hb d_SD_put_19 (by decide) (fun c_2 => ?_) (fun c_2 => ?_)
  · rw [if_neg c_2] at hf
    refine lv_aload_n hx hb d_SD_put_24 rfl (lv_at hl 0 rfl) ?_
    refine va_get (D := (dC, dI)) (ci := 6) (v := .ref (cu_a 0)) (C := R_SD) (T := T_SD) (N := 7) hx hb hts in_SD hown hK hP 0 rfl rfl 5 (by decide) (hts _ t_263) (fun _ h9 => h9) rfl d_SD_put_25 ?_
    refine lv_iload_n hx hb d_SD_put_28 rfl (lv_at hl 1 rfl) ?_
    refine lv_iload_n hx hb d_SD_put_29 rfl (lv_at hl 2 rfl) ?_
    refine lv_iload_n hx hb d_SD_put_30 rfl (lv_at hl 3 rfl) ?_
    obtain ⟨cu_3, hf1, hf⟩ := bd_ex hf
    try dsimp only at hf
    have hPc := hP.sub (ws' := (wSy cI cZ cJ cu_a cu)) [1, 2, 3, 4, 5, 6, 7, 8, 9, 10] rfl
    have hDc := hD.sub (ws' := (wSy cI cZ cJ cu_a cu)) [1, 2, 3, 4, 5, 6, 7, 8, 9, 10] (by decide) rfl
    have hFc := va_free (wc := (wSy cI cZ cJ cu_a cu)) hD hS hA [1, 2, 3, 4, 5, 6, 7, 8, 9, 10] rfl
    refine va_callv (va_runV (As := [.int x1, .int x2, .int x3]) (rest := []) ⟨hx, hb, hml, hown, hts⟩ (k_Symbols_turn l dC dI cI cZ cJ cu_a H.size hf1) (cwV 3 hts (gV t_689 t_538 t_539 t_62 t_540) rfl rfl rfl hd_Symbols_turn ⟨Nat.le_trans (Nat.le_of_ble_eq_true rfl) hRf, Nat.le_trans (Nat.le_of_ble_eq_true rfl) hRl⟩) ⟨kP_blind, va_recv hK hP (ci := 0) (q0 := 1) rfl rfl, kP_at hPc hK hDc hN⟩ rfl rfl hl.1 rfl (lv_room (Nat.le_of_ble_eq_true rfl)) d_SD_put_31 hRc) hS (fun q _ h => hFc q h) hFc (fun u t H1 locs ht hvm hw hB hz1 hk1 hS => ?_)
    obtain ⟨hP, hD⟩ := kQ_join (wr := (wSd cI cZ cJ sd_a lk_w lk_v lk_wr lk_rd (cu_a 0) lk_sp sd)) (w1 := (wSy cI cZ cJ cu_a cu_3)) hP hD [1, 2, 3, 4, 5, 6, 7, 8, 9, 10] [0] rfl rfl (by decide) (by decide) ht hk1 hFc hB
    generalize H1 = H at hP hS ⊢
    have hP : va_P (dC, dI) vwCl (wSd cI cZ cJ sd_a lk_w lk_v lk_wr lk_rd (cu_a 0) lk_sp sd ++ wSy cI cZ cJ cu_a cu_3) H := hP.sub [0, 1, 2, 3, 4, 5, 6, 7, 8, 9, 10] rfl
    have hD : va_D A (wSd cI cZ cJ sd_a lk_w lk_v lk_wr lk_rd (cu_a 0) lk_sp sd ++ wSy cI cZ cJ cu_a cu_3) := hD.sub [0, 1, 2, 3, 4, 5, 6, 7, 8, 9, 10] (by decide) rfl
    refine lv_iconst (v := 1) hx hb d_SD_put_34 (by decide) ?_
    exact hr35 _ _ _ 1 cu_3 (by decide) hP hD hS hf
  · rw [if_pos c_2] at hf
    refine lv_iconst (v := 0) hx hb d_SD_put_22 (by decide) ?_
    exact hr23 _ _ _ 0 cu (by decide) hP hD hS hf
end
set_option maxHeartbeats 4000000 in
set_option maxRecDepth 100000 in
theorem k_SD_put (l : Launch) (dC : Nat → ClassId) (dI : Nat → Nat → Nat) (cI cZ cJ : ClassId) (sd_a : Nat → Nat) (cu_a : Nat → Nat) (lk_w : Nat) (lk_v : Nat) (lk_wr : Nat) (lk_rd : Nat) (lk_sp : Nat) (sz : Nat) {sd : Sd} {cu : Sy} {x1 : Int32} {x2 : Int32} {x3 : Int32} {x4 : Int32} {r : Int32} {cu' : Sy} (hf : f_SD_put sd cu x1 x2 x3 x4 = some (r, cu')) :
    Met l y_SD_put ws_SD_put ({ frames := 2, cells := 0, slots := 0, locals := 45 }) (va_Pc [.ref (sd_a 0), .int x1, .int x2, .int x3, .int x4] (kP (dC, dI) vwCl (TYS cI cZ cJ) (wSd cI cZ cJ sd_a lk_w lk_v lk_wr lk_rd (cu_a 0) lk_sp sd ++ wSy cI cZ cJ cu_a cu) sz)) (va_Qi (fun (q : Int32) (_ : Unit) => q = r ∧ vp_nar .boolean r = r) (fun _ t => kQ (dC, dI) vwCl (TYS cI cZ cJ) (wSd cI cZ cJ sd_a lk_w lk_v lk_wr lk_rd (cu_a 0) lk_sp sd ++ wSy cI cZ cJ cu_a cu) sz (wSd cI cZ cJ sd_a lk_w lk_v lk_wr lk_rd (cu_a 0) lk_sp sd ++ wSy cI cZ cJ cu_a cu') t) (va_A (wSd cI cZ cJ sd_a lk_w lk_v lk_wr lk_rd (cu_a 0) lk_sp sd ++ wSy cI cZ cJ cu_a cu) sz)) 0 0 (va_A (wSd cI cZ cJ sd_a lk_w lk_v lk_wr lk_rd (cu_a 0) lk_sp sd ++ wSy cI cZ cJ cu_a cu) sz) := by
  refine Met.ofW (cc := c_SD_put) (maxL := 5) (ret := (some .boolean)) (by decide) rfl ?_
  intro p e s m args below meth c s₁ B hml hv
  obtain ⟨rfl, hsz, hP, hK, hD0, hN⟩ := hv
  have hr := B.returns
  have hlocks := B.notSynchronized
  subst hsz
  have hD := hD0.self (sz := s.heap.size)
  have hl := lv_entry ([.ref (sd_a 0), .int x1, .int x2, .int x3, .int x4]) (n := 5) (Nat.le_of_ble_eq_true rfl)
  rw [lg_entry_eq]
  generalize (lg_sl ([.ref (sd_a 0), .int x1, .int x2, .int x3, .int x4]) ++ List.replicate (5 - (lg_sl ([.ref (sd_a 0), .int x1, .int x2, .int x3, .int x4])).length) Slot.unset).toArray = ls at hl ⊢
  refine B_SD_put (A := va_A (wSd cI cZ cJ sd_a lk_w lk_v lk_wr lk_rd (cu_a 0) lk_sp sd ++ wSy cI cZ cJ cu_a cu) s.heap.size) ⟨B.exec, B.bytes, hml, findClass_of_methodNamed B.named, fun w h => atoms_spec (ws := ws_SD_put) B.pre w (List.mem_cons_of_mem _ h), hK, fun q h => Or.inr h, Nat.le_of_ble_eq_true rfl, Nat.le_of_ble_eq_true rfl, hN, Nat.le_of_ble_eq_true rfl, Nat.le_of_ble_eq_true rfl⟩ (fun H locs ls v cu'1 hz hP hD hS hf => ?_) (fun H locs ls v cu'1 hz hP hD hS hf => ?_) hP hD va_S.rf hl hf
  · cases hf
    exact W.zret B.exec B.bytes hr (nz_n hz) (fun t ht hW => ⟨⟨_, (), rfl, ⟨rfl, hz⟩, ⟨by rw [ht]; exact hP, va_K.moved hW.alike hK, hD⟩⟩, hS.F ht⟩) hS.2.2 d_SD_put_23
  · cases hf
    exact W.zret B.exec B.bytes hr (nz_n hz) (fun t ht hW => ⟨⟨_, (), rfl, ⟨rfl, hz⟩, ⟨by rw [ht]; exact hP, va_K.moved hW.alike hK, hD⟩⟩, hS.F ht⟩) hS.2.2 d_SD_put_35

/-! SD_row -/
def f_SD_row (sd : Sd) (cu : Sy) (x1 : Int32) (x2 : Int32) (x3 : Int32) : Option (Int32 × Sy) := bd (f_SD_requireSample sd cu x1 0 x2) <| fun _ => bd (f_Symbols_setRow cu x1 x2 x3) <| fun (r_1, cu_2) => some (r_1, cu_2)
section
variable {p : Program} {l : Launch} {e : Env} {R : Room} {s : State} {m : MethodId} {args : Array Value} {below : List Frame} {meth : Method} {c : Code} {Q : State → Prop} {A : Nat → Prop}
set_option maxHeartbeats 4000000 in
set_option maxRecDepth 100000 in
theorem B_SD_row {cells slots : Nat} {dC : Nat → ClassId} {dI : Nat → Nat → Nat} {cI cZ cJ : ClassId} {sd_a : Nat → Nat} {cu_a : Nat → Nat} {lk_w : Nat} {lk_v : Nat} {lk_wr : Nat} {lk_rd : Nat} {lk_sp : Nat} {sd : Sd} {cu : Sy} {x1 : Int32} {x2 : Int32} {x3 : Int32} {res : Int32 × Sy} (C0 : cxt p c m s args R cells slots R_SD c_SD_row tb 4 (dC, dI) vwCl (TYS cI cZ cJ) A 2 46)
    (hr17 : ∀ (H : Heap) (locs : List Loc) (ls : Array Slot) (v : Int32) (cu' : Sy), va_P (dC, dI) vwCl (wSd cI cZ cJ sd_a lk_w lk_v lk_wr lk_rd (cu_a 0) lk_sp sd ++ wSy cI cZ cJ cu_a cu') H → va_D A (wSd cI cZ cJ sd_a lk_w lk_v lk_wr lk_rd (cu_a 0) lk_sp sd ++ wSy cI cZ cJ cu_a cu') → va_S A s.heap H locs → some (v, cu') = some res → W p l e R s m args below meth c H locs cells slots Q (F0 m 17 ls [.int v]))
    {H : Heap} {locs : List Loc} {ls : Array Slot} (hP : va_P (dC, dI) vwCl (wSd cI cZ cJ sd_a lk_w lk_v lk_wr lk_rd (cu_a 0) lk_sp sd ++ wSy cI cZ cJ cu_a cu) H) (hD : va_D A (wSd cI cZ cJ sd_a lk_w lk_v lk_wr lk_rd (cu_a 0) lk_sp sd ++ wSy cI cZ cJ cu_a cu)) (hS : va_S A s.heap H locs) (hl : lv_has ls 4 [(0, .ref (sd_a 0)), (1, .int x1), (2, .int x2), (3, .int x3)]) (hf : f_SD_row sd cu x1 x2 x3 = some res) : W p l e R s m args below meth c H locs cells slots Q (F0 m 0 ls []) := by
  obtain ⟨hx, hb, hml, hown, hts, hK, hA, hRf, hRl, hN, hRc⟩ := id C0
  rw [f_SD_row] at hf
  refine lv_aload_n hx hb d_SD_row_0 rfl (lv_at hl 0 rfl) ?_
  refine lv_iload_n hx hb d_SD_row_1 rfl (lv_at hl 1 rfl) ?_
  refine lv_iconst (v := 0) hx hb d_SD_row_2 (by decide) ?_
  refine lv_iload_n hx hb d_SD_row_3 rfl (lv_at hl 2 rfl) ?_
  obtain ⟨_, hf1, hf⟩ := bd_ex hf
  try dsimp only at hf
  have hPc := hP.sub (ws' := (wSd cI cZ cJ sd_a lk_w lk_v lk_wr lk_rd (cu_a 0) lk_sp sd ++ wSy cI cZ cJ cu_a cu)) [0, 1, 2, 3, 4, 5, 6, 7, 8, 9, 10] rfl
  have hDc := hD.sub (ws' := (wSd cI cZ cJ sd_a lk_w lk_v lk_wr lk_rd (cu_a 0) lk_sp sd ++ wSy cI cZ cJ cu_a cu)) [0, 1, 2, 3, 4, 5, 6, 7, 8, 9, 10] (by decide) rfl
  have hFc := va_free (wc := (wSd cI cZ cJ sd_a lk_w lk_v lk_wr lk_rd (cu_a 0) lk_sp sd ++ wSy cI cZ cJ cu_a cu)) hD hS hA [0, 1, 2, 3, 4, 5, 6, 7, 8, 9, 10] rfl
  refine va_callv (va_runV (As := [.int x1, .int 0, .int x2]) (rest := []) ⟨hx, hb, hml, hown, hts⟩ (k_SD_requireSample l dC dI cI cZ cJ sd_a cu_a lk_w lk_v lk_wr lk_rd lk_sp H.size hf1) (cwV 3 hts (gV t_660 t_662 t_20 t_54 t_663) rfl rfl rfl hd_SD_requireSample ⟨Nat.le_trans (Nat.le_of_ble_eq_true rfl) hRf, Nat.le_trans (Nat.le_of_ble_eq_true rfl) hRl⟩) ⟨kP_blind, va_recv hK hP (ci := 6) (q0 := 0) rfl rfl, kP_at hPc hK hDc hN⟩ rfl rfl hl.1 rfl (lv_room (Nat.le_of_ble_eq_true rfl)) d_SD_row_4 hRc) hS (fun q _ h => hFc q h) hFc (fun u t H1 locs ht hvm hw hB hz1 hk1 hS => ?_)
  obtain ⟨hP, hD⟩ := kQ_join (wr := ([] : va_W)) (w1 := (wSd cI cZ cJ sd_a lk_w lk_v lk_wr lk_rd (cu_a 0) lk_sp sd ++ wSy cI cZ cJ cu_a cu)) hP hD [0, 1, 2, 3, 4, 5, 6, 7, 8, 9, 10] [] rfl rfl (by decide) (by decide) ht hk1 hFc hB
  generalize H1 = H at hP hS ⊢
  have hP : va_P (dC, dI) vwCl (wSd cI cZ cJ sd_a lk_w lk_v lk_wr lk_rd (cu_a 0) lk_sp sd ++ wSy cI cZ cJ cu_a cu) H := hP.sub [0, 1, 2, 3, 4, 5, 6, 7, 8, 9, 10] rfl
  have hD : va_D A (wSd cI cZ cJ sd_a lk_w lk_v lk_wr lk_rd (cu_a 0) lk_sp sd ++ wSy cI cZ cJ cu_a cu) := hD.sub [0, 1, 2, 3, 4, 5, 6, 7, 8, 9, 10] (by decide) rfl
  refine lv_aload_n hx hb d_SD_row_7 rfl (lv_at hl 0 rfl) ?_
  refine va_get (D := (dC, dI)) (ci := 6) (v := .ref (cu_a 0)) (C := R_SD) (T := T_SD) (N := 7) hx hb hts in_SD hown hK hP 0 rfl rfl 5 (by decide) (hts _ t_263) (fun _ h9 => h9) rfl d_SD_row_8 ?_
  refine lv_iload_n hx hb d_SD_row_11 rfl (lv_at hl 1 rfl) ?_
  refine lv_iload_n hx hb d_SD_row_12 rfl (lv_at hl 2 rfl) ?_
  refine lv_iload_n hx hb d_SD_row_13 rfl (lv_at hl 3 rfl) ?_
  obtain ⟨⟨r_1, cu_2⟩, hf1, hf⟩ := bd_ex hf
  try dsimp only at hf
  have hPc := hP.sub (ws' := (wSy cI cZ cJ cu_a cu)) [1, 2, 3, 4, 5, 6, 7, 8, 9, 10] rfl
  have hDc := hD.sub (ws' := (wSy cI cZ cJ cu_a cu)) [1, 2, 3, 4, 5, 6, 7, 8, 9, 10] (by decide) rfl
  have hFc := va_free (wc := (wSy cI cZ cJ cu_a cu)) hD hS hA [1, 2, 3, 4, 5, 6, 7, 8, 9, 10] rfl
  refine va_calli (va_runV (As := [.int x1, .int x2, .int x3]) (rest := []) ⟨hx, hb, hml, hown, hts⟩ (k_Symbols_setRow l dC dI cI cZ cJ cu_a H.size hf1) (cwV 3 hts (gV t_697 t_507 t_508 t_62 t_509) rfl rfl rfl hd_Symbols_setRow ⟨Nat.le_trans (Nat.le_of_ble_eq_true rfl) hRf, Nat.le_trans (Nat.le_of_ble_eq_true rfl) hRl⟩) ⟨kP_blind, va_recv hK hP (ci := 0) (q0 := 1) rfl rfl, kP_at hPc hK hDc hN⟩ rfl rfl hl.1 rfl (lv_room (Nat.le_of_ble_eq_true rfl)) d_SD_row_14 hRc) hS (fun q _ h => hFc q h) hFc (fun r9 u t H1 locs ht hvm hw hB hz1 hk1 hS => ?_)
  rw [hw]
  obtain ⟨hP, hD⟩ := kQ_join (wr := (wSd cI cZ cJ sd_a lk_w lk_v lk_wr lk_rd (cu_a 0) lk_sp sd)) (w1 := (wSy cI cZ cJ cu_a cu_2)) hP hD [1, 2, 3, 4, 5, 6, 7, 8, 9, 10] [0] rfl rfl (by decide) (by decide) ht hk1 hFc hB
  generalize H1 = H at hP hS ⊢
  have hP : va_P (dC, dI) vwCl (wSd cI cZ cJ sd_a lk_w lk_v lk_wr lk_rd (cu_a 0) lk_sp sd ++ wSy cI cZ cJ cu_a cu_2) H := hP.sub [0, 1, 2, 3, 4, 5, 6, 7, 8, 9, 10] rfl
  have hD : va_D A (wSd cI cZ cJ sd_a lk_w lk_v lk_wr lk_rd (cu_a 0) lk_sp sd ++ wSy cI cZ cJ cu_a cu_2) := hD.sub [0, 1, 2, 3, 4, 5, 6, 7, 8, 9, 10] (by decide) rfl
  exact hr17 _ _ _ r_1 cu_2 hP hD hS hf
end
set_option maxHeartbeats 4000000 in
set_option maxRecDepth 100000 in
theorem k_SD_row (l : Launch) (dC : Nat → ClassId) (dI : Nat → Nat → Nat) (cI cZ cJ : ClassId) (sd_a : Nat → Nat) (cu_a : Nat → Nat) (lk_w : Nat) (lk_v : Nat) (lk_wr : Nat) (lk_rd : Nat) (lk_sp : Nat) (sz : Nat) {sd : Sd} {cu : Sy} {x1 : Int32} {x2 : Int32} {x3 : Int32} {r : Int32} {cu' : Sy} (hf : f_SD_row sd cu x1 x2 x3 = some (r, cu')) :
    Met l y_SD_row ws_SD_row ({ frames := 2, cells := 0, slots := 0, locals := 46 }) (va_Pc [.ref (sd_a 0), .int x1, .int x2, .int x3] (kP (dC, dI) vwCl (TYS cI cZ cJ) (wSd cI cZ cJ sd_a lk_w lk_v lk_wr lk_rd (cu_a 0) lk_sp sd ++ wSy cI cZ cJ cu_a cu) sz)) (va_Qi (fun (q : Int32) (_ : Unit) => q = r) (fun _ t => kQ (dC, dI) vwCl (TYS cI cZ cJ) (wSd cI cZ cJ sd_a lk_w lk_v lk_wr lk_rd (cu_a 0) lk_sp sd ++ wSy cI cZ cJ cu_a cu) sz (wSd cI cZ cJ sd_a lk_w lk_v lk_wr lk_rd (cu_a 0) lk_sp sd ++ wSy cI cZ cJ cu_a cu') t) (va_A (wSd cI cZ cJ sd_a lk_w lk_v lk_wr lk_rd (cu_a 0) lk_sp sd ++ wSy cI cZ cJ cu_a cu) sz)) 0 0 (va_A (wSd cI cZ cJ sd_a lk_w lk_v lk_wr lk_rd (cu_a 0) lk_sp sd ++ wSy cI cZ cJ cu_a cu) sz) := by
  refine Met.ofW (cc := c_SD_row) (maxL := 4) (ret := (some .int)) (by decide) rfl ?_
  intro p e s m args below meth c s₁ B hml hv
  obtain ⟨rfl, hsz, hP, hK, hD0, hN⟩ := hv
  have hr := B.returns
  have hlocks := B.notSynchronized
  subst hsz
  have hD := hD0.self (sz := s.heap.size)
  have hl := lv_entry ([.ref (sd_a 0), .int x1, .int x2, .int x3]) (n := 4) (Nat.le_of_ble_eq_true rfl)
  rw [lg_entry_eq]
  generalize (lg_sl ([.ref (sd_a 0), .int x1, .int x2, .int x3]) ++ List.replicate (4 - (lg_sl ([.ref (sd_a 0), .int x1, .int x2, .int x3])).length) Slot.unset).toArray = ls at hl ⊢
  refine B_SD_row (A := va_A (wSd cI cZ cJ sd_a lk_w lk_v lk_wr lk_rd (cu_a 0) lk_sp sd ++ wSy cI cZ cJ cu_a cu) s.heap.size) ⟨B.exec, B.bytes, hml, findClass_of_methodNamed B.named, fun w h => atoms_spec (ws := ws_SD_row) B.pre w (List.mem_cons_of_mem _ h), hK, fun q h => Or.inr h, Nat.le_of_ble_eq_true rfl, Nat.le_of_ble_eq_true rfl, hN, Nat.le_of_ble_eq_true rfl, Nat.le_of_ble_eq_true rfl⟩ (fun H locs ls v cu'1 hP hD hS hf => ?_) hP hD va_S.rf hl hf
  · cases hf
    exact W.iret B.exec B.bytes hr (fun t ht hW => ⟨⟨_, (), rfl, rfl, ⟨by rw [ht]; exact hP, va_K.moved hW.alike hK, hD⟩⟩, hS.F ht⟩) hS.2.2 d_SD_row_17

/-! SD_at -/
def f_SD_at (sd : Sd) (cu : Sy) (x1 : Int32) (x2 : Int32) (x3 : Int32) : Option (Int32) := bd (f_SD_requireSample sd cu x1 x2 x3) <| fun _ => bd (f_Symbols_isBlack cu x1 x2 x3) <| fun r_1 => gd (decide (vp_nar .boolean r_1 = r_1)) <| some r_1
section
variable {p : Program} {l : Launch} {e : Env} {R : Room} {s : State} {m : MethodId} {args : Array Value} {below : List Frame} {meth : Method} {c : Code} {Q : State → Prop} {A : Nat → Prop}
set_option maxHeartbeats 4000000 in
set_option maxRecDepth 100000 in
theorem B_SD_at {cells slots : Nat} {dC : Nat → ClassId} {dI : Nat → Nat → Nat} {cI cZ cJ : ClassId} {sd_a : Nat → Nat} {cu_a : Nat → Nat} {lk_w : Nat} {lk_v : Nat} {lk_wr : Nat} {lk_rd : Nat} {lk_sp : Nat} {sd : Sd} {cu : Sy} {x1 : Int32} {x2 : Int32} {x3 : Int32} {res : Int32} (C0 : cxt p c m s args R cells slots R_SD c_SD_at tb 4 (dC, dI) vwCl (TYS cI cZ cJ) A 2 45)
    (hr17 : ∀ (H : Heap) (locs : List Loc) (ls : Array Slot) (v : Int32), vp_nar .boolean v = v → va_P (dC, dI) vwCl (wSd cI cZ cJ sd_a lk_w lk_v lk_wr lk_rd (cu_a 0) lk_sp sd ++ wSy cI cZ cJ cu_a cu) H → va_D A (wSd cI cZ cJ sd_a lk_w lk_v lk_wr lk_rd (cu_a 0) lk_sp sd ++ wSy cI cZ cJ cu_a cu) → va_S A s.heap H locs → some v = some res → W p l e R s m args below meth c H locs cells slots Q (F0 m 17 ls [.int v]))
    {H : Heap} {locs : List Loc} {ls : Array Slot} (hP : va_P (dC, dI) vwCl (wSd cI cZ cJ sd_a lk_w lk_v lk_wr lk_rd (cu_a 0) lk_sp sd ++ wSy cI cZ cJ cu_a cu) H) (hD : va_D A (wSd cI cZ cJ sd_a lk_w lk_v lk_wr lk_rd (cu_a 0) lk_sp sd ++ wSy cI cZ cJ cu_a cu)) (hS : va_S A s.heap H locs) (hl : lv_has ls 4 [(0, .ref (sd_a 0)), (1, .int x1), (2, .int x2), (3, .int x3)]) (hf : f_SD_at sd cu x1 x2 x3 = some res) : W p l e R s m args below meth c H locs cells slots Q (F0 m 0 ls []) := by
  obtain ⟨hx, hb, hml, hown, hts, hK, hA, hRf, hRl, hN, hRc⟩ := id C0
  rw [f_SD_at] at hf
  refine lv_aload_n hx hb d_SD_at_0 rfl (lv_at hl 0 rfl) ?_
  refine lv_iload_n hx hb d_SD_at_1 rfl (lv_at hl 1 rfl) ?_
  refine lv_iload_n hx hb d_SD_at_2 rfl (lv_at hl 2 rfl) ?_
  refine lv_iload_n hx hb d_SD_at_3 rfl (lv_at hl 3 rfl) ?_
  obtain ⟨_, hf1, hf⟩ := bd_ex hf
  try dsimp only at hf
  have hPc := hP.sub (ws' := (wSd cI cZ cJ sd_a lk_w lk_v lk_wr lk_rd (cu_a 0) lk_sp sd ++ wSy cI cZ cJ cu_a cu)) [0, 1, 2, 3, 4, 5, 6, 7, 8, 9, 10] rfl
  have hDc := hD.sub (ws' := (wSd cI cZ cJ sd_a lk_w lk_v lk_wr lk_rd (cu_a 0) lk_sp sd ++ wSy cI cZ cJ cu_a cu)) [0, 1, 2, 3, 4, 5, 6, 7, 8, 9, 10] (by decide) rfl
  have hFc := va_free (wc := (wSd cI cZ cJ sd_a lk_w lk_v lk_wr lk_rd (cu_a 0) lk_sp sd ++ wSy cI cZ cJ cu_a cu)) hD hS hA [0, 1, 2, 3, 4, 5, 6, 7, 8, 9, 10] rfl
  refine va_callv (va_runV (As := [.int x1, .int x2, .int x3]) (rest := []) ⟨hx, hb, hml, hown, hts⟩ (k_SD_requireSample l dC dI cI cZ cJ sd_a cu_a lk_w lk_v lk_wr lk_rd lk_sp H.size hf1) (cwV 3 hts (gV t_660 t_662 t_20 t_54 t_663) rfl rfl rfl hd_SD_requireSample ⟨Nat.le_trans (Nat.le_of_ble_eq_true rfl) hRf, Nat.le_trans (Nat.le_of_ble_eq_true rfl) hRl⟩) ⟨kP_blind, va_recv hK hP (ci := 6) (q0 := 0) rfl rfl, kP_at hPc hK hDc hN⟩ rfl rfl hl.1 rfl (lv_room (Nat.le_of_ble_eq_true rfl)) d_SD_at_4 hRc) hS (fun q _ h => hFc q h) hFc (fun u t H1 locs ht hvm hw hB hz1 hk1 hS => ?_)
  obtain ⟨hP, hD⟩ := kQ_join (wr := ([] : va_W)) (w1 := (wSd cI cZ cJ sd_a lk_w lk_v lk_wr lk_rd (cu_a 0) lk_sp sd ++ wSy cI cZ cJ cu_a cu)) hP hD [0, 1, 2, 3, 4, 5, 6, 7, 8, 9, 10] [] rfl rfl (by decide) (by decide) ht hk1 hFc hB
  generalize H1 = H at hP hS ⊢
  have hP : va_P (dC, dI) vwCl (wSd cI cZ cJ sd_a lk_w lk_v lk_wr lk_rd (cu_a 0) lk_sp sd ++ wSy cI cZ cJ cu_a cu) H := hP.sub [0, 1, 2, 3, 4, 5, 6, 7, 8, 9, 10] rfl
  have hD : va_D A (wSd cI cZ cJ sd_a lk_w lk_v lk_wr lk_rd (cu_a 0) lk_sp sd ++ wSy cI cZ cJ cu_a cu) := hD.sub [0, 1, 2, 3, 4, 5, 6, 7, 8, 9, 10] (by decide) rfl
  refine lv_aload_n hx hb d_SD_at_7 rfl (lv_at hl 0 rfl) ?_
  refine va_get (D := (dC, dI)) (ci := 6) (v := .ref (cu_a 0)) (C := R_SD) (T := T_SD) (N := 7) hx hb hts in_SD hown hK hP 0 rfl rfl 5 (by decide) (hts _ t_263) (fun _ h9 => h9) rfl d_SD_at_8 ?_
  refine lv_iload_n hx hb d_SD_at_11 rfl (lv_at hl 1 rfl) ?_
  refine lv_iload_n hx hb d_SD_at_12 rfl (lv_at hl 2 rfl) ?_
  refine lv_iload_n hx hb d_SD_at_13 rfl (lv_at hl 3 rfl) ?_
  obtain ⟨r_1, hf1, hf⟩ := bd_ex hf
  try dsimp only at hf
  have hPc := hP.sub (ws' := (wSy cI cZ cJ cu_a cu)) [1, 2, 3, 4, 5, 6, 7, 8, 9, 10] rfl
  have hDc := hD.sub (ws' := (wSy cI cZ cJ cu_a cu)) [1, 2, 3, 4, 5, 6, 7, 8, 9, 10] (by decide) rfl
  have hFc := va_free (wc := (wSy cI cZ cJ cu_a cu)) hD hS hA [1, 2, 3, 4, 5, 6, 7, 8, 9, 10] rfl
  refine va_calli (va_runV (As := [.int x1, .int x2, .int x3]) (rest := []) ⟨hx, hb, hml, hown, hts⟩ (k_Symbols_isBlack l dC dI cI cZ cJ cu_a H.size hf1) (cwV 3 hts (gV t_685 t_686 t_687 t_62 t_688) rfl rfl rfl hd_Symbols_isBlack ⟨Nat.le_trans (Nat.le_of_ble_eq_true rfl) hRf, Nat.le_trans (Nat.le_of_ble_eq_true rfl) hRl⟩) ⟨kP_blind, va_recv hK hP (ci := 0) (q0 := 1) rfl rfl, kP_at hPc hK hDc hN⟩ rfl rfl hl.1 rfl (lv_room (Nat.le_of_ble_eq_true rfl)) d_SD_at_14 hRc) hS (fun q _ h => hFc q h) hFc (fun r9 u t H1 locs ht hvm hw hB hz1 hk1 hS => ?_)
  rw [hw.1]
  obtain ⟨hP, hD⟩ := kQ_join (wr := (wSd cI cZ cJ sd_a lk_w lk_v lk_wr lk_rd (cu_a 0) lk_sp sd)) (w1 := (wSy cI cZ cJ cu_a cu)) hP hD [1, 2, 3, 4, 5, 6, 7, 8, 9, 10] [0] rfl rfl (by decide) (by decide) ht hk1 hFc hB
  generalize H1 = H at hP hS ⊢
  have hP : va_P (dC, dI) vwCl (wSd cI cZ cJ sd_a lk_w lk_v lk_wr lk_rd (cu_a 0) lk_sp sd ++ wSy cI cZ cJ cu_a cu) H := hP.sub [0, 1, 2, 3, 4, 5, 6, 7, 8, 9, 10] rfl
  have hD : va_D A (wSd cI cZ cJ sd_a lk_w lk_v lk_wr lk_rd (cu_a 0) lk_sp sd ++ wSy cI cZ cJ cu_a cu) := hD.sub [0, 1, 2, 3, 4, 5, 6, 7, 8, 9, 10] (by decide) rfl
  obtain ⟨h_z, hf⟩ := gd_ex hf
  exact hr17 _ _ _ r_1  (of_decide_eq_true h_z) hP hD hS hf
end
set_option maxHeartbeats 4000000 in
set_option maxRecDepth 100000 in
theorem k_SD_at (l : Launch) (dC : Nat → ClassId) (dI : Nat → Nat → Nat) (cI cZ cJ : ClassId) (sd_a : Nat → Nat) (cu_a : Nat → Nat) (lk_w : Nat) (lk_v : Nat) (lk_wr : Nat) (lk_rd : Nat) (lk_sp : Nat) (sz : Nat) {sd : Sd} {cu : Sy} {x1 : Int32} {x2 : Int32} {x3 : Int32} {r : Int32} (hf : f_SD_at sd cu x1 x2 x3 = some r) :
    Met l y_SD_at ws_SD_at ({ frames := 2, cells := 0, slots := 0, locals := 45 }) (va_Pc [.ref (sd_a 0), .int x1, .int x2, .int x3] (kP (dC, dI) vwCl (TYS cI cZ cJ) (wSd cI cZ cJ sd_a lk_w lk_v lk_wr lk_rd (cu_a 0) lk_sp sd ++ wSy cI cZ cJ cu_a cu) sz)) (va_Qi (fun (q : Int32) (_ : Unit) => q = r ∧ vp_nar .boolean r = r) (fun _ t => kQ (dC, dI) vwCl (TYS cI cZ cJ) (wSd cI cZ cJ sd_a lk_w lk_v lk_wr lk_rd (cu_a 0) lk_sp sd ++ wSy cI cZ cJ cu_a cu) sz (wSd cI cZ cJ sd_a lk_w lk_v lk_wr lk_rd (cu_a 0) lk_sp sd ++ wSy cI cZ cJ cu_a cu) t) (va_A (wSd cI cZ cJ sd_a lk_w lk_v lk_wr lk_rd (cu_a 0) lk_sp sd ++ wSy cI cZ cJ cu_a cu) sz)) 0 0 (va_A (wSd cI cZ cJ sd_a lk_w lk_v lk_wr lk_rd (cu_a 0) lk_sp sd ++ wSy cI cZ cJ cu_a cu) sz) := by
  refine Met.ofW (cc := c_SD_at) (maxL := 4) (ret := (some .boolean)) (by decide) rfl ?_
  intro p e s m args below meth c s₁ B hml hv
  obtain ⟨rfl, hsz, hP, hK, hD0, hN⟩ := hv
  have hr := B.returns
  have hlocks := B.notSynchronized
  subst hsz
  have hD := hD0.self (sz := s.heap.size)
  have hl := lv_entry ([.ref (sd_a 0), .int x1, .int x2, .int x3]) (n := 4) (Nat.le_of_ble_eq_true rfl)
  rw [lg_entry_eq]
  generalize (lg_sl ([.ref (sd_a 0), .int x1, .int x2, .int x3]) ++ List.replicate (4 - (lg_sl ([.ref (sd_a 0), .int x1, .int x2, .int x3])).length) Slot.unset).toArray = ls at hl ⊢
  refine B_SD_at (A := va_A (wSd cI cZ cJ sd_a lk_w lk_v lk_wr lk_rd (cu_a 0) lk_sp sd ++ wSy cI cZ cJ cu_a cu) s.heap.size) ⟨B.exec, B.bytes, hml, findClass_of_methodNamed B.named, fun w h => atoms_spec (ws := ws_SD_at) B.pre w (List.mem_cons_of_mem _ h), hK, fun q h => Or.inr h, Nat.le_of_ble_eq_true rfl, Nat.le_of_ble_eq_true rfl, hN, Nat.le_of_ble_eq_true rfl, Nat.le_of_ble_eq_true rfl⟩ (fun H locs ls v hz hP hD hS hf => ?_) hP hD va_S.rf hl hf
  · cases hf
    exact W.zret B.exec B.bytes hr (nz_n hz) (fun t ht hW => ⟨⟨_, (), rfl, ⟨rfl, hz⟩, ⟨by rw [ht]; exact hP, va_K.moved hW.alike hK, hD⟩⟩, hS.F ht⟩) hS.2.2 d_SD_at_17

/-! SD_refined -/
def f_SD_refined (sd : Sd) (cu : Sy) (x1 : Int32) (x2 : Int32) (x3 : Int32) (x4 : Int32) : Option (Int32 × Sy) := bd (f_SD_requireSymbol sd cu x1) <| fun _ => gd (inb x1 40) <| lt' (Sy_bs cu x1.toNatClampNeg) <| fun x5_2 => (if x2 = (-1) then bd (f_Symbols_refine cu x1 (-1) 0 0) <| fun cu_11 => some (x5_2, cu_11) else bd (f_SD_requireSymbol sd cu x2) <| fun _ => (if x3 < (-4) then none else (if 4 < x3 then none else (if x4 < (-4) then none else (if x4 ≤ 4 then bd (f_Symbols_comesBefore cu x2 x1) <| fun r_8 => (if r_8 = 0 then none else bd (f_Symbols_refine cu x1 x2 x3 x4) <| fun cu_10 => some (x5_2, cu_10)) else none)))))
section
variable {p : Program} {l : Launch} {e : Env} {R : Room} {s : State} {m : MethodId} {args : Array Value} {below : List Frame} {meth : Method} {c : Code} {Q : State → Prop} {A : Nat → Prop}
set_option maxHeartbeats 4000000 in
set_option maxRecDepth 100000 in
theorem B_SD_refined {cells slots : Nat} {dC : Nat → ClassId} {dI : Nat → Nat → Nat} {cI cZ cJ : ClassId} {sd_a : Nat → Nat} {cu_a : Nat → Nat} {lk_w : Nat} {lk_v : Nat} {lk_wr : Nat} {lk_rd : Nat} {lk_sp : Nat} {sd : Sd} {cu : Sy} {x1 : Int32} {x2 : Int32} {x3 : Int32} {x4 : Int32} {res : Int32 × Sy} (C0 : cxt p c m s args R cells slots R_SD c_SD_refined tb 6 (dC, dI) vwCl (TYS cI cZ cJ) A 1 24)
    (hr34 : ∀ (H : Heap) (locs : List Loc) (ls : Array Slot) (v : Int32) (cu' : Sy), va_P (dC, dI) vwCl (wSd cI cZ cJ sd_a lk_w lk_v lk_wr lk_rd (cu_a 0) lk_sp sd ++ wSy cI cZ cJ cu_a cu') H → va_D A (wSd cI cZ cJ sd_a lk_w lk_v lk_wr lk_rd (cu_a 0) lk_sp sd ++ wSy cI cZ cJ cu_a cu') → va_S A s.heap H locs → some (v, cu') = some res → W p l e R s m args below meth c H locs cells slots Q (F0 m 34 ls [.int v]))
    (hr110 : ∀ (H : Heap) (locs : List Loc) (ls : Array Slot) (v : Int32) (cu' : Sy), va_P (dC, dI) vwCl (wSd cI cZ cJ sd_a lk_w lk_v lk_wr lk_rd (cu_a 0) lk_sp sd ++ wSy cI cZ cJ cu_a cu') H → va_D A (wSd cI cZ cJ sd_a lk_w lk_v lk_wr lk_rd (cu_a 0) lk_sp sd ++ wSy cI cZ cJ cu_a cu') → va_S A s.heap H locs → some (v, cu') = some res → W p l e R s m args below meth c H locs cells slots Q (F0 m 110 ls [.int v]))
    {H : Heap} {locs : List Loc} {ls : Array Slot} (hP : va_P (dC, dI) vwCl (wSd cI cZ cJ sd_a lk_w lk_v lk_wr lk_rd (cu_a 0) lk_sp sd ++ wSy cI cZ cJ cu_a cu) H) (hD : va_D A (wSd cI cZ cJ sd_a lk_w lk_v lk_wr lk_rd (cu_a 0) lk_sp sd ++ wSy cI cZ cJ cu_a cu)) (hS : va_S A s.heap H locs) (hl : lv_has ls 6 [(0, .ref (sd_a 0)), (1, .int x1), (2, .int x2), (3, .int x3), (4, .int x4)]) (hf : f_SD_refined sd cu x1 x2 x3 x4 = some res) : W p l e R s m args below meth c H locs cells slots Q (F0 m 0 ls []) := by
  obtain ⟨hx, hb, hml, hown, hts, hK, hA, hRf, hRl, hN, hRc⟩ := id C0
  rw [f_SD_refined] at hf
  refine lv_aload_n hx hb d_SD_refined_0 rfl (lv_at hl 0 rfl) ?_
  refine lv_iload_n hx hb d_SD_refined_1 rfl (lv_at hl 1 rfl) ?_
  obtain ⟨_, hf1, hf⟩ := bd_ex hf
  try dsimp only at hf
  have hPc := hP.sub (ws' := (wSd cI cZ cJ sd_a lk_w lk_v lk_wr lk_rd (cu_a 0) lk_sp sd ++ wSy cI cZ cJ cu_a cu)) [0, 1, 2, 3, 4, 5, 6, 7, 8, 9, 10] rfl
  have hDc := hD.sub (ws' := (wSd cI cZ cJ sd_a lk_w lk_v lk_wr lk_rd (cu_a 0) lk_sp sd ++ wSy cI cZ cJ cu_a cu)) [0, 1, 2, 3, 4, 5, 6, 7, 8, 9, 10] (by decide) rfl
  have hFc := va_free (wc := (wSd cI cZ cJ sd_a lk_w lk_v lk_wr lk_rd (cu_a 0) lk_sp sd ++ wSy cI cZ cJ cu_a cu)) hD hS hA [0, 1, 2, 3, 4, 5, 6, 7, 8, 9, 10] rfl
  refine va_callv (va_runV (As := [.int x1]) (rest := []) ⟨hx, hb, hml, hown, hts⟩ (k_SD_requireSymbol l dC dI cI cZ cJ sd_a cu_a lk_w lk_v lk_wr lk_rd lk_sp H.size hf1) (cwV 1 hts (gV t_664 t_666 t_21 t_54 t_667) rfl rfl rfl hd_SD_requireSymbol ⟨Nat.le_trans (Nat.le_of_ble_eq_true rfl) hRf, Nat.le_trans (Nat.le_of_ble_eq_true rfl) hRl⟩) ⟨kP_blind, va_recv hK hP (ci := 6) (q0 := 0) rfl rfl, kP_at hPc hK hDc hN⟩ rfl rfl hl.1 rfl (lv_room (Nat.le_of_ble_eq_true rfl)) d_SD_refined_2 hRc) hS (fun q _ h => hFc q h) hFc (fun u t H1 locs ht hvm hw hB hz1 hk1 hS => ?_)
  obtain ⟨hP, hD⟩ := kQ_join (wr := ([] : va_W)) (w1 := (wSd cI cZ cJ sd_a lk_w lk_v lk_wr lk_rd (cu_a 0) lk_sp sd ++ wSy cI cZ cJ cu_a cu)) hP hD [0, 1, 2, 3, 4, 5, 6, 7, 8, 9, 10] [] rfl rfl (by decide) (by decide) ht hk1 hFc hB
  generalize H1 = H at hP hS ⊢
  have hP : va_P (dC, dI) vwCl (wSd cI cZ cJ sd_a lk_w lk_v lk_wr lk_rd (cu_a 0) lk_sp sd ++ wSy cI cZ cJ cu_a cu) H := hP.sub [0, 1, 2, 3, 4, 5, 6, 7, 8, 9, 10] rfl
  have hD : va_D A (wSd cI cZ cJ sd_a lk_w lk_v lk_wr lk_rd (cu_a 0) lk_sp sd ++ wSy cI cZ cJ cu_a cu) := hD.sub [0, 1, 2, 3, 4, 5, 6, 7, 8, 9, 10] (by decide) rfl
  refine lv_aload_n hx hb d_SD_refined_5 rfl (lv_at hl 0 rfl) ?_
  refine va_get (D := (dC, dI)) (ci := 6) (v := .ref (cu_a 0)) (C := R_SD) (T := T_SD) (N := 7) hx hb hts in_SD hown hK hP 0 rfl rfl 5 (by decide) (hts _ t_263) (fun _ h9 => h9) rfl d_SD_refined_6 ?_
  refine va_get (D := (dC, dI)) (ci := 0) (v := .ref (cu_a 4)) (C := R_Symbols) (T := T_Symbols) (N := 10) hx hb hts in_Symbols hown hK hP 1 rfl rfl 3 (by decide) (hts _ t_220) (fun _ h9 => h9) rfl d_SD_refined_9 ?_
  refine lv_iload_n hx hb d_SD_refined_12 rfl (lv_at hl 1 rfl) ?_
  obtain ⟨h_1, hf⟩ := gd_ex hf
  refine va_iald (f := Sy_bs cu) hx hb hK hP 5 0 rfl rfl (inb_in h_1) d_SD_refined_13 ?_
  obtain ⟨x5_2, ex5_2, hf⟩ := lt_ex hf
  try dsimp only at hf
  refine tp_i ex5_2 ?_
  refine lv_istore (lv' := [(5, .int x5_2), (0, .ref (sd_a 0)), (1, .int x1), (2, .int x2), (3, .int x3), (4, .int x4)]) hx hb d_SD_refined_14 hl (by decide) rfl (fun ls hl => ?_)
  refine lv_iload_n hx hb d_SD_refined_16 rfl (lv_at hl 3 rfl) ?_
  refine lv_iconst (v := (-1)) hx hb d_SD_refined_17 (by decide) ?_
  refine lv_icmp_ne (tgt := 35) hx hb d_SD_refined_18 (by decide) (fun c_3 => ?_) (fun c_3 => ?_)
  · rw [if_neg c_3] at hf
    refine lv_aload_n hx hb d_SD_refined_35 rfl (lv_at hl 1 rfl) ?_
    refine lv_iload_n hx hb d_SD_refined_36 rfl (lv_at hl 3 rfl) ?_
    obtain ⟨_, hf1, hf⟩ := bd_ex hf
    try dsimp only at hf
    have hPc := hP.sub (ws' := (wSd cI cZ cJ sd_a lk_w lk_v lk_wr lk_rd (cu_a 0) lk_sp sd ++ wSy cI cZ cJ cu_a cu)) [0, 1, 2, 3, 4, 5, 6, 7, 8, 9, 10] rfl
    have hDc := hD.sub (ws' := (wSd cI cZ cJ sd_a lk_w lk_v lk_wr lk_rd (cu_a 0) lk_sp sd ++ wSy cI cZ cJ cu_a cu)) [0, 1, 2, 3, 4, 5, 6, 7, 8, 9, 10] (by decide) rfl
    have hFc := va_free (wc := (wSd cI cZ cJ sd_a lk_w lk_v lk_wr lk_rd (cu_a 0) lk_sp sd ++ wSy cI cZ cJ cu_a cu)) hD hS hA [0, 1, 2, 3, 4, 5, 6, 7, 8, 9, 10] rfl
    refine va_callv (va_runV (As := [.int x2]) (rest := []) ⟨hx, hb, hml, hown, hts⟩ (k_SD_requireSymbol l dC dI cI cZ cJ sd_a cu_a lk_w lk_v lk_wr lk_rd lk_sp H.size hf1) (cwV 1 hts (gV t_664 t_666 t_21 t_54 t_667) rfl rfl rfl hd_SD_requireSymbol ⟨Nat.le_trans (Nat.le_of_ble_eq_true rfl) hRf, Nat.le_trans (Nat.le_of_ble_eq_true rfl) hRl⟩) ⟨kP_blind, va_recv hK hP (ci := 6) (q0 := 0) rfl rfl, kP_at hPc hK hDc hN⟩ rfl rfl hl.1 rfl (lv_room (Nat.le_of_ble_eq_true rfl)) d_SD_refined_37 hRc) hS (fun q _ h => hFc q h) hFc (fun u t H1 locs ht hvm hw hB hz1 hk1 hS => ?_)
    obtain ⟨hP, hD⟩ := kQ_join (wr := ([] : va_W)) (w1 := (wSd cI cZ cJ sd_a lk_w lk_v lk_wr lk_rd (cu_a 0) lk_sp sd ++ wSy cI cZ cJ cu_a cu)) hP hD [0, 1, 2, 3, 4, 5, 6, 7, 8, 9, 10] [] rfl rfl (by decide) (by decide) ht hk1 hFc hB
    generalize H1 = H at hP hS ⊢
    have hP : va_P (dC, dI) vwCl (wSd cI cZ cJ sd_a lk_w lk_v lk_wr lk_rd (cu_a 0) lk_sp sd ++ wSy cI cZ cJ cu_a cu) H := hP.sub [0, 1, 2, 3, 4, 5, 6, 7, 8, 9, 10] rfl
    have hD : va_D A (wSd cI cZ cJ sd_a lk_w lk_v lk_wr lk_rd (cu_a 0) lk_sp sd ++ wSy cI cZ cJ cu_a cu) := hD.sub [0, 1, 2, 3, 4, 5, 6, 7, 8, 9, 10] (by decide) rfl
    refine lv_iload_n hx hb d_SD_refined_40 rfl (lv_at hl 4 rfl) ?_
    refine lv_bipush (v := (-4)) hx hb d_SD_refined_41 (by decide) ?_
    refine lv_icmp_lt (tgt := 64) hx hb d_SD_refined_43 (by decide) (fun c_4 => ?_) (fun c_4 => ?_)
    · rw [if_pos c_4] at hf
      exact absurd hf (by simp)
    · rw [if_neg c_4] at hf
      refine lv_iload_n hx hb d_SD_refined_46 rfl (lv_at hl 4 rfl) ?_
      refine lv_iconst (v := 4) hx hb d_SD_refined_47 (by decide) ?_
      refine lv_icmp_gt (tgt := 64) hx hb d_SD_refined_48 (by decide) (fun c_5 => ?_) (fun c_5 => ?_)
      · rw [if_pos c_5] at hf
        exact absurd hf (by simp)
      · rw [if_neg c_5] at hf
        refine lv_iload hx hb d_SD_refined_51 (lv_at hl 5 rfl) ?_
        refine lv_bipush (v := (-4)) hx hb d_SD_refined_53 (by decide) ?_
        refine lv_icmp_lt (tgt := 64) hx hb d_SD_refined_55 (by decide) (fun c_6 => ?_) (fun c_6 => ?_)
        · rw [if_pos c_6] at hf
          exact absurd hf (by simp)
        · rw [if_neg c_6] at hf
          refine lv_iload hx hb d_SD_refined_58 (lv_at hl 5 rfl) ?_
          refine lv_iconst (v := 4) hx hb d_SD_refined_60 (by decide) ?_
          refine lv_icmp_le (tgt := 74) hx hb d_SD_refined_61 (by decide) (fun c_7 => ?_) (fun c_7 => ?_)
          · rw [if_pos c_7] at hf
            refine lv_aload_n hx hb d_SD_refined_74 rfl (lv_at hl 1 rfl) ?_
            refine va_get (D := (dC, dI)) (ci := 6) (v := .ref (cu_a 0)) (C := R_SD) (T := T_SD) (N := 7) hx hb hts in_SD hown hK hP 0 rfl rfl 5 (by decide) (hts _ t_263) (fun _ h9 => h9) rfl d_SD_refined_75 ?_
            refine lv_iload_n hx hb d_SD_refined_78 rfl (lv_at hl 3 rfl) ?_
            refine lv_iload_n hx hb d_SD_refined_79 rfl (lv_at hl 2 rfl) ?_
            obtain ⟨r_8, hf1, hf⟩ := bd_ex hf
            try dsimp only at hf
            have hPc := hP.sub (ws' := (wSy cI cZ cJ cu_a cu)) [1, 2, 3, 4, 5, 6, 7, 8, 9, 10] rfl
            have hDc := hD.sub (ws' := (wSy cI cZ cJ cu_a cu)) [1, 2, 3, 4, 5, 6, 7, 8, 9, 10] (by decide) rfl
            have hFc := va_free (wc := (wSy cI cZ cJ cu_a cu)) hD hS hA [1, 2, 3, 4, 5, 6, 7, 8, 9, 10] rfl
            refine va_calli (va_runV (As := [.int x2, .int x1]) (rest := []) ⟨hx, hb, hml, hown, hts⟩ (k_Symbols_comesBefore l dC dI cI cZ cJ cu_a H.size hf1) (cwV 2 hts (gV t_715 t_293 t_294 t_62 t_295) rfl rfl rfl hd_Symbols_comesBefore ⟨Nat.le_trans (Nat.le_of_ble_eq_true rfl) hRf, Nat.le_trans (Nat.le_of_ble_eq_true rfl) hRl⟩) ⟨kP_blind, va_recv hK hP (ci := 0) (q0 := 1) rfl rfl, kP_at hPc hK hDc hN⟩ rfl rfl hl.1 rfl (lv_room (Nat.le_of_ble_eq_true rfl)) d_SD_refined_80 hRc) hS (fun q _ h => hFc q h) hFc (fun r9 u t H1 locs ht hvm hw hB hz1 hk1 hS => ?_)
            rw [hw.1]
            obtain ⟨hP, hD⟩ := kQ_join (wr := (wSd cI cZ cJ sd_a lk_w lk_v lk_wr lk_rd (cu_a 0) lk_sp sd)) (w1 := (wSy cI cZ cJ cu_a cu)) hP hD [1, 2, 3, 4, 5, 6, 7, 8, 9, 10] [0] rfl rfl (by decide) (by decide) ht hk1 hFc hB
            generalize H1 = H at hP hS ⊢
            have hP : va_P (dC, dI) vwCl (wSd cI cZ cJ sd_a lk_w lk_v lk_wr lk_rd (cu_a 0) lk_sp sd ++ wSy cI cZ cJ cu_a cu) H := hP.sub [0, 1, 2, 3, 4, 5, 6, 7, 8, 9, 10] rfl
            have hD : va_D A (wSd cI cZ cJ sd_a lk_w lk_v lk_wr lk_rd (cu_a 0) lk_sp sd ++ wSy cI cZ cJ cu_a cu) := hD.sub [0, 1, 2, 3, 4, 5, 6, 7, 8, 9, 10] (by decide) rfl
            refine lv_if_ne (tgt := 96) hx hb d_SD_refined_83 (by decide) (fun c_9 => ?_) (fun c_9 => ?_)
            · rw [if_neg c_9] at hf
              refine lv_aload_n hx hb d_SD_refined_96 rfl (lv_at hl 1 rfl) ?_
              refine va_get (D := (dC, dI)) (ci := 6) (v := .ref (cu_a 0)) (C := R_SD) (T := T_SD) (N := 7) hx hb hts in_SD hown hK hP 0 rfl rfl 5 (by decide) (hts _ t_263) (fun _ h9 => h9) rfl d_SD_refined_97 ?_
              refine lv_iload_n hx hb d_SD_refined_100 rfl (lv_at hl 2 rfl) ?_
              refine lv_iload_n hx hb d_SD_refined_101 rfl (lv_at hl 3 rfl) ?_
              refine lv_iload_n hx hb d_SD_refined_102 rfl (lv_at hl 4 rfl) ?_
              refine lv_iload hx hb d_SD_refined_103 (lv_at hl 5 rfl) ?_
              obtain ⟨cu_10, hf1, hf⟩ := bd_ex hf
              try dsimp only at hf
              have hPc := hP.sub (ws' := (wSy cI cZ cJ cu_a cu)) [1, 2, 3, 4, 5, 6, 7, 8, 9, 10] rfl
              have hDc := hD.sub (ws' := (wSy cI cZ cJ cu_a cu)) [1, 2, 3, 4, 5, 6, 7, 8, 9, 10] (by decide) rfl
              have hFc := va_free (wc := (wSy cI cZ cJ cu_a cu)) hD hS hA [1, 2, 3, 4, 5, 6, 7, 8, 9, 10] rfl
              refine va_callv (va_runV (As := [.int x1, .int x2, .int x3, .int x4]) (rest := []) ⟨hx, hb, hml, hown, hts⟩ (k_Symbols_refine l dC dI cI cZ cJ cu_a H.size hf1) (cwV 4 hts (gV t_713 t_503 t_504 t_62 t_505) rfl rfl rfl hd_Symbols_refine ⟨Nat.le_trans (Nat.le_of_ble_eq_true rfl) hRf, Nat.le_trans (Nat.le_of_ble_eq_true rfl) hRl⟩) ⟨kP_blind, va_recv hK hP (ci := 0) (q0 := 1) rfl rfl, kP_at hPc hK hDc hN⟩ rfl rfl hl.1 rfl (lv_room (Nat.le_of_ble_eq_true rfl)) d_SD_refined_105 hRc) hS (fun q _ h => hFc q h) hFc (fun u t H1 locs ht hvm hw hB hz1 hk1 hS => ?_)
              obtain ⟨hP, hD⟩ := kQ_join (wr := (wSd cI cZ cJ sd_a lk_w lk_v lk_wr lk_rd (cu_a 0) lk_sp sd)) (w1 := (wSy cI cZ cJ cu_a cu_10)) hP hD [1, 2, 3, 4, 5, 6, 7, 8, 9, 10] [0] rfl rfl (by decide) (by decide) ht hk1 hFc hB
              generalize H1 = H at hP hS ⊢
              have hP : va_P (dC, dI) vwCl (wSd cI cZ cJ sd_a lk_w lk_v lk_wr lk_rd (cu_a 0) lk_sp sd ++ wSy cI cZ cJ cu_a cu_10) H := hP.sub [0, 1, 2, 3, 4, 5, 6, 7, 8, 9, 10] rfl
              have hD : va_D A (wSd cI cZ cJ sd_a lk_w lk_v lk_wr lk_rd (cu_a 0) lk_sp sd ++ wSy cI cZ cJ cu_a cu_10) := hD.sub [0, 1, 2, 3, 4, 5, 6, 7, 8, 9, 10] (by decide) rfl
              refine lv_iload hx hb d_SD_refined_108 (lv_at hl 0 rfl) ?_
              exact hr110 _ _ _ x5_2 cu_10 hP hD hS hf
            · rw [if_pos c_9] at hf
              exact absurd hf (by simp)
          · rw [if_neg c_7] at hf
            exact absurd hf (by simp)
  · rw [if_pos c_3] at hf
    refine lv_aload_n hx hb d_SD_refined_21 rfl (lv_at hl 1 rfl) ?_
    refine va_get (D := (dC, dI)) (ci := 6) (v := .ref (cu_a 0)) (C := R_SD) (T := T_SD) (N := 7) hx hb hts in_SD hown hK hP 0 rfl rfl 5 (by decide) (hts _ t_263) (fun _ h9 => h9) rfl d_SD_refined_22 ?_
    refine lv_iload_n hx hb d_SD_refined_25 rfl (lv_at hl 2 rfl) ?_
    refine lv_iconst (v := (-1)) hx hb d_SD_refined_26 (by decide) ?_
    refine lv_iconst (v := 0) hx hb d_SD_refined_27 (by decide) ?_
    refine lv_iconst (v := 0) hx hb d_SD_refined_28 (by decide) ?_
    obtain ⟨cu_11, hf1, hf⟩ := bd_ex hf
    try dsimp only at hf
    have hPc := hP.sub (ws' := (wSy cI cZ cJ cu_a cu)) [1, 2, 3, 4, 5, 6, 7, 8, 9, 10] rfl
    have hDc := hD.sub (ws' := (wSy cI cZ cJ cu_a cu)) [1, 2, 3, 4, 5, 6, 7, 8, 9, 10] (by decide) rfl
    have hFc := va_free (wc := (wSy cI cZ cJ cu_a cu)) hD hS hA [1, 2, 3, 4, 5, 6, 7, 8, 9, 10] rfl
    refine va_callv (va_runV (As := [.int x1, .int (-1), .int 0, .int 0]) (rest := []) ⟨hx, hb, hml, hown, hts⟩ (k_Symbols_refine l dC dI cI cZ cJ cu_a H.size hf1) (cwV 4 hts (gV t_713 t_503 t_504 t_62 t_505) rfl rfl rfl hd_Symbols_refine ⟨Nat.le_trans (Nat.le_of_ble_eq_true rfl) hRf, Nat.le_trans (Nat.le_of_ble_eq_true rfl) hRl⟩) ⟨kP_blind, va_recv hK hP (ci := 0) (q0 := 1) rfl rfl, kP_at hPc hK hDc hN⟩ rfl rfl hl.1 rfl (lv_room (Nat.le_of_ble_eq_true rfl)) d_SD_refined_29 hRc) hS (fun q _ h => hFc q h) hFc (fun u t H1 locs ht hvm hw hB hz1 hk1 hS => ?_)
    obtain ⟨hP, hD⟩ := kQ_join (wr := (wSd cI cZ cJ sd_a lk_w lk_v lk_wr lk_rd (cu_a 0) lk_sp sd)) (w1 := (wSy cI cZ cJ cu_a cu_11)) hP hD [1, 2, 3, 4, 5, 6, 7, 8, 9, 10] [0] rfl rfl (by decide) (by decide) ht hk1 hFc hB
    generalize H1 = H at hP hS ⊢
    have hP : va_P (dC, dI) vwCl (wSd cI cZ cJ sd_a lk_w lk_v lk_wr lk_rd (cu_a 0) lk_sp sd ++ wSy cI cZ cJ cu_a cu_11) H := hP.sub [0, 1, 2, 3, 4, 5, 6, 7, 8, 9, 10] rfl
    have hD : va_D A (wSd cI cZ cJ sd_a lk_w lk_v lk_wr lk_rd (cu_a 0) lk_sp sd ++ wSy cI cZ cJ cu_a cu_11) := hD.sub [0, 1, 2, 3, 4, 5, 6, 7, 8, 9, 10] (by decide) rfl
    refine lv_iload hx hb d_SD_refined_32 (lv_at hl 0 rfl) ?_
    exact hr34 _ _ _ x5_2 cu_11 hP hD hS hf
end
set_option maxHeartbeats 4000000 in
set_option maxRecDepth 100000 in
theorem k_SD_refined (l : Launch) (dC : Nat → ClassId) (dI : Nat → Nat → Nat) (cI cZ cJ : ClassId) (sd_a : Nat → Nat) (cu_a : Nat → Nat) (lk_w : Nat) (lk_v : Nat) (lk_wr : Nat) (lk_rd : Nat) (lk_sp : Nat) (sz : Nat) {sd : Sd} {cu : Sy} {x1 : Int32} {x2 : Int32} {x3 : Int32} {x4 : Int32} {r : Int32} {cu' : Sy} (hf : f_SD_refined sd cu x1 x2 x3 x4 = some (r, cu')) :
    Met l y_SD_refined ws_SD_refined ({ frames := 1, cells := 0, slots := 0, locals := 24 }) (va_Pc [.ref (sd_a 0), .int x1, .int x2, .int x3, .int x4] (kP (dC, dI) vwCl (TYS cI cZ cJ) (wSd cI cZ cJ sd_a lk_w lk_v lk_wr lk_rd (cu_a 0) lk_sp sd ++ wSy cI cZ cJ cu_a cu) sz)) (va_Qi (fun (q : Int32) (_ : Unit) => q = r) (fun _ t => kQ (dC, dI) vwCl (TYS cI cZ cJ) (wSd cI cZ cJ sd_a lk_w lk_v lk_wr lk_rd (cu_a 0) lk_sp sd ++ wSy cI cZ cJ cu_a cu) sz (wSd cI cZ cJ sd_a lk_w lk_v lk_wr lk_rd (cu_a 0) lk_sp sd ++ wSy cI cZ cJ cu_a cu') t) (va_A (wSd cI cZ cJ sd_a lk_w lk_v lk_wr lk_rd (cu_a 0) lk_sp sd ++ wSy cI cZ cJ cu_a cu) sz)) 0 0 (va_A (wSd cI cZ cJ sd_a lk_w lk_v lk_wr lk_rd (cu_a 0) lk_sp sd ++ wSy cI cZ cJ cu_a cu) sz) := by
  refine Met.ofW (cc := c_SD_refined) (maxL := 6) (ret := (some .int)) (by decide) rfl ?_
  intro p e s m args below meth c s₁ B hml hv
  obtain ⟨rfl, hsz, hP, hK, hD0, hN⟩ := hv
  have hr := B.returns
  have hlocks := B.notSynchronized
  subst hsz
  have hD := hD0.self (sz := s.heap.size)
  have hl := lv_entry ([.ref (sd_a 0), .int x1, .int x2, .int x3, .int x4]) (n := 6) (Nat.le_of_ble_eq_true rfl)
  rw [lg_entry_eq]
  generalize (lg_sl ([.ref (sd_a 0), .int x1, .int x2, .int x3, .int x4]) ++ List.replicate (6 - (lg_sl ([.ref (sd_a 0), .int x1, .int x2, .int x3, .int x4])).length) Slot.unset).toArray = ls at hl ⊢
  refine B_SD_refined (A := va_A (wSd cI cZ cJ sd_a lk_w lk_v lk_wr lk_rd (cu_a 0) lk_sp sd ++ wSy cI cZ cJ cu_a cu) s.heap.size) ⟨B.exec, B.bytes, hml, findClass_of_methodNamed B.named, fun w h => atoms_spec (ws := ws_SD_refined) B.pre w (List.mem_cons_of_mem _ h), hK, fun q h => Or.inr h, Nat.le_of_ble_eq_true rfl, Nat.le_of_ble_eq_true rfl, hN, Nat.le_of_ble_eq_true rfl, Nat.le_of_ble_eq_true rfl⟩ (fun H locs ls v cu'1 hP hD hS hf => ?_) (fun H locs ls v cu'1 hP hD hS hf => ?_) hP hD va_S.rf hl hf
  · cases hf
    exact W.iret B.exec B.bytes hr (fun t ht hW => ⟨⟨_, (), rfl, rfl, ⟨by rw [ht]; exact hP, va_K.moved hW.alike hK, hD⟩⟩, hS.F ht⟩) hS.2.2 d_SD_refined_34
  · cases hf
    exact W.iret B.exec B.bytes hr (fun t ht hW => ⟨⟨_, (), rfl, rfl, ⟨by rw [ht]; exact hP, va_K.moved hW.alike hK, hD⟩⟩, hS.F ht⟩) hS.2.2 d_SD_refined_110

/-! SD_export -/
def f_SD_export (sd : Sd) (cu : Sy) (x1 : Int32) (x2 : Int32) : Option (Int32 × Sy) := bd (f_SD_requireSymbol sd cu x1) <| fun _ => gd (inb x1 40) <| (if (Sy_ex cu x1.toNatClampNeg) = x2 then gd (inb x1 40) <| lt' (Sy_s_ex cu (upd (Sy_ex cu) x1.toNatClampNeg (vp_nar .boolean x2))) <| fun cu_4 => some (0, cu_4) else gd (inb x1 40) <| lt' (Sy_s_ex cu (upd (Sy_ex cu) x1.toNatClampNeg (vp_nar .boolean x2))) <| fun cu_7 => some (1, cu_7))
section
variable {p : Program} {l : Launch} {e : Env} {R : Room} {s : State} {m : MethodId} {args : Array Value} {below : List Frame} {meth : Method} {c : Code} {Q : State → Prop} {A : Nat → Prop}
set_option maxHeartbeats 4000000 in
set_option maxRecDepth 100000 in
theorem B_SD_export {cells slots : Nat} {dC : Nat → ClassId} {dI : Nat → Nat → Nat} {cI cZ cJ : ClassId} {sd_a : Nat → Nat} {cu_a : Nat → Nat} {lk_w : Nat} {lk_v : Nat} {lk_wr : Nat} {lk_rd : Nat} {lk_sp : Nat} {sd : Sd} {cu : Sy} {x1 : Int32} {x2 : Int32} {res : Int32 × Sy} (C0 : cxt p c m s args R cells slots R_SD c_SD_export tb 4 (dC, dI) vwCl (TYS cI cZ cJ) A 1 21)
    (hr35 : ∀ (H : Heap) (locs : List Loc) (ls : Array Slot) (v : Int32) (cu' : Sy), vp_nar .boolean v = v → va_P (dC, dI) vwCl (wSd cI cZ cJ sd_a lk_w lk_v lk_wr lk_rd (cu_a 0) lk_sp sd ++ wSy cI cZ cJ cu_a cu') H → va_D A (wSd cI cZ cJ sd_a lk_w lk_v lk_wr lk_rd (cu_a 0) lk_sp sd ++ wSy cI cZ cJ cu_a cu') → va_S A s.heap H locs → some (v, cu') = some res → W p l e R s m args below meth c H locs cells slots Q (F0 m 35 ls [.int v]))
    {H : Heap} {locs : List Loc} {ls : Array Slot} (hP : va_P (dC, dI) vwCl (wSd cI cZ cJ sd_a lk_w lk_v lk_wr lk_rd (cu_a 0) lk_sp sd ++ wSy cI cZ cJ cu_a cu) H) (hD : va_D A (wSd cI cZ cJ sd_a lk_w lk_v lk_wr lk_rd (cu_a 0) lk_sp sd ++ wSy cI cZ cJ cu_a cu)) (hS : va_S A s.heap H locs) (hl : lv_has ls 4 [(0, .ref (sd_a 0)), (1, .int x1), (2, .int x2)]) (hf : f_SD_export sd cu x1 x2 = some res) : W p l e R s m args below meth c H locs cells slots Q (F0 m 0 ls []) := by
  obtain ⟨hx, hb, hml, hown, hts, hK, hA, hRf, hRl, hN, hRc⟩ := id C0
  rw [f_SD_export] at hf
  refine lv_aload_n hx hb d_SD_export_0 rfl (lv_at hl 0 rfl) ?_
  refine lv_iload_n hx hb d_SD_export_1 rfl (lv_at hl 1 rfl) ?_
  obtain ⟨_, hf1, hf⟩ := bd_ex hf
  try dsimp only at hf
  have hPc := hP.sub (ws' := (wSd cI cZ cJ sd_a lk_w lk_v lk_wr lk_rd (cu_a 0) lk_sp sd ++ wSy cI cZ cJ cu_a cu)) [0, 1, 2, 3, 4, 5, 6, 7, 8, 9, 10] rfl
  have hDc := hD.sub (ws' := (wSd cI cZ cJ sd_a lk_w lk_v lk_wr lk_rd (cu_a 0) lk_sp sd ++ wSy cI cZ cJ cu_a cu)) [0, 1, 2, 3, 4, 5, 6, 7, 8, 9, 10] (by decide) rfl
  have hFc := va_free (wc := (wSd cI cZ cJ sd_a lk_w lk_v lk_wr lk_rd (cu_a 0) lk_sp sd ++ wSy cI cZ cJ cu_a cu)) hD hS hA [0, 1, 2, 3, 4, 5, 6, 7, 8, 9, 10] rfl
  refine va_callv (va_runV (As := [.int x1]) (rest := []) ⟨hx, hb, hml, hown, hts⟩ (k_SD_requireSymbol l dC dI cI cZ cJ sd_a cu_a lk_w lk_v lk_wr lk_rd lk_sp H.size hf1) (cwV 1 hts (gV t_664 t_666 t_21 t_54 t_667) rfl rfl rfl hd_SD_requireSymbol ⟨Nat.le_trans (Nat.le_of_ble_eq_true rfl) hRf, Nat.le_trans (Nat.le_of_ble_eq_true rfl) hRl⟩) ⟨kP_blind, va_recv hK hP (ci := 6) (q0 := 0) rfl rfl, kP_at hPc hK hDc hN⟩ rfl rfl hl.1 rfl (lv_room (Nat.le_of_ble_eq_true rfl)) d_SD_export_2 hRc) hS (fun q _ h => hFc q h) hFc (fun u t H1 locs ht hvm hw hB hz1 hk1 hS => ?_)
  obtain ⟨hP, hD⟩ := kQ_join (wr := ([] : va_W)) (w1 := (wSd cI cZ cJ sd_a lk_w lk_v lk_wr lk_rd (cu_a 0) lk_sp sd ++ wSy cI cZ cJ cu_a cu)) hP hD [0, 1, 2, 3, 4, 5, 6, 7, 8, 9, 10] [] rfl rfl (by decide) (by decide) ht hk1 hFc hB
  generalize H1 = H at hP hS ⊢
  have hP : va_P (dC, dI) vwCl (wSd cI cZ cJ sd_a lk_w lk_v lk_wr lk_rd (cu_a 0) lk_sp sd ++ wSy cI cZ cJ cu_a cu) H := hP.sub [0, 1, 2, 3, 4, 5, 6, 7, 8, 9, 10] rfl
  have hD : va_D A (wSd cI cZ cJ sd_a lk_w lk_v lk_wr lk_rd (cu_a 0) lk_sp sd ++ wSy cI cZ cJ cu_a cu) := hD.sub [0, 1, 2, 3, 4, 5, 6, 7, 8, 9, 10] (by decide) rfl
  refine lv_aload_n hx hb d_SD_export_5 rfl (lv_at hl 0 rfl) ?_
  refine va_get (D := (dC, dI)) (ci := 6) (v := .ref (cu_a 0)) (C := R_SD) (T := T_SD) (N := 7) hx hb hts in_SD hown hK hP 0 rfl rfl 5 (by decide) (hts _ t_263) (fun _ h9 => h9) rfl d_SD_export_6 ?_
  refine va_get (D := (dC, dI)) (ci := 0) (v := .ref (cu_a 3)) (C := R_Symbols) (T := T_Symbols) (N := 10) hx hb hts in_Symbols hown hK hP 1 rfl rfl 2 (by decide) (hts _ t_216) (fun _ h9 => h9) rfl d_SD_export_9 ?_
  refine lv_iload_n hx hb d_SD_export_12 rfl (lv_at hl 1 rfl) ?_
  obtain ⟨h_1, hf⟩ := gd_ex hf
  refine va_zald (f := Sy_ex cu) hx hb hK hP 4 1 rfl rfl (inb_in h_1) d_SD_export_13 ?_
  refine lv_iload_n hx hb d_SD_export_14 rfl (lv_at hl 2 rfl) ?_
  refine lv_icmp_eq (tgt := 22) hx hb d_SD_export_15 (by decide) (fun c_2 => ?_) (fun c_2 => ?_)
  · rw [if_pos c_2] at hf
    refine lv_iconst (v := 0) hx hb d_SD_export_22 (by decide) ?_
    refine lv_istore_n (lv' := [(3, .int 0), (0, .ref (sd_a 0)), (1, .int x1), (2, .int x2)]) hx hb d_SD_export_23 rfl hl (by decide) rfl (fun ls hl => ?_)
    refine lv_aload_n hx hb d_SD_export_24 rfl (lv_at hl 1 rfl) ?_
    refine va_get (D := (dC, dI)) (ci := 6) (v := .ref (cu_a 0)) (C := R_SD) (T := T_SD) (N := 7) hx hb hts in_SD hown hK hP 0 rfl rfl 5 (by decide) (hts _ t_263) (fun _ h9 => h9) rfl d_SD_export_25 ?_
    refine va_get (D := (dC, dI)) (ci := 0) (v := .ref (cu_a 3)) (C := R_Symbols) (T := T_Symbols) (N := 10) hx hb hts in_Symbols hown hK hP 1 rfl rfl 2 (by decide) (hts _ t_216) (fun _ h9 => h9) rfl d_SD_export_28 ?_
    refine lv_iload_n hx hb d_SD_export_31 rfl (lv_at hl 2 rfl) ?_
    refine lv_iload_n hx hb d_SD_export_32 rfl (lv_at hl 3 rfl) ?_
    obtain ⟨h_3, hf⟩ := gd_ex hf
    refine va_zast (f := Sy_ex cu) hx hb hK hP hD hS 4 1 rfl rfl (inb_in h_3) d_SD_export_33 (fun H locs hP hD hS => ?_)
    obtain ⟨cu_4, ecu_4, hf⟩ := lt_ex hf
    try dsimp only at hf
    have hP : va_P (dC, dI) vwCl (wSd cI cZ cJ sd_a lk_w lk_v lk_wr lk_rd (cu_a 0) lk_sp sd ++ wSy cI cZ cJ cu_a cu_4) H := by rw [ecu_4]; exact hP
    have hD : va_D A (wSd cI cZ cJ sd_a lk_w lk_v lk_wr lk_rd (cu_a 0) lk_sp sd ++ wSy cI cZ cJ cu_a cu_4) := by rw [ecu_4]; exact hD
    refine lv_iload_n hx hb d_SD_export_34 rfl (lv_at hl 0 rfl) ?_
    exact hr35 _ _ _ 0 cu_4 (by decide) hP hD hS hf
  · rw [if_neg c_2] at hf
    refine lv_iconst (v := 1) hx hb d_SD_export_18 (by decide) ?_
    refine lv_goto (tgt := 23) hx hb d_SD_export_19 (by decide) ?_
    refine lv_istore_n (lv' := [(3, .int 1), (0, .ref (sd_a 0)), (1, .int x1), (2, .int x2)]) hx hb d_SD_export_23 rfl hl (by decide) rfl (fun ls hl => ?_)
    refine lv_aload_n hx hb d_SD_export_24 rfl (lv_at hl 1 rfl) ?_
    refine va_get (D := (dC, dI)) (ci := 6) (v := .ref (cu_a 0)) (C := R_SD) (T := T_SD) (N := 7) hx hb hts in_SD hown hK hP 0 rfl rfl 5 (by decide) (hts _ t_263) (fun _ h9 => h9) rfl d_SD_export_25 ?_
    refine va_get (D := (dC, dI)) (ci := 0) (v := .ref (cu_a 3)) (C := R_Symbols) (T := T_Symbols) (N := 10) hx hb hts in_Symbols hown hK hP 1 rfl rfl 2 (by decide) (hts _ t_216) (fun _ h9 => h9) rfl d_SD_export_28 ?_
    refine lv_iload_n hx hb d_SD_export_31 rfl (lv_at hl 2 rfl) ?_
    refine lv_iload_n hx hb d_SD_export_32 rfl (lv_at hl 3 rfl) ?_
    obtain ⟨h_6, hf⟩ := gd_ex hf
    refine va_zast (f := Sy_ex cu) hx hb hK hP hD hS 4 1 rfl rfl (inb_in h_6) d_SD_export_33 (fun H locs hP hD hS => ?_)
    obtain ⟨cu_7, ecu_7, hf⟩ := lt_ex hf
    try dsimp only at hf
    have hP : va_P (dC, dI) vwCl (wSd cI cZ cJ sd_a lk_w lk_v lk_wr lk_rd (cu_a 0) lk_sp sd ++ wSy cI cZ cJ cu_a cu_7) H := by rw [ecu_7]; exact hP
    have hD : va_D A (wSd cI cZ cJ sd_a lk_w lk_v lk_wr lk_rd (cu_a 0) lk_sp sd ++ wSy cI cZ cJ cu_a cu_7) := by rw [ecu_7]; exact hD
    refine lv_iload_n hx hb d_SD_export_34 rfl (lv_at hl 0 rfl) ?_
    exact hr35 _ _ _ 1 cu_7 (by decide) hP hD hS hf
end
set_option maxHeartbeats 4000000 in
set_option maxRecDepth 100000 in
theorem k_SD_export (l : Launch) (dC : Nat → ClassId) (dI : Nat → Nat → Nat) (cI cZ cJ : ClassId) (sd_a : Nat → Nat) (cu_a : Nat → Nat) (lk_w : Nat) (lk_v : Nat) (lk_wr : Nat) (lk_rd : Nat) (lk_sp : Nat) (sz : Nat) {sd : Sd} {cu : Sy} {x1 : Int32} {x2 : Int32} {r : Int32} {cu' : Sy} (hf : f_SD_export sd cu x1 x2 = some (r, cu')) :
    Met l y_SD_export ws_SD_export ({ frames := 1, cells := 0, slots := 0, locals := 21 }) (va_Pc [.ref (sd_a 0), .int x1, .int x2] (kP (dC, dI) vwCl (TYS cI cZ cJ) (wSd cI cZ cJ sd_a lk_w lk_v lk_wr lk_rd (cu_a 0) lk_sp sd ++ wSy cI cZ cJ cu_a cu) sz)) (va_Qi (fun (q : Int32) (_ : Unit) => q = r ∧ vp_nar .boolean r = r) (fun _ t => kQ (dC, dI) vwCl (TYS cI cZ cJ) (wSd cI cZ cJ sd_a lk_w lk_v lk_wr lk_rd (cu_a 0) lk_sp sd ++ wSy cI cZ cJ cu_a cu) sz (wSd cI cZ cJ sd_a lk_w lk_v lk_wr lk_rd (cu_a 0) lk_sp sd ++ wSy cI cZ cJ cu_a cu') t) (va_A (wSd cI cZ cJ sd_a lk_w lk_v lk_wr lk_rd (cu_a 0) lk_sp sd ++ wSy cI cZ cJ cu_a cu) sz)) 0 0 (va_A (wSd cI cZ cJ sd_a lk_w lk_v lk_wr lk_rd (cu_a 0) lk_sp sd ++ wSy cI cZ cJ cu_a cu) sz) := by
  refine Met.ofW (cc := c_SD_export) (maxL := 4) (ret := (some .boolean)) (by decide) rfl ?_
  intro p e s m args below meth c s₁ B hml hv
  obtain ⟨rfl, hsz, hP, hK, hD0, hN⟩ := hv
  have hr := B.returns
  have hlocks := B.notSynchronized
  subst hsz
  have hD := hD0.self (sz := s.heap.size)
  have hl := lv_entry ([.ref (sd_a 0), .int x1, .int x2]) (n := 4) (Nat.le_of_ble_eq_true rfl)
  rw [lg_entry_eq]
  generalize (lg_sl ([.ref (sd_a 0), .int x1, .int x2]) ++ List.replicate (4 - (lg_sl ([.ref (sd_a 0), .int x1, .int x2])).length) Slot.unset).toArray = ls at hl ⊢
  refine B_SD_export (A := va_A (wSd cI cZ cJ sd_a lk_w lk_v lk_wr lk_rd (cu_a 0) lk_sp sd ++ wSy cI cZ cJ cu_a cu) s.heap.size) ⟨B.exec, B.bytes, hml, findClass_of_methodNamed B.named, fun w h => atoms_spec (ws := ws_SD_export) B.pre w (List.mem_cons_of_mem _ h), hK, fun q h => Or.inr h, Nat.le_of_ble_eq_true rfl, Nat.le_of_ble_eq_true rfl, hN, Nat.le_of_ble_eq_true rfl, Nat.le_of_ble_eq_true rfl⟩ (fun H locs ls v cu'1 hz hP hD hS hf => ?_) hP hD va_S.rf hl hf
  · cases hf
    exact W.zret B.exec B.bytes hr (nz_n hz) (fun t ht hW => ⟨⟨_, (), rfl, ⟨rfl, hz⟩, ⟨by rw [ht]; exact hP, va_K.moved hW.alike hK, hD⟩⟩, hS.F ht⟩) hS.2.2 d_SD_export_35

/-! SD_told -/
def f_SD_told (sd : Sd) (cu : Sy) (x1 : Int32) (x2 : Int32) : Option (Int32) := bd (f_SD_requireSymbol sd cu x1) <| fun _ => (if x2 = 0 then gd (inb x1 40) <| some (Sy_wd cu x1.toNatClampNeg) else if x2 = 1 then gd (inb x1 40) <| some (Sy_ht cu x1.toNatClampNeg) else if x2 = 2 then bd (f_Symbols_blackOf cu x1) <| fun r_3 => some r_3 else if x2 = 3 then gd (inb x1 40) <| (if (Sy_ex cu x1.toNatClampNeg) = 0 then some 0 else some 1) else if x2 = 4 then gd (inb x1 40) <| some (Sy_bs cu x1.toNatClampNeg) else if x2 = 5 then gd (inb x1 40) <| some (Sy_dx cu x1.toNatClampNeg) else if x2 = 6 then gd (inb x1 40) <| some (Sy_dy cu x1.toNatClampNeg) else if x2 = 7 then bd (f_Symbols_placeOf cu x1) <| fun r_9 => some r_9 else none)
section
variable {p : Program} {l : Launch} {e : Env} {R : Room} {s : State} {m : MethodId} {args : Array Value} {below : List Frame} {meth : Method} {c : Code} {Q : State → Prop} {A : Nat → Prop}
set_option maxHeartbeats 4000000 in
set_option maxRecDepth 100000 in
theorem B_SD_told {cells slots : Nat} {dC : Nat → ClassId} {dI : Nat → Nat → Nat} {cI cZ cJ : ClassId} {sd_a : Nat → Nat} {cu_a : Nat → Nat} {lk_w : Nat} {lk_v : Nat} {lk_wr : Nat} {lk_rd : Nat} {lk_sp : Nat} {sd : Sd} {cu : Sy} {x1 : Int32} {x2 : Int32} {res : Int32} (C0 : cxt p c m s args R cells slots R_SD c_SD_told tb 3 (dC, dI) vwCl (TYS cI cZ cJ) A 2 45)
    (hr61 : ∀ (H : Heap) (locs : List Loc) (ls : Array Slot) (v : Int32), va_P (dC, dI) vwCl (wSd cI cZ cJ sd_a lk_w lk_v lk_wr lk_rd (cu_a 0) lk_sp sd ++ wSy cI cZ cJ cu_a cu) H → va_D A (wSd cI cZ cJ sd_a lk_w lk_v lk_wr lk_rd (cu_a 0) lk_sp sd ++ wSy cI cZ cJ cu_a cu) → va_S A s.heap H locs → some v = some res → W p l e R s m args below meth c H locs cells slots Q (F0 m 61 ls [.int v]))
    (hr71 : ∀ (H : Heap) (locs : List Loc) (ls : Array Slot) (v : Int32), va_P (dC, dI) vwCl (wSd cI cZ cJ sd_a lk_w lk_v lk_wr lk_rd (cu_a 0) lk_sp sd ++ wSy cI cZ cJ cu_a cu) H → va_D A (wSd cI cZ cJ sd_a lk_w lk_v lk_wr lk_rd (cu_a 0) lk_sp sd ++ wSy cI cZ cJ cu_a cu) → va_S A s.heap H locs → some v = some res → W p l e R s m args below meth c H locs cells slots Q (F0 m 71 ls [.int v]))
    (hr80 : ∀ (H : Heap) (locs : List Loc) (ls : Array Slot) (v : Int32), va_P (dC, dI) vwCl (wSd cI cZ cJ sd_a lk_w lk_v lk_wr lk_rd (cu_a 0) lk_sp sd ++ wSy cI cZ cJ cu_a cu) H → va_D A (wSd cI cZ cJ sd_a lk_w lk_v lk_wr lk_rd (cu_a 0) lk_sp sd ++ wSy cI cZ cJ cu_a cu) → va_S A s.heap H locs → some v = some res → W p l e R s m args below meth c H locs cells slots Q (F0 m 80 ls [.int v]))
    (hr98 : ∀ (H : Heap) (locs : List Loc) (ls : Array Slot) (v : Int32), va_P (dC, dI) vwCl (wSd cI cZ cJ sd_a lk_w lk_v lk_wr lk_rd (cu_a 0) lk_sp sd ++ wSy cI cZ cJ cu_a cu) H → va_D A (wSd cI cZ cJ sd_a lk_w lk_v lk_wr lk_rd (cu_a 0) lk_sp sd ++ wSy cI cZ cJ cu_a cu) → va_S A s.heap H locs → some v = some res → W p l e R s m args below meth c H locs cells slots Q (F0 m 98 ls [.int v]))
    (hr108 : ∀ (H : Heap) (locs : List Loc) (ls : Array Slot) (v : Int32), va_P (dC, dI) vwCl (wSd cI cZ cJ sd_a lk_w lk_v lk_wr lk_rd (cu_a 0) lk_sp sd ++ wSy cI cZ cJ cu_a cu) H → va_D A (wSd cI cZ cJ sd_a lk_w lk_v lk_wr lk_rd (cu_a 0) lk_sp sd ++ wSy cI cZ cJ cu_a cu) → va_S A s.heap H locs → some v = some res → W p l e R s m args below meth c H locs cells slots Q (F0 m 108 ls [.int v]))
    (hr118 : ∀ (H : Heap) (locs : List Loc) (ls : Array Slot) (v : Int32), va_P (dC, dI) vwCl (wSd cI cZ cJ sd_a lk_w lk_v lk_wr lk_rd (cu_a 0) lk_sp sd ++ wSy cI cZ cJ cu_a cu) H → va_D A (wSd cI cZ cJ sd_a lk_w lk_v lk_wr lk_rd (cu_a 0) lk_sp sd ++ wSy cI cZ cJ cu_a cu) → va_S A s.heap H locs → some v = some res → W p l e R s m args below meth c H locs cells slots Q (F0 m 118 ls [.int v]))
    (hr128 : ∀ (H : Heap) (locs : List Loc) (ls : Array Slot) (v : Int32), va_P (dC, dI) vwCl (wSd cI cZ cJ sd_a lk_w lk_v lk_wr lk_rd (cu_a 0) lk_sp sd ++ wSy cI cZ cJ cu_a cu) H → va_D A (wSd cI cZ cJ sd_a lk_w lk_v lk_wr lk_rd (cu_a 0) lk_sp sd ++ wSy cI cZ cJ cu_a cu) → va_S A s.heap H locs → some v = some res → W p l e R s m args below meth c H locs cells slots Q (F0 m 128 ls [.int v]))
    (hr137 : ∀ (H : Heap) (locs : List Loc) (ls : Array Slot) (v : Int32), va_P (dC, dI) vwCl (wSd cI cZ cJ sd_a lk_w lk_v lk_wr lk_rd (cu_a 0) lk_sp sd ++ wSy cI cZ cJ cu_a cu) H → va_D A (wSd cI cZ cJ sd_a lk_w lk_v lk_wr lk_rd (cu_a 0) lk_sp sd ++ wSy cI cZ cJ cu_a cu) → va_S A s.heap H locs → some v = some res → W p l e R s m args below meth c H locs cells slots Q (F0 m 137 ls [.int v]))
    {H : Heap} {locs : List Loc} {ls : Array Slot} (hP : va_P (dC, dI) vwCl (wSd cI cZ cJ sd_a lk_w lk_v lk_wr lk_rd (cu_a 0) lk_sp sd ++ wSy cI cZ cJ cu_a cu) H) (hD : va_D A (wSd cI cZ cJ sd_a lk_w lk_v lk_wr lk_rd (cu_a 0) lk_sp sd ++ wSy cI cZ cJ cu_a cu)) (hS : va_S A s.heap H locs) (hl : lv_has ls 3 [(0, .ref (sd_a 0)), (1, .int x1), (2, .int x2)]) (hf : f_SD_told sd cu x1 x2 = some res) : W p l e R s m args below meth c H locs cells slots Q (F0 m 0 ls []) := by
  obtain ⟨hx, hb, hml, hown, hts, hK, hA, hRf, hRl, hN, hRc⟩ := id C0
  rw [f_SD_told] at hf
  refine lv_aload_n hx hb d_SD_told_0 rfl (lv_at hl 0 rfl) ?_
  refine lv_iload_n hx hb d_SD_told_1 rfl (lv_at hl 1 rfl) ?_
  obtain ⟨_, hf1, hf⟩ := bd_ex hf
  try dsimp only at hf
  have hPc := hP.sub (ws' := (wSd cI cZ cJ sd_a lk_w lk_v lk_wr lk_rd (cu_a 0) lk_sp sd ++ wSy cI cZ cJ cu_a cu)) [0, 1, 2, 3, 4, 5, 6, 7, 8, 9, 10] rfl
  have hDc := hD.sub (ws' := (wSd cI cZ cJ sd_a lk_w lk_v lk_wr lk_rd (cu_a 0) lk_sp sd ++ wSy cI cZ cJ cu_a cu)) [0, 1, 2, 3, 4, 5, 6, 7, 8, 9, 10] (by decide) rfl
  have hFc := va_free (wc := (wSd cI cZ cJ sd_a lk_w lk_v lk_wr lk_rd (cu_a 0) lk_sp sd ++ wSy cI cZ cJ cu_a cu)) hD hS hA [0, 1, 2, 3, 4, 5, 6, 7, 8, 9, 10] rfl
  refine va_callv (va_runV (As := [.int x1]) (rest := []) ⟨hx, hb, hml, hown, hts⟩ (k_SD_requireSymbol l dC dI cI cZ cJ sd_a cu_a lk_w lk_v lk_wr lk_rd lk_sp H.size hf1) (cwV 1 hts (gV t_664 t_666 t_21 t_54 t_667) rfl rfl rfl hd_SD_requireSymbol ⟨Nat.le_trans (Nat.le_of_ble_eq_true rfl) hRf, Nat.le_trans (Nat.le_of_ble_eq_true rfl) hRl⟩) ⟨kP_blind, va_recv hK hP (ci := 6) (q0 := 0) rfl rfl, kP_at hPc hK hDc hN⟩ rfl rfl hl.1 rfl (lv_room (Nat.le_of_ble_eq_true rfl)) d_SD_told_2 hRc) hS (fun q _ h => hFc q h) hFc (fun u t H1 locs ht hvm hw hB hz1 hk1 hS => ?_)
  obtain ⟨hP, hD⟩ := kQ_join (wr := ([] : va_W)) (w1 := (wSd cI cZ cJ sd_a lk_w lk_v lk_wr lk_rd (cu_a 0) lk_sp sd ++ wSy cI cZ cJ cu_a cu)) hP hD [0, 1, 2, 3, 4, 5, 6, 7, 8, 9, 10] [] rfl rfl (by decide) (by decide) ht hk1 hFc hB
  generalize H1 = H at hP hS ⊢
  have hP : va_P (dC, dI) vwCl (wSd cI cZ cJ sd_a lk_w lk_v lk_wr lk_rd (cu_a 0) lk_sp sd ++ wSy cI cZ cJ cu_a cu) H := hP.sub [0, 1, 2, 3, 4, 5, 6, 7, 8, 9, 10] rfl
  have hD : va_D A (wSd cI cZ cJ sd_a lk_w lk_v lk_wr lk_rd (cu_a 0) lk_sp sd ++ wSy cI cZ cJ cu_a cu) := hD.sub [0, 1, 2, 3, 4, 5, 6, 7, 8, 9, 10] (by decide) rfl
  refine lv_iload_n hx hb d_SD_told_5 rfl (lv_at hl 2 rfl) ?_
  by_cases c_6_0 : x2 = 0
  · rw [if_pos c_6_0] at hf
    refine lv_tableIn (off := 46) (tgt := 52) hx hb d_SD_told_6 (by rw [c_6_0]; decide) (by rw [c_6_0]; decide) (by rw [c_6_0]; decide) (by decide) ?_
    refine lv_aload_n hx hb d_SD_told_52 rfl (lv_at hl 0 rfl) ?_
    refine va_get (D := (dC, dI)) (ci := 6) (v := .ref (cu_a 0)) (C := R_SD) (T := T_SD) (N := 7) hx hb hts in_SD hown hK hP 0 rfl rfl 5 (by decide) (hts _ t_263) (fun _ h9 => h9) rfl d_SD_told_53 ?_
    refine va_get (D := (dC, dI)) (ci := 0) (v := .ref (cu_a 1)) (C := R_Symbols) (T := T_Symbols) (N := 10) hx hb hts in_Symbols hown hK hP 1 rfl rfl 0 (by decide) (hts _ t_209) (fun _ h9 => h9) rfl d_SD_told_56 ?_
    refine lv_iload_n hx hb d_SD_told_59 rfl (lv_at hl 1 rfl) ?_
    obtain ⟨h_1, hf⟩ := gd_ex hf
    refine va_iald (f := Sy_wd cu) hx hb hK hP 2 0 rfl rfl (inb_in h_1) d_SD_told_60 ?_
    exact hr61 _ _ _ (Sy_wd cu x1.toNatClampNeg) hP hD hS hf
  rw [if_neg c_6_0] at hf
  by_cases c_6_1 : x2 = 1
  · rw [if_pos c_6_1] at hf
    refine lv_tableIn (off := 56) (tgt := 62) hx hb d_SD_told_6 (by rw [c_6_1]; decide) (by rw [c_6_1]; decide) (by rw [c_6_1]; decide) (by decide) ?_
    refine lv_aload_n hx hb d_SD_told_62 rfl (lv_at hl 0 rfl) ?_
    refine va_get (D := (dC, dI)) (ci := 6) (v := .ref (cu_a 0)) (C := R_SD) (T := T_SD) (N := 7) hx hb hts in_SD hown hK hP 0 rfl rfl 5 (by decide) (hts _ t_263) (fun _ h9 => h9) rfl d_SD_told_63 ?_
    refine va_get (D := (dC, dI)) (ci := 0) (v := .ref (cu_a 2)) (C := R_Symbols) (T := T_Symbols) (N := 10) hx hb hts in_Symbols hown hK hP 1 rfl rfl 1 (by decide) (hts _ t_213) (fun _ h9 => h9) rfl d_SD_told_66 ?_
    refine lv_iload_n hx hb d_SD_told_69 rfl (lv_at hl 1 rfl) ?_
    obtain ⟨h_2, hf⟩ := gd_ex hf
    refine va_iald (f := Sy_ht cu) hx hb hK hP 3 0 rfl rfl (inb_in h_2) d_SD_told_70 ?_
    exact hr71 _ _ _ (Sy_ht cu x1.toNatClampNeg) hP hD hS hf
  rw [if_neg c_6_1] at hf
  by_cases c_6_2 : x2 = 2
  · rw [if_pos c_6_2] at hf
    refine lv_tableIn (off := 66) (tgt := 72) hx hb d_SD_told_6 (by rw [c_6_2]; decide) (by rw [c_6_2]; decide) (by rw [c_6_2]; decide) (by decide) ?_
    refine lv_aload_n hx hb d_SD_told_72 rfl (lv_at hl 0 rfl) ?_
    refine va_get (D := (dC, dI)) (ci := 6) (v := .ref (cu_a 0)) (C := R_SD) (T := T_SD) (N := 7) hx hb hts in_SD hown hK hP 0 rfl rfl 5 (by decide) (hts _ t_263) (fun _ h9 => h9) rfl d_SD_told_73 ?_
    refine lv_iload_n hx hb d_SD_told_76 rfl (lv_at hl 1 rfl) ?_
    obtain ⟨r_3, hf1, hf⟩ := bd_ex hf
    try dsimp only at hf
    have hPc := hP.sub (ws' := (wSy cI cZ cJ cu_a cu)) [1, 2, 3, 4, 5, 6, 7, 8, 9, 10] rfl
    have hDc := hD.sub (ws' := (wSy cI cZ cJ cu_a cu)) [1, 2, 3, 4, 5, 6, 7, 8, 9, 10] (by decide) rfl
    have hFc := va_free (wc := (wSy cI cZ cJ cu_a cu)) hD hS hA [1, 2, 3, 4, 5, 6, 7, 8, 9, 10] rfl
    refine va_calli (va_runV (As := [.int x1]) (rest := []) ⟨hx, hb, hml, hown, hts⟩ (k_Symbols_blackOf l dC dI cI cZ cJ cu_a H.size hf1) (cwV 1 hts (gV t_777 t_778 t_779 t_62 t_780) rfl rfl rfl hd_Symbols_blackOf ⟨Nat.le_trans (Nat.le_of_ble_eq_true rfl) hRf, Nat.le_trans (Nat.le_of_ble_eq_true rfl) hRl⟩) ⟨kP_blind, va_recv hK hP (ci := 0) (q0 := 1) rfl rfl, kP_at hPc hK hDc hN⟩ rfl rfl hl.1 rfl (lv_room (Nat.le_of_ble_eq_true rfl)) d_SD_told_77 hRc) hS (fun q _ h => hFc q h) hFc (fun r9 u t H1 locs ht hvm hw hB hz1 hk1 hS => ?_)
    rw [hw]
    obtain ⟨hP, hD⟩ := kQ_join (wr := (wSd cI cZ cJ sd_a lk_w lk_v lk_wr lk_rd (cu_a 0) lk_sp sd)) (w1 := (wSy cI cZ cJ cu_a cu)) hP hD [1, 2, 3, 4, 5, 6, 7, 8, 9, 10] [0] rfl rfl (by decide) (by decide) ht hk1 hFc hB
    generalize H1 = H at hP hS ⊢
    have hP : va_P (dC, dI) vwCl (wSd cI cZ cJ sd_a lk_w lk_v lk_wr lk_rd (cu_a 0) lk_sp sd ++ wSy cI cZ cJ cu_a cu) H := hP.sub [0, 1, 2, 3, 4, 5, 6, 7, 8, 9, 10] rfl
    have hD : va_D A (wSd cI cZ cJ sd_a lk_w lk_v lk_wr lk_rd (cu_a 0) lk_sp sd ++ wSy cI cZ cJ cu_a cu) := hD.sub [0, 1, 2, 3, 4, 5, 6, 7, 8, 9, 10] (by decide) rfl
    exact hr80 _ _ _ r_3 hP hD hS hf
  rw [if_neg c_6_2] at hf
  by_cases c_6_3 : x2 = 3
  · rw [if_pos c_6_3] at hf
    refine lv_tableIn (off := 75) (tgt := 81) hx hb d_SD_told_6 (by rw [c_6_3]; decide) (by rw [c_6_3]; decide) (by rw [c_6_3]; decide) (by decide) ?_
    refine lv_aload_n hx hb d_SD_told_81 rfl (lv_at hl 0 rfl) ?_
    refine va_get (D := (dC, dI)) (ci := 6) (v := .ref (cu_a 0)) (C := R_SD) (T := T_SD) (N := 7) hx hb hts in_SD hown hK hP 0 rfl rfl 5 (by decide) (hts _ t_263) (fun _ h9 => h9) rfl d_SD_told_82 ?_
    refine va_get (D := (dC, dI)) (ci := 0) (v := .ref (cu_a 3)) (C := R_Symbols) (T := T_Symbols) (N := 10) hx hb hts in_Symbols hown hK hP 1 rfl rfl 2 (by decide) (hts _ t_216) (fun _ h9 => h9) rfl d_SD_told_85 ?_
    refine lv_iload_n hx hb d_SD_told_88 rfl (lv_at hl 1 rfl) ?_
    obtain ⟨h_4, hf⟩ := gd_ex hf
    refine va_zald (f := Sy_ex cu) hx hb hK hP 4 1 rfl rfl (inb_in h_4) d_SD_told_89 ?_
    refine lv_if_eq (tgt := 97) hx hb d_SD_told_90 (by decide) (fun c_5 => ?_) (fun c_5 => ?_)
    · rw [if_pos c_5] at hf
      refine lv_iconst (v := 0) hx hb d_SD_told_97 (by decide) ?_
      exact hr98 _ _ _ 0 hP hD hS hf
    · rw [if_neg c_5] at hf
      refine lv_iconst (v := 1) hx hb d_SD_told_93 (by decide) ?_
      refine lv_goto (tgt := 98) hx hb d_SD_told_94 (by decide) ?_
      exact hr98 _ _ _ 1 hP hD hS hf
  rw [if_neg c_6_3] at hf
  by_cases c_6_4 : x2 = 4
  · rw [if_pos c_6_4] at hf
    refine lv_tableIn (off := 93) (tgt := 99) hx hb d_SD_told_6 (by rw [c_6_4]; decide) (by rw [c_6_4]; decide) (by rw [c_6_4]; decide) (by decide) ?_
    refine lv_aload_n hx hb d_SD_told_99 rfl (lv_at hl 0 rfl) ?_
    refine va_get (D := (dC, dI)) (ci := 6) (v := .ref (cu_a 0)) (C := R_SD) (T := T_SD) (N := 7) hx hb hts in_SD hown hK hP 0 rfl rfl 5 (by decide) (hts _ t_263) (fun _ h9 => h9) rfl d_SD_told_100 ?_
    refine va_get (D := (dC, dI)) (ci := 0) (v := .ref (cu_a 4)) (C := R_Symbols) (T := T_Symbols) (N := 10) hx hb hts in_Symbols hown hK hP 1 rfl rfl 3 (by decide) (hts _ t_220) (fun _ h9 => h9) rfl d_SD_told_103 ?_
    refine lv_iload_n hx hb d_SD_told_106 rfl (lv_at hl 1 rfl) ?_
    obtain ⟨h_6, hf⟩ := gd_ex hf
    refine va_iald (f := Sy_bs cu) hx hb hK hP 5 0 rfl rfl (inb_in h_6) d_SD_told_107 ?_
    exact hr108 _ _ _ (Sy_bs cu x1.toNatClampNeg) hP hD hS hf
  rw [if_neg c_6_4] at hf
  by_cases c_6_5 : x2 = 5
  · rw [if_pos c_6_5] at hf
    refine lv_tableIn (off := 103) (tgt := 109) hx hb d_SD_told_6 (by rw [c_6_5]; decide) (by rw [c_6_5]; decide) (by rw [c_6_5]; decide) (by decide) ?_
    refine lv_aload_n hx hb d_SD_told_109 rfl (lv_at hl 0 rfl) ?_
    refine va_get (D := (dC, dI)) (ci := 6) (v := .ref (cu_a 0)) (C := R_SD) (T := T_SD) (N := 7) hx hb hts in_SD hown hK hP 0 rfl rfl 5 (by decide) (hts _ t_263) (fun _ h9 => h9) rfl d_SD_told_110 ?_
    refine va_get (D := (dC, dI)) (ci := 0) (v := .ref (cu_a 5)) (C := R_Symbols) (T := T_Symbols) (N := 10) hx hb hts in_Symbols hown hK hP 1 rfl rfl 4 (by decide) (hts _ t_224) (fun _ h9 => h9) rfl d_SD_told_113 ?_
    refine lv_iload_n hx hb d_SD_told_116 rfl (lv_at hl 1 rfl) ?_
    obtain ⟨h_7, hf⟩ := gd_ex hf
    refine va_iald (f := Sy_dx cu) hx hb hK hP 6 0 rfl rfl (inb_in h_7) d_SD_told_117 ?_
    exact hr118 _ _ _ (Sy_dx cu x1.toNatClampNeg) hP hD hS hf
  rw [if_neg c_6_5] at hf
  by_cases c_6_6 : x2 = 6
  · rw [if_pos c_6_6] at hf
    refine lv_tableIn (off := 113) (tgt := 119) hx hb d_SD_told_6 (by rw [c_6_6]; decide) (by rw [c_6_6]; decide) (by rw [c_6_6]; decide) (by decide) ?_
    refine lv_aload_n hx hb d_SD_told_119 rfl (lv_at hl 0 rfl) ?_
    refine va_get (D := (dC, dI)) (ci := 6) (v := .ref (cu_a 0)) (C := R_SD) (T := T_SD) (N := 7) hx hb hts in_SD hown hK hP 0 rfl rfl 5 (by decide) (hts _ t_263) (fun _ h9 => h9) rfl d_SD_told_120 ?_
    refine va_get (D := (dC, dI)) (ci := 0) (v := .ref (cu_a 6)) (C := R_Symbols) (T := T_Symbols) (N := 10) hx hb hts in_Symbols hown hK hP 1 rfl rfl 5 (by decide) (hts _ t_227) (fun _ h9 => h9) rfl d_SD_told_123 ?_
    refine lv_iload_n hx hb d_SD_told_126 rfl (lv_at hl 1 rfl) ?_
    obtain ⟨h_8, hf⟩ := gd_ex hf
    refine va_iald (f := Sy_dy cu) hx hb hK hP 7 0 rfl rfl (inb_in h_8) d_SD_told_127 ?_
    exact hr128 _ _ _ (Sy_dy cu x1.toNatClampNeg) hP hD hS hf
  rw [if_neg c_6_6] at hf
  by_cases c_6_7 : x2 = 7
  · rw [if_pos c_6_7] at hf
    refine lv_tableIn (off := 123) (tgt := 129) hx hb d_SD_told_6 (by rw [c_6_7]; decide) (by rw [c_6_7]; decide) (by rw [c_6_7]; decide) (by decide) ?_
    refine lv_aload_n hx hb d_SD_told_129 rfl (lv_at hl 0 rfl) ?_
    refine va_get (D := (dC, dI)) (ci := 6) (v := .ref (cu_a 0)) (C := R_SD) (T := T_SD) (N := 7) hx hb hts in_SD hown hK hP 0 rfl rfl 5 (by decide) (hts _ t_263) (fun _ h9 => h9) rfl d_SD_told_130 ?_
    refine lv_iload_n hx hb d_SD_told_133 rfl (lv_at hl 1 rfl) ?_
    obtain ⟨r_9, hf1, hf⟩ := bd_ex hf
    try dsimp only at hf
    have hPc := hP.sub (ws' := (wSy cI cZ cJ cu_a cu)) [1, 2, 3, 4, 5, 6, 7, 8, 9, 10] rfl
    have hDc := hD.sub (ws' := (wSy cI cZ cJ cu_a cu)) [1, 2, 3, 4, 5, 6, 7, 8, 9, 10] (by decide) rfl
    have hFc := va_free (wc := (wSy cI cZ cJ cu_a cu)) hD hS hA [1, 2, 3, 4, 5, 6, 7, 8, 9, 10] rfl
    refine va_calli (va_runV (As := [.int x1]) (rest := []) ⟨hx, hb, hml, hown, hts⟩ (k_Symbols_placeOf l dC dI cI cZ cJ cu_a H.size hf1) (cwV 1 hts (gV t_781 t_289 t_290 t_62 t_291) rfl rfl rfl hd_Symbols_placeOf ⟨Nat.le_trans (Nat.le_of_ble_eq_true rfl) hRf, Nat.le_trans (Nat.le_of_ble_eq_true rfl) hRl⟩) ⟨kP_blind, va_recv hK hP (ci := 0) (q0 := 1) rfl rfl, kP_at hPc hK hDc hN⟩ rfl rfl hl.1 rfl (lv_room (Nat.le_of_ble_eq_true rfl)) d_SD_told_134 hRc) hS (fun q _ h => hFc q h) hFc (fun r9 u t H1 locs ht hvm hw hB hz1 hk1 hS => ?_)
    rw [hw]
    obtain ⟨hP, hD⟩ := kQ_join (wr := (wSd cI cZ cJ sd_a lk_w lk_v lk_wr lk_rd (cu_a 0) lk_sp sd)) (w1 := (wSy cI cZ cJ cu_a cu)) hP hD [1, 2, 3, 4, 5, 6, 7, 8, 9, 10] [0] rfl rfl (by decide) (by decide) ht hk1 hFc hB
    generalize H1 = H at hP hS ⊢
    have hP : va_P (dC, dI) vwCl (wSd cI cZ cJ sd_a lk_w lk_v lk_wr lk_rd (cu_a 0) lk_sp sd ++ wSy cI cZ cJ cu_a cu) H := hP.sub [0, 1, 2, 3, 4, 5, 6, 7, 8, 9, 10] rfl
    have hD : va_D A (wSd cI cZ cJ sd_a lk_w lk_v lk_wr lk_rd (cu_a 0) lk_sp sd ++ wSy cI cZ cJ cu_a cu) := hD.sub [0, 1, 2, 3, 4, 5, 6, 7, 8, 9, 10] (by decide) rfl
    exact hr137 _ _ _ r_9 hP hD hS hf
  rw [if_neg c_6_7] at hf
  refine lv_tableOut (tgt := 138) hx hb d_SD_told_6 (sw_out8 c_6_0 c_6_1 c_6_2 c_6_3 c_6_4 c_6_5 c_6_6 c_6_7) (by decide) ?_
  exact absurd hf (by simp)
end
set_option maxHeartbeats 4000000 in
set_option maxRecDepth 100000 in
theorem k_SD_told (l : Launch) (dC : Nat → ClassId) (dI : Nat → Nat → Nat) (cI cZ cJ : ClassId) (sd_a : Nat → Nat) (cu_a : Nat → Nat) (lk_w : Nat) (lk_v : Nat) (lk_wr : Nat) (lk_rd : Nat) (lk_sp : Nat) (sz : Nat) {sd : Sd} {cu : Sy} {x1 : Int32} {x2 : Int32} {r : Int32} (hf : f_SD_told sd cu x1 x2 = some r) :
    Met l y_SD_told ws_SD_told ({ frames := 2, cells := 0, slots := 0, locals := 45 }) (va_Pc [.ref (sd_a 0), .int x1, .int x2] (kP (dC, dI) vwCl (TYS cI cZ cJ) (wSd cI cZ cJ sd_a lk_w lk_v lk_wr lk_rd (cu_a 0) lk_sp sd ++ wSy cI cZ cJ cu_a cu) sz)) (va_Qi (fun (q : Int32) (_ : Unit) => q = r) (fun _ t => kQ (dC, dI) vwCl (TYS cI cZ cJ) (wSd cI cZ cJ sd_a lk_w lk_v lk_wr lk_rd (cu_a 0) lk_sp sd ++ wSy cI cZ cJ cu_a cu) sz (wSd cI cZ cJ sd_a lk_w lk_v lk_wr lk_rd (cu_a 0) lk_sp sd ++ wSy cI cZ cJ cu_a cu) t) (va_A (wSd cI cZ cJ sd_a lk_w lk_v lk_wr lk_rd (cu_a 0) lk_sp sd ++ wSy cI cZ cJ cu_a cu) sz)) 0 0 (va_A (wSd cI cZ cJ sd_a lk_w lk_v lk_wr lk_rd (cu_a 0) lk_sp sd ++ wSy cI cZ cJ cu_a cu) sz) := by
  refine Met.ofW (cc := c_SD_told) (maxL := 3) (ret := (some .int)) (by decide) rfl ?_
  intro p e s m args below meth c s₁ B hml hv
  obtain ⟨rfl, hsz, hP, hK, hD0, hN⟩ := hv
  have hr := B.returns
  have hlocks := B.notSynchronized
  subst hsz
  have hD := hD0.self (sz := s.heap.size)
  have hl := lv_entry ([.ref (sd_a 0), .int x1, .int x2]) (n := 3) (Nat.le_of_ble_eq_true rfl)
  rw [lg_entry_eq]
  generalize (lg_sl ([.ref (sd_a 0), .int x1, .int x2]) ++ List.replicate (3 - (lg_sl ([.ref (sd_a 0), .int x1, .int x2])).length) Slot.unset).toArray = ls at hl ⊢
  refine B_SD_told (A := va_A (wSd cI cZ cJ sd_a lk_w lk_v lk_wr lk_rd (cu_a 0) lk_sp sd ++ wSy cI cZ cJ cu_a cu) s.heap.size) ⟨B.exec, B.bytes, hml, findClass_of_methodNamed B.named, fun w h => atoms_spec (ws := ws_SD_told) B.pre w (List.mem_cons_of_mem _ h), hK, fun q h => Or.inr h, Nat.le_of_ble_eq_true rfl, Nat.le_of_ble_eq_true rfl, hN, Nat.le_of_ble_eq_true rfl, Nat.le_of_ble_eq_true rfl⟩ (fun H locs ls v hP hD hS hf => ?_) (fun H locs ls v hP hD hS hf => ?_) (fun H locs ls v hP hD hS hf => ?_) (fun H locs ls v hP hD hS hf => ?_) (fun H locs ls v hP hD hS hf => ?_) (fun H locs ls v hP hD hS hf => ?_) (fun H locs ls v hP hD hS hf => ?_) (fun H locs ls v hP hD hS hf => ?_) hP hD va_S.rf hl hf
  · cases hf
    exact W.iret B.exec B.bytes hr (fun t ht hW => ⟨⟨_, (), rfl, rfl, ⟨by rw [ht]; exact hP, va_K.moved hW.alike hK, hD⟩⟩, hS.F ht⟩) hS.2.2 d_SD_told_61
  · cases hf
    exact W.iret B.exec B.bytes hr (fun t ht hW => ⟨⟨_, (), rfl, rfl, ⟨by rw [ht]; exact hP, va_K.moved hW.alike hK, hD⟩⟩, hS.F ht⟩) hS.2.2 d_SD_told_71
  · cases hf
    exact W.iret B.exec B.bytes hr (fun t ht hW => ⟨⟨_, (), rfl, rfl, ⟨by rw [ht]; exact hP, va_K.moved hW.alike hK, hD⟩⟩, hS.F ht⟩) hS.2.2 d_SD_told_80
  · cases hf
    exact W.iret B.exec B.bytes hr (fun t ht hW => ⟨⟨_, (), rfl, rfl, ⟨by rw [ht]; exact hP, va_K.moved hW.alike hK, hD⟩⟩, hS.F ht⟩) hS.2.2 d_SD_told_98
  · cases hf
    exact W.iret B.exec B.bytes hr (fun t ht hW => ⟨⟨_, (), rfl, rfl, ⟨by rw [ht]; exact hP, va_K.moved hW.alike hK, hD⟩⟩, hS.F ht⟩) hS.2.2 d_SD_told_108
  · cases hf
    exact W.iret B.exec B.bytes hr (fun t ht hW => ⟨⟨_, (), rfl, rfl, ⟨by rw [ht]; exact hP, va_K.moved hW.alike hK, hD⟩⟩, hS.F ht⟩) hS.2.2 d_SD_told_118
  · cases hf
    exact W.iret B.exec B.bytes hr (fun t ht hW => ⟨⟨_, (), rfl, rfl, ⟨by rw [ht]; exact hP, va_K.moved hW.alike hK, hD⟩⟩, hS.F ht⟩) hS.2.2 d_SD_told_128
  · cases hf
    exact W.iret B.exec B.bytes hr (fun t ht hW => ⟨⟨_, (), rfl, rfl, ⟨by rw [ht]; exact hP, va_K.moved hW.alike hK, hD⟩⟩, hS.F ht⟩) hS.2.2 d_SD_told_137

/-! SD_likeness -/
def f_SD_likeness (sd : Sd) (cu : Sy) (x1 : Int32) (x2 : Int32) : Option (Int32) := bd (f_SD_requireSymbol sd cu x1) <| fun _ => bd (f_SD_requireSymbol sd cu x2) <| fun _ => bd (f_Symbols_difference cu x1 x2) <| fun r_1 => some r_1
section
variable {p : Program} {l : Launch} {e : Env} {R : Room} {s : State} {m : MethodId} {args : Array Value} {below : List Frame} {meth : Method} {c : Code} {Q : State → Prop} {A : Nat → Prop}
set_option maxHeartbeats 4000000 in
set_option maxRecDepth 100000 in
theorem B_SD_likeness {cells slots : Nat} {dC : Nat → ClassId} {dI : Nat → Nat → Nat} {cI cZ cJ : ClassId} {sd_a : Nat → Nat} {cu_a : Nat → Nat} {lk_w : Nat} {lk_v : Nat} {lk_wr : Nat} {lk_rd : Nat} {lk_sp : Nat} {sd : Sd} {cu : Sy} {x1 : Int32} {x2 : Int32} {res : Int32} (C0 : cxt p c m s args R cells slots R_SD c_SD_likeness tb 3 (dC, dI) vwCl (TYS cI cZ cJ) A 2 46)
    (hr19 : ∀ (H : Heap) (locs : List Loc) (ls : Array Slot) (v : Int32), va_P (dC, dI) vwCl (wSd cI cZ cJ sd_a lk_w lk_v lk_wr lk_rd (cu_a 0) lk_sp sd ++ wSy cI cZ cJ cu_a cu) H → va_D A (wSd cI cZ cJ sd_a lk_w lk_v lk_wr lk_rd (cu_a 0) lk_sp sd ++ wSy cI cZ cJ cu_a cu) → va_S A s.heap H locs → some v = some res → W p l e R s m args below meth c H locs cells slots Q (F0 m 19 ls [.int v]))
    {H : Heap} {locs : List Loc} {ls : Array Slot} (hP : va_P (dC, dI) vwCl (wSd cI cZ cJ sd_a lk_w lk_v lk_wr lk_rd (cu_a 0) lk_sp sd ++ wSy cI cZ cJ cu_a cu) H) (hD : va_D A (wSd cI cZ cJ sd_a lk_w lk_v lk_wr lk_rd (cu_a 0) lk_sp sd ++ wSy cI cZ cJ cu_a cu)) (hS : va_S A s.heap H locs) (hl : lv_has ls 3 [(0, .ref (sd_a 0)), (1, .int x1), (2, .int x2)]) (hf : f_SD_likeness sd cu x1 x2 = some res) : W p l e R s m args below meth c H locs cells slots Q (F0 m 0 ls []) := by
  obtain ⟨hx, hb, hml, hown, hts, hK, hA, hRf, hRl, hN, hRc⟩ := id C0
  rw [f_SD_likeness] at hf
  refine lv_aload_n hx hb d_SD_likeness_0 rfl (lv_at hl 0 rfl) ?_
  refine lv_iload_n hx hb d_SD_likeness_1 rfl (lv_at hl 1 rfl) ?_
  obtain ⟨_, hf1, hf⟩ := bd_ex hf
  try dsimp only at hf
  have hPc := hP.sub (ws' := (wSd cI cZ cJ sd_a lk_w lk_v lk_wr lk_rd (cu_a 0) lk_sp sd ++ wSy cI cZ cJ cu_a cu)) [0, 1, 2, 3, 4, 5, 6, 7, 8, 9, 10] rfl
  have hDc := hD.sub (ws' := (wSd cI cZ cJ sd_a lk_w lk_v lk_wr lk_rd (cu_a 0) lk_sp sd ++ wSy cI cZ cJ cu_a cu)) [0, 1, 2, 3, 4, 5, 6, 7, 8, 9, 10] (by decide) rfl
  have hFc := va_free (wc := (wSd cI cZ cJ sd_a lk_w lk_v lk_wr lk_rd (cu_a 0) lk_sp sd ++ wSy cI cZ cJ cu_a cu)) hD hS hA [0, 1, 2, 3, 4, 5, 6, 7, 8, 9, 10] rfl
  refine va_callv (va_runV (As := [.int x1]) (rest := []) ⟨hx, hb, hml, hown, hts⟩ (k_SD_requireSymbol l dC dI cI cZ cJ sd_a cu_a lk_w lk_v lk_wr lk_rd lk_sp H.size hf1) (cwV 1 hts (gV t_664 t_666 t_21 t_54 t_667) rfl rfl rfl hd_SD_requireSymbol ⟨Nat.le_trans (Nat.le_of_ble_eq_true rfl) hRf, Nat.le_trans (Nat.le_of_ble_eq_true rfl) hRl⟩) ⟨kP_blind, va_recv hK hP (ci := 6) (q0 := 0) rfl rfl, kP_at hPc hK hDc hN⟩ rfl rfl hl.1 rfl (lv_room (Nat.le_of_ble_eq_true rfl)) d_SD_likeness_2 hRc) hS (fun q _ h => hFc q h) hFc (fun u t H1 locs ht hvm hw hB hz1 hk1 hS => ?_)
  obtain ⟨hP, hD⟩ := kQ_join (wr := ([] : va_W)) (w1 := (wSd cI cZ cJ sd_a lk_w lk_v lk_wr lk_rd (cu_a 0) lk_sp sd ++ wSy cI cZ cJ cu_a cu)) hP hD [0, 1, 2, 3, 4, 5, 6, 7, 8, 9, 10] [] rfl rfl (by decide) (by decide) ht hk1 hFc hB
  generalize H1 = H at hP hS ⊢
  have hP : va_P (dC, dI) vwCl (wSd cI cZ cJ sd_a lk_w lk_v lk_wr lk_rd (cu_a 0) lk_sp sd ++ wSy cI cZ cJ cu_a cu) H := hP.sub [0, 1, 2, 3, 4, 5, 6, 7, 8, 9, 10] rfl
  have hD : va_D A (wSd cI cZ cJ sd_a lk_w lk_v lk_wr lk_rd (cu_a 0) lk_sp sd ++ wSy cI cZ cJ cu_a cu) := hD.sub [0, 1, 2, 3, 4, 5, 6, 7, 8, 9, 10] (by decide) rfl
  refine lv_aload_n hx hb d_SD_likeness_5 rfl (lv_at hl 0 rfl) ?_
  refine lv_iload_n hx hb d_SD_likeness_6 rfl (lv_at hl 2 rfl) ?_
  obtain ⟨_, hf1, hf⟩ := bd_ex hf
  try dsimp only at hf
  have hPc := hP.sub (ws' := (wSd cI cZ cJ sd_a lk_w lk_v lk_wr lk_rd (cu_a 0) lk_sp sd ++ wSy cI cZ cJ cu_a cu)) [0, 1, 2, 3, 4, 5, 6, 7, 8, 9, 10] rfl
  have hDc := hD.sub (ws' := (wSd cI cZ cJ sd_a lk_w lk_v lk_wr lk_rd (cu_a 0) lk_sp sd ++ wSy cI cZ cJ cu_a cu)) [0, 1, 2, 3, 4, 5, 6, 7, 8, 9, 10] (by decide) rfl
  have hFc := va_free (wc := (wSd cI cZ cJ sd_a lk_w lk_v lk_wr lk_rd (cu_a 0) lk_sp sd ++ wSy cI cZ cJ cu_a cu)) hD hS hA [0, 1, 2, 3, 4, 5, 6, 7, 8, 9, 10] rfl
  refine va_callv (va_runV (As := [.int x2]) (rest := []) ⟨hx, hb, hml, hown, hts⟩ (k_SD_requireSymbol l dC dI cI cZ cJ sd_a cu_a lk_w lk_v lk_wr lk_rd lk_sp H.size hf1) (cwV 1 hts (gV t_664 t_666 t_21 t_54 t_667) rfl rfl rfl hd_SD_requireSymbol ⟨Nat.le_trans (Nat.le_of_ble_eq_true rfl) hRf, Nat.le_trans (Nat.le_of_ble_eq_true rfl) hRl⟩) ⟨kP_blind, va_recv hK hP (ci := 6) (q0 := 0) rfl rfl, kP_at hPc hK hDc hN⟩ rfl rfl hl.1 rfl (lv_room (Nat.le_of_ble_eq_true rfl)) d_SD_likeness_7 hRc) hS (fun q _ h => hFc q h) hFc (fun u t H1 locs ht hvm hw hB hz1 hk1 hS => ?_)
  obtain ⟨hP, hD⟩ := kQ_join (wr := ([] : va_W)) (w1 := (wSd cI cZ cJ sd_a lk_w lk_v lk_wr lk_rd (cu_a 0) lk_sp sd ++ wSy cI cZ cJ cu_a cu)) hP hD [0, 1, 2, 3, 4, 5, 6, 7, 8, 9, 10] [] rfl rfl (by decide) (by decide) ht hk1 hFc hB
  generalize H1 = H at hP hS ⊢
  have hP : va_P (dC, dI) vwCl (wSd cI cZ cJ sd_a lk_w lk_v lk_wr lk_rd (cu_a 0) lk_sp sd ++ wSy cI cZ cJ cu_a cu) H := hP.sub [0, 1, 2, 3, 4, 5, 6, 7, 8, 9, 10] rfl
  have hD : va_D A (wSd cI cZ cJ sd_a lk_w lk_v lk_wr lk_rd (cu_a 0) lk_sp sd ++ wSy cI cZ cJ cu_a cu) := hD.sub [0, 1, 2, 3, 4, 5, 6, 7, 8, 9, 10] (by decide) rfl
  refine lv_aload_n hx hb d_SD_likeness_10 rfl (lv_at hl 0 rfl) ?_
  refine va_get (D := (dC, dI)) (ci := 6) (v := .ref (cu_a 0)) (C := R_SD) (T := T_SD) (N := 7) hx hb hts in_SD hown hK hP 0 rfl rfl 5 (by decide) (hts _ t_263) (fun _ h9 => h9) rfl d_SD_likeness_11 ?_
  refine lv_iload_n hx hb d_SD_likeness_14 rfl (lv_at hl 1 rfl) ?_
  refine lv_iload_n hx hb d_SD_likeness_15 rfl (lv_at hl 2 rfl) ?_
  obtain ⟨r_1, hf1, hf⟩ := bd_ex hf
  try dsimp only at hf
  have hPc := hP.sub (ws' := (wSy cI cZ cJ cu_a cu)) [1, 2, 3, 4, 5, 6, 7, 8, 9, 10] rfl
  have hDc := hD.sub (ws' := (wSy cI cZ cJ cu_a cu)) [1, 2, 3, 4, 5, 6, 7, 8, 9, 10] (by decide) rfl
  have hFc := va_free (wc := (wSy cI cZ cJ cu_a cu)) hD hS hA [1, 2, 3, 4, 5, 6, 7, 8, 9, 10] rfl
  refine va_calli (va_runV (As := [.int x1, .int x2]) (rest := []) ⟨hx, hb, hml, hown, hts⟩ (k_Symbols_difference l dC dI cI cZ cJ cu_a H.size hf1) (cwV 2 hts (gV t_790 t_791 t_792 t_62 t_793) rfl rfl rfl hd_Symbols_difference ⟨Nat.le_trans (Nat.le_of_ble_eq_true rfl) hRf, Nat.le_trans (Nat.le_of_ble_eq_true rfl) hRl⟩) ⟨kP_blind, va_recv hK hP (ci := 0) (q0 := 1) rfl rfl, kP_at hPc hK hDc hN⟩ rfl rfl hl.1 rfl (lv_room (Nat.le_of_ble_eq_true rfl)) d_SD_likeness_16 hRc) hS (fun q _ h => hFc q h) hFc (fun r9 u t H1 locs ht hvm hw hB hz1 hk1 hS => ?_)
  rw [hw]
  obtain ⟨hP, hD⟩ := kQ_join (wr := (wSd cI cZ cJ sd_a lk_w lk_v lk_wr lk_rd (cu_a 0) lk_sp sd)) (w1 := (wSy cI cZ cJ cu_a cu)) hP hD [1, 2, 3, 4, 5, 6, 7, 8, 9, 10] [0] rfl rfl (by decide) (by decide) ht hk1 hFc hB
  generalize H1 = H at hP hS ⊢
  have hP : va_P (dC, dI) vwCl (wSd cI cZ cJ sd_a lk_w lk_v lk_wr lk_rd (cu_a 0) lk_sp sd ++ wSy cI cZ cJ cu_a cu) H := hP.sub [0, 1, 2, 3, 4, 5, 6, 7, 8, 9, 10] rfl
  have hD : va_D A (wSd cI cZ cJ sd_a lk_w lk_v lk_wr lk_rd (cu_a 0) lk_sp sd ++ wSy cI cZ cJ cu_a cu) := hD.sub [0, 1, 2, 3, 4, 5, 6, 7, 8, 9, 10] (by decide) rfl
  exact hr19 _ _ _ r_1 hP hD hS hf
end
set_option maxHeartbeats 4000000 in
set_option maxRecDepth 100000 in
theorem k_SD_likeness (l : Launch) (dC : Nat → ClassId) (dI : Nat → Nat → Nat) (cI cZ cJ : ClassId) (sd_a : Nat → Nat) (cu_a : Nat → Nat) (lk_w : Nat) (lk_v : Nat) (lk_wr : Nat) (lk_rd : Nat) (lk_sp : Nat) (sz : Nat) {sd : Sd} {cu : Sy} {x1 : Int32} {x2 : Int32} {r : Int32} (hf : f_SD_likeness sd cu x1 x2 = some r) :
    Met l y_SD_likeness ws_SD_likeness ({ frames := 2, cells := 0, slots := 0, locals := 46 }) (va_Pc [.ref (sd_a 0), .int x1, .int x2] (kP (dC, dI) vwCl (TYS cI cZ cJ) (wSd cI cZ cJ sd_a lk_w lk_v lk_wr lk_rd (cu_a 0) lk_sp sd ++ wSy cI cZ cJ cu_a cu) sz)) (va_Qi (fun (q : Int32) (_ : Unit) => q = r) (fun _ t => kQ (dC, dI) vwCl (TYS cI cZ cJ) (wSd cI cZ cJ sd_a lk_w lk_v lk_wr lk_rd (cu_a 0) lk_sp sd ++ wSy cI cZ cJ cu_a cu) sz (wSd cI cZ cJ sd_a lk_w lk_v lk_wr lk_rd (cu_a 0) lk_sp sd ++ wSy cI cZ cJ cu_a cu) t) (va_A (wSd cI cZ cJ sd_a lk_w lk_v lk_wr lk_rd (cu_a 0) lk_sp sd ++ wSy cI cZ cJ cu_a cu) sz)) 0 0 (va_A (wSd cI cZ cJ sd_a lk_w lk_v lk_wr lk_rd (cu_a 0) lk_sp sd ++ wSy cI cZ cJ cu_a cu) sz) := by
  refine Met.ofW (cc := c_SD_likeness) (maxL := 3) (ret := (some .int)) (by decide) rfl ?_
  intro p e s m args below meth c s₁ B hml hv
  obtain ⟨rfl, hsz, hP, hK, hD0, hN⟩ := hv
  have hr := B.returns
  have hlocks := B.notSynchronized
  subst hsz
  have hD := hD0.self (sz := s.heap.size)
  have hl := lv_entry ([.ref (sd_a 0), .int x1, .int x2]) (n := 3) (Nat.le_of_ble_eq_true rfl)
  rw [lg_entry_eq]
  generalize (lg_sl ([.ref (sd_a 0), .int x1, .int x2]) ++ List.replicate (3 - (lg_sl ([.ref (sd_a 0), .int x1, .int x2])).length) Slot.unset).toArray = ls at hl ⊢
  refine B_SD_likeness (A := va_A (wSd cI cZ cJ sd_a lk_w lk_v lk_wr lk_rd (cu_a 0) lk_sp sd ++ wSy cI cZ cJ cu_a cu) s.heap.size) ⟨B.exec, B.bytes, hml, findClass_of_methodNamed B.named, fun w h => atoms_spec (ws := ws_SD_likeness) B.pre w (List.mem_cons_of_mem _ h), hK, fun q h => Or.inr h, Nat.le_of_ble_eq_true rfl, Nat.le_of_ble_eq_true rfl, hN, Nat.le_of_ble_eq_true rfl, Nat.le_of_ble_eq_true rfl⟩ (fun H locs ls v hP hD hS hf => ?_) hP hD va_S.rf hl hf
  · cases hf
    exact W.iret B.exec B.bytes hr (fun t ht hW => ⟨⟨_, (), rfl, rfl, ⟨by rw [ht]; exact hP, va_K.moved hW.alike hK, hD⟩⟩, hS.F ht⟩) hS.2.2 d_SD_likeness_19

/-! SD_classes -/
def f_SD_classes (sd : Sd) (cu : Sy) (x1 : Int32) : Option (Int32 × Sy) := (if 0 ≤ x1 then bd (f_Symbols_classify cu x1) <| fun (r_2, cu_3) => some (r_2, cu_3) else none)
section
variable {p : Program} {l : Launch} {e : Env} {R : Room} {s : State} {m : MethodId} {args : Array Value} {below : List Frame} {meth : Method} {c : Code} {Q : State → Prop} {A : Nat → Prop}
set_option maxHeartbeats 4000000 in
set_option maxRecDepth 100000 in
theorem B_SD_classes {cells slots : Nat} {dC : Nat → ClassId} {dI : Nat → Nat → Nat} {cI cZ cJ : ClassId} {sd_a : Nat → Nat} {cu_a : Nat → Nat} {lk_w : Nat} {lk_v : Nat} {lk_wr : Nat} {lk_rd : Nat} {lk_sp : Nat} {sd : Sd} {cu : Sy} {x1 : Int32} {res : Int32 × Sy} (C0 : cxt p c m s args R cells slots R_SD c_SD_classes tb 2 (dC, dI) vwCl (TYS cI cZ cJ) A 4 95)
    (hr22 : ∀ (H : Heap) (locs : List Loc) (ls : Array Slot) (v : Int32) (cu' : Sy), va_P (dC, dI) vwCl (wSd cI cZ cJ sd_a lk_w lk_v lk_wr lk_rd (cu_a 0) lk_sp sd ++ wSy cI cZ cJ cu_a cu') H → va_D A (wSd cI cZ cJ sd_a lk_w lk_v lk_wr lk_rd (cu_a 0) lk_sp sd ++ wSy cI cZ cJ cu_a cu') → va_S A s.heap H locs → some (v, cu') = some res → W p l e R s m args below meth c H locs cells slots Q (F0 m 22 ls [.int v]))
    {H : Heap} {locs : List Loc} {ls : Array Slot} (hP : va_P (dC, dI) vwCl (wSd cI cZ cJ sd_a lk_w lk_v lk_wr lk_rd (cu_a 0) lk_sp sd ++ wSy cI cZ cJ cu_a cu) H) (hD : va_D A (wSd cI cZ cJ sd_a lk_w lk_v lk_wr lk_rd (cu_a 0) lk_sp sd ++ wSy cI cZ cJ cu_a cu)) (hS : va_S A s.heap H locs) (hl : lv_has ls 2 [(0, .ref (sd_a 0)), (1, .int x1)]) (hf : f_SD_classes sd cu x1 = some res) : W p l e R s m args below meth c H locs cells slots Q (F0 m 0 ls []) := by
  obtain ⟨hx, hb, hml, hown, hts, hK, hA, hRf, hRl, hN, hRc⟩ := id C0
  rw [f_SD_classes] at hf
  refine lv_iload_n hx hb d_SD_classes_0 rfl (lv_at hl 1 rfl) ?_
  refine lv_if_ge (tgt := 14) hx hb d_SD_classes_1 (by decide) (fun c_1 => ?_) (fun c_1 => ?_)
  · rw [if_pos c_1] at hf
    refine lv_aload_n hx hb d_SD_classes_14 rfl (lv_at hl 0 rfl) ?_
    refine va_get (D := (dC, dI)) (ci := 6) (v := .ref (cu_a 0)) (C := R_SD) (T := T_SD) (N := 7) hx hb hts in_SD hown hK hP 0 rfl rfl 5 (by decide) (hts _ t_263) (fun _ h9 => h9) rfl d_SD_classes_15 ?_
    refine lv_iload_n hx hb d_SD_classes_18 rfl (lv_at hl 1 rfl) ?_
    obtain ⟨⟨r_2, cu_3⟩, hf1, hf⟩ := bd_ex hf
    try dsimp only at hf
    have hPc := hP.sub (ws' := (wSy cI cZ cJ cu_a cu)) [1, 2, 3, 4, 5, 6, 7, 8, 9, 10] rfl
    have hDc := hD.sub (ws' := (wSy cI cZ cJ cu_a cu)) [1, 2, 3, 4, 5, 6, 7, 8, 9, 10] (by decide) rfl
    have hFc := va_free (wc := (wSy cI cZ cJ cu_a cu)) hD hS hA [1, 2, 3, 4, 5, 6, 7, 8, 9, 10] rfl
    refine va_calli (va_runV (As := [.int x1]) (rest := []) ⟨hx, hb, hml, hown, hts⟩ (k_Symbols_classify l dC dI cI cZ cJ cu_a H.size hf1) (cwV 1 hts (gV t_802 t_803 t_804 t_62 t_805) rfl rfl rfl hd_Symbols_classify ⟨Nat.le_trans (Nat.le_of_ble_eq_true rfl) hRf, Nat.le_trans (Nat.le_of_ble_eq_true rfl) hRl⟩) ⟨kP_blind, va_recv hK hP (ci := 0) (q0 := 1) rfl rfl, kP_at hPc hK hDc hN⟩ rfl rfl hl.1 rfl (lv_room (Nat.le_of_ble_eq_true rfl)) d_SD_classes_19 hRc) hS (fun q _ h => hFc q h) hFc (fun r9 u t H1 locs ht hvm hw hB hz1 hk1 hS => ?_)
    rw [hw]
    obtain ⟨hP, hD⟩ := kQ_join (wr := (wSd cI cZ cJ sd_a lk_w lk_v lk_wr lk_rd (cu_a 0) lk_sp sd)) (w1 := (wSy cI cZ cJ cu_a cu_3)) hP hD [1, 2, 3, 4, 5, 6, 7, 8, 9, 10] [0] rfl rfl (by decide) (by decide) ht hk1 hFc hB
    generalize H1 = H at hP hS ⊢
    have hP : va_P (dC, dI) vwCl (wSd cI cZ cJ sd_a lk_w lk_v lk_wr lk_rd (cu_a 0) lk_sp sd ++ wSy cI cZ cJ cu_a cu_3) H := hP.sub [0, 1, 2, 3, 4, 5, 6, 7, 8, 9, 10] rfl
    have hD : va_D A (wSd cI cZ cJ sd_a lk_w lk_v lk_wr lk_rd (cu_a 0) lk_sp sd ++ wSy cI cZ cJ cu_a cu_3) := hD.sub [0, 1, 2, 3, 4, 5, 6, 7, 8, 9, 10] (by decide) rfl
    exact hr22 _ _ _ r_2 cu_3 hP hD hS hf
  · rw [if_neg c_1] at hf
    exact absurd hf (by simp)
end
set_option maxHeartbeats 4000000 in
set_option maxRecDepth 100000 in
theorem k_SD_classes (l : Launch) (dC : Nat → ClassId) (dI : Nat → Nat → Nat) (cI cZ cJ : ClassId) (sd_a : Nat → Nat) (cu_a : Nat → Nat) (lk_w : Nat) (lk_v : Nat) (lk_wr : Nat) (lk_rd : Nat) (lk_sp : Nat) (sz : Nat) {sd : Sd} {cu : Sy} {x1 : Int32} {r : Int32} {cu' : Sy} (hf : f_SD_classes sd cu x1 = some (r, cu')) :
    Met l y_SD_classes ws_SD_classes ({ frames := 4, cells := 0, slots := 0, locals := 95 }) (va_Pc [.ref (sd_a 0), .int x1] (kP (dC, dI) vwCl (TYS cI cZ cJ) (wSd cI cZ cJ sd_a lk_w lk_v lk_wr lk_rd (cu_a 0) lk_sp sd ++ wSy cI cZ cJ cu_a cu) sz)) (va_Qi (fun (q : Int32) (_ : Unit) => q = r) (fun _ t => kQ (dC, dI) vwCl (TYS cI cZ cJ) (wSd cI cZ cJ sd_a lk_w lk_v lk_wr lk_rd (cu_a 0) lk_sp sd ++ wSy cI cZ cJ cu_a cu) sz (wSd cI cZ cJ sd_a lk_w lk_v lk_wr lk_rd (cu_a 0) lk_sp sd ++ wSy cI cZ cJ cu_a cu') t) (va_A (wSd cI cZ cJ sd_a lk_w lk_v lk_wr lk_rd (cu_a 0) lk_sp sd ++ wSy cI cZ cJ cu_a cu) sz)) 0 0 (va_A (wSd cI cZ cJ sd_a lk_w lk_v lk_wr lk_rd (cu_a 0) lk_sp sd ++ wSy cI cZ cJ cu_a cu) sz) := by
  refine Met.ofW (cc := c_SD_classes) (maxL := 2) (ret := (some .int)) (by decide) rfl ?_
  intro p e s m args below meth c s₁ B hml hv
  obtain ⟨rfl, hsz, hP, hK, hD0, hN⟩ := hv
  have hr := B.returns
  have hlocks := B.notSynchronized
  subst hsz
  have hD := hD0.self (sz := s.heap.size)
  have hl := lv_entry ([.ref (sd_a 0), .int x1]) (n := 2) (Nat.le_of_ble_eq_true rfl)
  rw [lg_entry_eq]
  generalize (lg_sl ([.ref (sd_a 0), .int x1]) ++ List.replicate (2 - (lg_sl ([.ref (sd_a 0), .int x1])).length) Slot.unset).toArray = ls at hl ⊢
  refine B_SD_classes (A := va_A (wSd cI cZ cJ sd_a lk_w lk_v lk_wr lk_rd (cu_a 0) lk_sp sd ++ wSy cI cZ cJ cu_a cu) s.heap.size) ⟨B.exec, B.bytes, hml, findClass_of_methodNamed B.named, fun w h => atoms_spec (ws := ws_SD_classes) B.pre w (List.mem_cons_of_mem _ h), hK, fun q h => Or.inr h, Nat.le_of_ble_eq_true rfl, Nat.le_of_ble_eq_true rfl, hN, Nat.le_of_ble_eq_true rfl, Nat.le_of_ble_eq_true rfl⟩ (fun H locs ls v cu'1 hP hD hS hf => ?_) hP hD va_S.rf hl hf
  · cases hf
    exact W.iret B.exec B.bytes hr (fun t ht hW => ⟨⟨_, (), rfl, rfl, ⟨by rw [ht]; exact hP, va_K.moved hW.alike hK, hD⟩⟩, hS.F ht⟩) hS.2.2 d_SD_classes_22

/-! SD_cls -/
def f_SD_cls (sd : Sd) (cu : Sy) (x1 : Int32) : Option (Int32) := bd (f_SD_requireSymbol sd cu x1) <| fun _ => gd (inb x1 40) <| some (Sy_co cu x1.toNatClampNeg)
section
variable {p : Program} {l : Launch} {e : Env} {R : Room} {s : State} {m : MethodId} {args : Array Value} {below : List Frame} {meth : Method} {c : Code} {Q : State → Prop} {A : Nat → Prop}
set_option maxHeartbeats 4000000 in
set_option maxRecDepth 100000 in
theorem B_SD_cls {cells slots : Nat} {dC : Nat → ClassId} {dI : Nat → Nat → Nat} {cI cZ cJ : ClassId} {sd_a : Nat → Nat} {cu_a : Nat → Nat} {lk_w : Nat} {lk_v : Nat} {lk_wr : Nat} {lk_rd : Nat} {lk_sp : Nat} {sd : Sd} {cu : Sy} {x1 : Int32} {res : Int32} (C0 : cxt p c m s args R cells slots R_SD c_SD_cls tb 2 (dC, dI) vwCl (TYS cI cZ cJ) A 1 21)
    (hr14 : ∀ (H : Heap) (locs : List Loc) (ls : Array Slot) (v : Int32), va_P (dC, dI) vwCl (wSd cI cZ cJ sd_a lk_w lk_v lk_wr lk_rd (cu_a 0) lk_sp sd ++ wSy cI cZ cJ cu_a cu) H → va_D A (wSd cI cZ cJ sd_a lk_w lk_v lk_wr lk_rd (cu_a 0) lk_sp sd ++ wSy cI cZ cJ cu_a cu) → va_S A s.heap H locs → some v = some res → W p l e R s m args below meth c H locs cells slots Q (F0 m 14 ls [.int v]))
    {H : Heap} {locs : List Loc} {ls : Array Slot} (hP : va_P (dC, dI) vwCl (wSd cI cZ cJ sd_a lk_w lk_v lk_wr lk_rd (cu_a 0) lk_sp sd ++ wSy cI cZ cJ cu_a cu) H) (hD : va_D A (wSd cI cZ cJ sd_a lk_w lk_v lk_wr lk_rd (cu_a 0) lk_sp sd ++ wSy cI cZ cJ cu_a cu)) (hS : va_S A s.heap H locs) (hl : lv_has ls 2 [(0, .ref (sd_a 0)), (1, .int x1)]) (hf : f_SD_cls sd cu x1 = some res) : W p l e R s m args below meth c H locs cells slots Q (F0 m 0 ls []) := by
  obtain ⟨hx, hb, hml, hown, hts, hK, hA, hRf, hRl, hN, hRc⟩ := id C0
  rw [f_SD_cls] at hf
  refine lv_aload_n hx hb d_SD_cls_0 rfl (lv_at hl 0 rfl) ?_
  refine lv_iload_n hx hb d_SD_cls_1 rfl (lv_at hl 1 rfl) ?_
  obtain ⟨_, hf1, hf⟩ := bd_ex hf
  try dsimp only at hf
  have hPc := hP.sub (ws' := (wSd cI cZ cJ sd_a lk_w lk_v lk_wr lk_rd (cu_a 0) lk_sp sd ++ wSy cI cZ cJ cu_a cu)) [0, 1, 2, 3, 4, 5, 6, 7, 8, 9, 10] rfl
  have hDc := hD.sub (ws' := (wSd cI cZ cJ sd_a lk_w lk_v lk_wr lk_rd (cu_a 0) lk_sp sd ++ wSy cI cZ cJ cu_a cu)) [0, 1, 2, 3, 4, 5, 6, 7, 8, 9, 10] (by decide) rfl
  have hFc := va_free (wc := (wSd cI cZ cJ sd_a lk_w lk_v lk_wr lk_rd (cu_a 0) lk_sp sd ++ wSy cI cZ cJ cu_a cu)) hD hS hA [0, 1, 2, 3, 4, 5, 6, 7, 8, 9, 10] rfl
  refine va_callv (va_runV (As := [.int x1]) (rest := []) ⟨hx, hb, hml, hown, hts⟩ (k_SD_requireSymbol l dC dI cI cZ cJ sd_a cu_a lk_w lk_v lk_wr lk_rd lk_sp H.size hf1) (cwV 1 hts (gV t_664 t_666 t_21 t_54 t_667) rfl rfl rfl hd_SD_requireSymbol ⟨Nat.le_trans (Nat.le_of_ble_eq_true rfl) hRf, Nat.le_trans (Nat.le_of_ble_eq_true rfl) hRl⟩) ⟨kP_blind, va_recv hK hP (ci := 6) (q0 := 0) rfl rfl, kP_at hPc hK hDc hN⟩ rfl rfl hl.1 rfl (lv_room (Nat.le_of_ble_eq_true rfl)) d_SD_cls_2 hRc) hS (fun q _ h => hFc q h) hFc (fun u t H1 locs ht hvm hw hB hz1 hk1 hS => ?_)
  obtain ⟨hP, hD⟩ := kQ_join (wr := ([] : va_W)) (w1 := (wSd cI cZ cJ sd_a lk_w lk_v lk_wr lk_rd (cu_a 0) lk_sp sd ++ wSy cI cZ cJ cu_a cu)) hP hD [0, 1, 2, 3, 4, 5, 6, 7, 8, 9, 10] [] rfl rfl (by decide) (by decide) ht hk1 hFc hB
  generalize H1 = H at hP hS ⊢
  have hP : va_P (dC, dI) vwCl (wSd cI cZ cJ sd_a lk_w lk_v lk_wr lk_rd (cu_a 0) lk_sp sd ++ wSy cI cZ cJ cu_a cu) H := hP.sub [0, 1, 2, 3, 4, 5, 6, 7, 8, 9, 10] rfl
  have hD : va_D A (wSd cI cZ cJ sd_a lk_w lk_v lk_wr lk_rd (cu_a 0) lk_sp sd ++ wSy cI cZ cJ cu_a cu) := hD.sub [0, 1, 2, 3, 4, 5, 6, 7, 8, 9, 10] (by decide) rfl
  refine lv_aload_n hx hb d_SD_cls_5 rfl (lv_at hl 0 rfl) ?_
  refine va_get (D := (dC, dI)) (ci := 6) (v := .ref (cu_a 0)) (C := R_SD) (T := T_SD) (N := 7) hx hb hts in_SD hown hK hP 0 rfl rfl 5 (by decide) (hts _ t_263) (fun _ h9 => h9) rfl d_SD_cls_6 ?_
  refine va_get (D := (dC, dI)) (ci := 0) (v := .ref (cu_a 7)) (C := R_Symbols) (T := T_Symbols) (N := 10) hx hb hts in_Symbols hown hK hP 1 rfl rfl 6 (by decide) (hts _ t_229) (fun _ h9 => h9) rfl d_SD_cls_9 ?_
  refine lv_iload_n hx hb d_SD_cls_12 rfl (lv_at hl 1 rfl) ?_
  obtain ⟨h_1, hf⟩ := gd_ex hf
  refine va_iald (f := Sy_co cu) hx hb hK hP 8 0 rfl rfl (inb_in h_1) d_SD_cls_13 ?_
  exact hr14 _ _ _ (Sy_co cu x1.toNatClampNeg) hP hD hS hf
end
set_option maxHeartbeats 4000000 in
set_option maxRecDepth 100000 in
theorem k_SD_cls (l : Launch) (dC : Nat → ClassId) (dI : Nat → Nat → Nat) (cI cZ cJ : ClassId) (sd_a : Nat → Nat) (cu_a : Nat → Nat) (lk_w : Nat) (lk_v : Nat) (lk_wr : Nat) (lk_rd : Nat) (lk_sp : Nat) (sz : Nat) {sd : Sd} {cu : Sy} {x1 : Int32} {r : Int32} (hf : f_SD_cls sd cu x1 = some r) :
    Met l y_SD_cls ws_SD_cls ({ frames := 1, cells := 0, slots := 0, locals := 21 }) (va_Pc [.ref (sd_a 0), .int x1] (kP (dC, dI) vwCl (TYS cI cZ cJ) (wSd cI cZ cJ sd_a lk_w lk_v lk_wr lk_rd (cu_a 0) lk_sp sd ++ wSy cI cZ cJ cu_a cu) sz)) (va_Qi (fun (q : Int32) (_ : Unit) => q = r) (fun _ t => kQ (dC, dI) vwCl (TYS cI cZ cJ) (wSd cI cZ cJ sd_a lk_w lk_v lk_wr lk_rd (cu_a 0) lk_sp sd ++ wSy cI cZ cJ cu_a cu) sz (wSd cI cZ cJ sd_a lk_w lk_v lk_wr lk_rd (cu_a 0) lk_sp sd ++ wSy cI cZ cJ cu_a cu) t) (va_A (wSd cI cZ cJ sd_a lk_w lk_v lk_wr lk_rd (cu_a 0) lk_sp sd ++ wSy cI cZ cJ cu_a cu) sz)) 0 0 (va_A (wSd cI cZ cJ sd_a lk_w lk_v lk_wr lk_rd (cu_a 0) lk_sp sd ++ wSy cI cZ cJ cu_a cu) sz) := by
  refine Met.ofW (cc := c_SD_cls) (maxL := 2) (ret := (some .int)) (by decide) rfl ?_
  intro p e s m args below meth c s₁ B hml hv
  obtain ⟨rfl, hsz, hP, hK, hD0, hN⟩ := hv
  have hr := B.returns
  have hlocks := B.notSynchronized
  subst hsz
  have hD := hD0.self (sz := s.heap.size)
  have hl := lv_entry ([.ref (sd_a 0), .int x1]) (n := 2) (Nat.le_of_ble_eq_true rfl)
  rw [lg_entry_eq]
  generalize (lg_sl ([.ref (sd_a 0), .int x1]) ++ List.replicate (2 - (lg_sl ([.ref (sd_a 0), .int x1])).length) Slot.unset).toArray = ls at hl ⊢
  refine B_SD_cls (A := va_A (wSd cI cZ cJ sd_a lk_w lk_v lk_wr lk_rd (cu_a 0) lk_sp sd ++ wSy cI cZ cJ cu_a cu) s.heap.size) ⟨B.exec, B.bytes, hml, findClass_of_methodNamed B.named, fun w h => atoms_spec (ws := ws_SD_cls) B.pre w (List.mem_cons_of_mem _ h), hK, fun q h => Or.inr h, Nat.le_of_ble_eq_true rfl, Nat.le_of_ble_eq_true rfl, hN, Nat.le_of_ble_eq_true rfl, Nat.le_of_ble_eq_true rfl⟩ (fun H locs ls v hP hD hS hf => ?_) hP hD va_S.rf hl hf
  · cases hf
    exact W.iret B.exec B.bytes hr (fun t ht hW => ⟨⟨_, (), rfl, rfl, ⟨by rw [ht]; exact hP, va_K.moved hW.alike hK, hD⟩⟩, hS.F ht⟩) hS.2.2 d_SD_cls_14

/-! SD_byteAt -/
def f_SD_byteAt (sd : Sd) (w : Br) (x1 : Int32) : Option (Int32) := (if x1 < 0 then none else (if x1 < (Br_n w) then gd (inb x1 (Br_byL w)) <| some (Br_by w x1.toNatClampNeg) else none))
section
variable {p : Program} {l : Launch} {e : Env} {R : Room} {s : State} {m : MethodId} {args : Array Value} {below : List Frame} {meth : Method} {c : Code} {Q : State → Prop} {A : Nat → Prop}
set_option maxHeartbeats 4000000 in
set_option maxRecDepth 100000 in
theorem B_SD_byteAt {cells slots : Nat} {dC : Nat → ClassId} {dI : Nat → Nat → Nat} {cI cZ cJ : ClassId} {sd_a : Nat → Nat} {w_a w_b : Nat} {lk_v : Nat} {lk_wr : Nat} {lk_rd : Nat} {lk_cu : Nat} {lk_sp : Nat} {sd : Sd} {w : Br} {x1 : Int32} {res : Int32} (C0 : cxt p c m s args R cells slots R_SD c_SD_byteAt tb 2 (dC, dI) vwCl (TYS cI cZ cJ) A 0 0)
    (hr34 : ∀ (H : Heap) (locs : List Loc) (ls : Array Slot) (v : Int32), va_P (dC, dI) vwCl (wSd cI cZ cJ sd_a w_a lk_v lk_wr lk_rd lk_cu lk_sp sd ++ wBr cI cZ cJ w_a w_b w) H → va_D A (wSd cI cZ cJ sd_a w_a lk_v lk_wr lk_rd lk_cu lk_sp sd ++ wBr cI cZ cJ w_a w_b w) → va_S A s.heap H locs → some v = some res → W p l e R s m args below meth c H locs cells slots Q (F0 m 34 ls [.int v]))
    {H : Heap} {locs : List Loc} {ls : Array Slot} (hP : va_P (dC, dI) vwCl (wSd cI cZ cJ sd_a w_a lk_v lk_wr lk_rd lk_cu lk_sp sd ++ wBr cI cZ cJ w_a w_b w) H) (hD : va_D A (wSd cI cZ cJ sd_a w_a lk_v lk_wr lk_rd lk_cu lk_sp sd ++ wBr cI cZ cJ w_a w_b w)) (hS : va_S A s.heap H locs) (hl : lv_has ls 2 [(0, .ref (sd_a 0)), (1, .int x1)]) (hf : f_SD_byteAt sd w x1 = some res) : W p l e R s m args below meth c H locs cells slots Q (F0 m 0 ls []) := by
  obtain ⟨hx, hb, hml, hown, hts, hK, hA, hRf, hRl, hN, hRc⟩ := id C0
  rw [f_SD_byteAt] at hf
  refine lv_iload_n hx hb d_SD_byteAt_0 rfl (lv_at hl 1 rfl) ?_
  refine lv_if_lt (tgt := 15) hx hb d_SD_byteAt_1 (by decide) (fun c_1 => ?_) (fun c_1 => ?_)
  · rw [if_pos c_1] at hf
    exact absurd hf (by simp)
  · rw [if_neg c_1] at hf
    refine lv_iload_n hx hb d_SD_byteAt_4 rfl (lv_at hl 1 rfl) ?_
    refine lv_aload_n hx hb d_SD_byteAt_5 rfl (lv_at hl 0 rfl) ?_
    refine va_get (D := (dC, dI)) (ci := 6) (v := .ref w_a) (C := R_SD) (T := T_SD) (N := 7) hx hb hts in_SD hown hK hP 0 rfl rfl 1 (by decide) (hts _ t_259) (fun _ h9 => h9) rfl d_SD_byteAt_6 ?_
    refine va_get (D := (dC, dI)) (ci := 1) (v := .int (Br_n w)) (C := R_ByteRow) (T := T_ByteRow) (N := 3) hx hb hts in_ByteRow hown hK hP 1 rfl rfl 1 (by decide) (hts _ t_97) (fun _ h9 => h9) rfl d_SD_byteAt_9 ?_
    refine lv_icmp_lt (tgt := 25) hx hb d_SD_byteAt_12 (by decide) (fun c_2 => ?_) (fun c_2 => ?_)
    · rw [if_pos c_2] at hf
      refine lv_aload_n hx hb d_SD_byteAt_25 rfl (lv_at hl 0 rfl) ?_
      refine va_get (D := (dC, dI)) (ci := 6) (v := .ref w_a) (C := R_SD) (T := T_SD) (N := 7) hx hb hts in_SD hown hK hP 0 rfl rfl 1 (by decide) (hts _ t_259) (fun _ h9 => h9) rfl d_SD_byteAt_26 ?_
      refine va_get (D := (dC, dI)) (ci := 1) (v := .ref w_b) (C := R_ByteRow) (T := T_ByteRow) (N := 3) hx hb hts in_ByteRow hown hK hP 1 rfl rfl 0 (by decide) (hts _ t_95) (fun _ h9 => h9) rfl d_SD_byteAt_29 ?_
      refine lv_iload_n hx hb d_SD_byteAt_32 rfl (lv_at hl 1 rfl) ?_
      obtain ⟨h_3, hf⟩ := gd_ex hf
      refine va_iald (f := Br_by w) hx hb hK hP 2 0 rfl rfl (inb_in h_3) d_SD_byteAt_33 ?_
      exact hr34 _ _ _ (Br_by w x1.toNatClampNeg) hP hD hS hf
    · rw [if_neg c_2] at hf
      exact absurd hf (by simp)
end
set_option maxHeartbeats 4000000 in
set_option maxRecDepth 100000 in
theorem k_SD_byteAt (l : Launch) (dC : Nat → ClassId) (dI : Nat → Nat → Nat) (cI cZ cJ : ClassId) (sd_a : Nat → Nat) (w_a w_b : Nat) (lk_v : Nat) (lk_wr : Nat) (lk_rd : Nat) (lk_cu : Nat) (lk_sp : Nat) (sz : Nat) {sd : Sd} {w : Br} {x1 : Int32} {r : Int32} (hf : f_SD_byteAt sd w x1 = some r) :
    Met l y_SD_byteAt ws_SD_byteAt ({ frames := 0, cells := 0, slots := 0, locals := 0 }) (va_Pc [.ref (sd_a 0), .int x1] (kP (dC, dI) vwCl (TYS cI cZ cJ) (wSd cI cZ cJ sd_a w_a lk_v lk_wr lk_rd lk_cu lk_sp sd ++ wBr cI cZ cJ w_a w_b w) sz)) (va_Qi (fun (q : Int32) (_ : Unit) => q = r) (fun _ t => kQ (dC, dI) vwCl (TYS cI cZ cJ) (wSd cI cZ cJ sd_a w_a lk_v lk_wr lk_rd lk_cu lk_sp sd ++ wBr cI cZ cJ w_a w_b w) sz (wSd cI cZ cJ sd_a w_a lk_v lk_wr lk_rd lk_cu lk_sp sd ++ wBr cI cZ cJ w_a w_b w) t) (va_A (wSd cI cZ cJ sd_a w_a lk_v lk_wr lk_rd lk_cu lk_sp sd ++ wBr cI cZ cJ w_a w_b w) sz)) 0 0 (va_A (wSd cI cZ cJ sd_a w_a lk_v lk_wr lk_rd lk_cu lk_sp sd ++ wBr cI cZ cJ w_a w_b w) sz) := by
  refine Met.ofW (cc := c_SD_byteAt) (maxL := 2) (ret := (some .int)) (by decide) rfl ?_
  intro p e s m args below meth c s₁ B hml hv
  obtain ⟨rfl, hsz, hP, hK, hD0, hN⟩ := hv
  have hr := B.returns
  have hlocks := B.notSynchronized
  subst hsz
  have hD := hD0.self (sz := s.heap.size)
  have hl := lv_entry ([.ref (sd_a 0), .int x1]) (n := 2) (Nat.le_of_ble_eq_true rfl)
  rw [lg_entry_eq]
  generalize (lg_sl ([.ref (sd_a 0), .int x1]) ++ List.replicate (2 - (lg_sl ([.ref (sd_a 0), .int x1])).length) Slot.unset).toArray = ls at hl ⊢
  refine B_SD_byteAt (A := va_A (wSd cI cZ cJ sd_a w_a lk_v lk_wr lk_rd lk_cu lk_sp sd ++ wBr cI cZ cJ w_a w_b w) s.heap.size) ⟨B.exec, B.bytes, hml, findClass_of_methodNamed B.named, fun w h => atoms_spec (ws := ws_SD_byteAt) B.pre w (List.mem_cons_of_mem _ h), hK, fun q h => Or.inr h, Nat.le_of_ble_eq_true rfl, Nat.le_of_ble_eq_true rfl, hN, Nat.le_of_ble_eq_true rfl, Nat.le_of_ble_eq_true rfl⟩ (fun H locs ls v hP hD hS hf => ?_) hP hD va_S.rf hl hf
  · cases hf
    exact W.iret B.exec B.bytes hr (fun t ht hW => ⟨⟨_, (), rfl, rfl, ⟨by rw [ht]; exact hP, va_K.moved hW.alike hK, hD⟩⟩, hS.F ht⟩) hS.2.2 d_SD_byteAt_34

/-! SD_feed -/
def f_SD_feed (sd : Sd) (v : Br) (x1 : Int32) : Option (Int32 × Br) := (if x1 < 0 then none else (if x1 ≤ 255 then (if (Br_n v) < 3000 then bd (f_ByteRow_add v x1) <| fun v_4 => some (Br_n v_4, v_4) else none) else none))
theorem mo_SD_feed {sd : Sd} {v : Br} {x1 : Int32} : mle (f_SD_feed sd v x1) (Br_byL v) (fun r : Int32 × Br => Br_byL r.2) := by
  rw [f_SD_feed]
  refine mle_if (fun _ => ?_) (fun _ => ?_)
  · exact mle_none
  · refine mle_if (fun _ => ?_) (fun _ => ?_)
    · refine mle_if (fun _ => ?_) (fun _ => ?_)
      · refine mle_bd (fun y9 hy9 => ?_)
        obtain ⟨v_4, rfl⟩ : ∃ z, z = y9 := ⟨_, rfl⟩
        try dsimp only
        refine mle_le (mo_ByteRow_add _ hy9) ?_
        try dsimp only
        exact mle_some (Nat.le_refl _)
      · exact mle_none
    · exact mle_none
section
variable {p : Program} {l : Launch} {e : Env} {R : Room} {s : State} {m : MethodId} {args : Array Value} {below : List Frame} {meth : Method} {c : Code} {Q : State → Prop} {A : Nat → Prop}
set_option maxHeartbeats 4000000 in
set_option maxRecDepth 100000 in
theorem B_SD_feed {cells slots : Nat} {l0 : Nat} {dC : Nat → ClassId} {dI : Nat → Nat → Nat} {cI cZ cJ : ClassId} {sd_a : Nat → Nat} {v_a : Nat} {lk_w : Nat} {lk_wr : Nat} {lk_rd : Nat} {lk_cu : Nat} {lk_sp : Nat} {v_b : Nat} {sd : Sd} {v : Br} {x1 : Int32} {res : Int32 × Br} (C0 : cxt p c m s args R 0 0 R_SD c_SD_feed tb 2 (dC, dI) vwCl (TYS cI cZ cJ) A 3 107) (hRc : gR l0 ((fun r : Int32 × Br => Br_byL r.2) res) R)
    (hr59 : ∀ (H : Heap) (locs : List Loc) (ls : Array Slot) (cells slots : Nat) (v_b : Nat) (v : Int32) (v' : Br), gok R l0 (Br_byL v') cells slots → va_P (dC, dI) vwCl (wSd cI cZ cJ sd_a lk_w v_a lk_wr lk_rd lk_cu lk_sp sd ++ wBr cI cZ cJ v_a v_b v') H → va_D A (wSd cI cZ cJ sd_a lk_w v_a lk_wr lk_rd lk_cu lk_sp sd ++ wBr cI cZ cJ v_a v_b v') → va_S A s.heap H locs → some (v, v') = some res → W p l e R s m args below meth c H locs cells slots Q (F0 m 59 ls [.int v]))
    {H : Heap} {locs : List Loc} {ls : Array Slot} (hg : gok R l0 (Br_byL v) cells slots) (hP : va_P (dC, dI) vwCl (wSd cI cZ cJ sd_a lk_w v_a lk_wr lk_rd lk_cu lk_sp sd ++ wBr cI cZ cJ v_a v_b v) H) (hD : va_D A (wSd cI cZ cJ sd_a lk_w v_a lk_wr lk_rd lk_cu lk_sp sd ++ wBr cI cZ cJ v_a v_b v)) (hS : va_S A s.heap H locs) (hl : lv_has ls 2 [(0, .ref (sd_a 0)), (1, .int x1)]) (hf : f_SD_feed sd v x1 = some res) : W p l e R s m args below meth c H locs cells slots Q (F0 m 0 ls []) := by
  obtain ⟨hx, hb, hml, hown, hts, hK, hA, hRf, hRl, hN, _⟩ := id C0
  rw [f_SD_feed] at hf
  refine lv_iload_n hx hb d_SD_feed_0 rfl (lv_at hl 1 rfl) ?_
  refine lv_if_lt (tgt := 11) hx hb d_SD_feed_1 (by decide) (fun c_1 => ?_) (fun c_1 => ?_)
  · rw [if_pos c_1] at hf
    exact absurd hf (by simp)
  · rw [if_neg c_1] at hf
    refine lv_iload_n hx hb d_SD_feed_4 rfl (lv_at hl 1 rfl) ?_
    refine lv_sipush (v := 255) hx hb d_SD_feed_5 (by decide) ?_
    refine lv_icmp_le (tgt := 21) hx hb d_SD_feed_8 (by decide) (fun c_2 => ?_) (fun c_2 => ?_)
    · rw [if_pos c_2] at hf
      refine lv_aload_n hx hb d_SD_feed_21 rfl (lv_at hl 0 rfl) ?_
      refine va_get (D := (dC, dI)) (ci := 6) (v := .ref v_a) (C := R_SD) (T := T_SD) (N := 7) hx hb hts in_SD hown hK hP 0 rfl rfl 2 (by decide) (hts _ t_260) (fun _ h9 => h9) rfl d_SD_feed_22 ?_
      refine va_get (D := (dC, dI)) (ci := 1) (v := .int (Br_n v)) (C := R_ByteRow) (T := T_ByteRow) (N := 3) hx hb hts in_ByteRow hown hK hP 1 rfl rfl 1 (by decide) (hts _ t_97) (fun _ h9 => h9) rfl d_SD_feed_25 ?_
      refine lv_sipush (v := 3000) hx hb d_SD_feed_28 (by decide) ?_
      refine lv_icmp_lt (tgt := 44) hx hb d_SD_feed_31 (by decide) (fun c_3 => ?_) (fun c_3 => ?_)
      · rw [if_pos c_3] at hf
        refine lv_aload_n hx hb d_SD_feed_44 rfl (lv_at hl 0 rfl) ?_
        refine va_get (D := (dC, dI)) (ci := 6) (v := .ref v_a) (C := R_SD) (T := T_SD) (N := 7) hx hb hts in_SD hown hK hP 0 rfl rfl 2 (by decide) (hts _ t_260) (fun _ h9 => h9) rfl d_SD_feed_45 ?_
        refine lv_iload_n hx hb d_SD_feed_48 rfl (lv_at hl 1 rfl) ?_
        obtain ⟨v_4, hf1, hf⟩ := bd_ex hf
        try dsimp only at hf
        have hm0 := mo_ByteRow_add _ hf1
        try dsimp only at hm0
        have hm : Br_byL v_4 ≤ (fun r : Int32 × Br => Br_byL r.2) res := by
          refine mle_use (π := (fun r : Int32 × Br => Br_byL r.2)) hf ?_
          exact mle_some (Nat.le_refl _)
        have hPc := hP.sub (ws' := (wBr cI cZ cJ v_a v_b v)) [1, 2] rfl
        have hDc := hD.sub (ws' := (wBr cI cZ cJ v_a v_b v)) [1, 2] (by decide) rfl
        have hFc := va_free (wc := (wBr cI cZ cJ v_a v_b v)) hD hS hA [1, 2] rfl
        refine va_callv (va_runV (As := [.int x1]) (rest := []) ⟨hx, hb, hml, hown, hts⟩ (k_ByteRow_add l dC dI cI cZ cJ v_a v_b H.size hf1) (cwV 1 hts (gV t_756 t_354 t_355 t_56 t_356) rfl rfl rfl hd_ByteRow_add ⟨Nat.le_trans (Nat.le_of_ble_eq_true rfl) hRf, Nat.le_trans (Nat.le_of_ble_eq_true rfl) hRl⟩) ⟨kP_blind, va_recv hK hP (ci := 1) (q0 := 1) rfl rfl, kP_at hPc hK hDc hN⟩ rfl rfl hl.1 rfl (lv_room (Nat.le_of_ble_eq_true rfl)) d_SD_feed_49 (g_room hg hm0 hm hRc)) hS (fun q _ h => hFc q h) hFc (fun v_q_5 t H1 locs ht hvm hw hB hz1 hk1 hS => ?_)
        have hg := g_step (L0 := Br_byL v) (L1 := Br_byL v_4) hg hm0 hm hRc
        generalize cells + (Br_byL v_4 - Br_byL v) = cells at hg ⊢
        generalize slots + 2 * (Br_byL v_4 - Br_byL v) = slots at hg ⊢
        obtain ⟨hP, hD⟩ := kQ_join (wr := (wSd cI cZ cJ sd_a lk_w v_a lk_wr lk_rd lk_cu lk_sp sd)) (w1 := (wBr cI cZ cJ v_a v_q_5 v_4)) hP hD [1, 2] [0] rfl rfl (by decide) (by decide) ht hk1 hFc hB
        generalize H1 = H at hP hS ⊢
        have hP : va_P (dC, dI) vwCl (wSd cI cZ cJ sd_a lk_w v_a lk_wr lk_rd lk_cu lk_sp sd ++ wBr cI cZ cJ v_a v_q_5 v_4) H := hP.sub [0, 1, 2] rfl
        have hD : va_D A (wSd cI cZ cJ sd_a lk_w v_a lk_wr lk_rd lk_cu lk_sp sd ++ wBr cI cZ cJ v_a v_q_5 v_4) := hD.sub [0, 1, 2] (by decide) rfl
        refine lv_aload_n hx hb d_SD_feed_52 rfl (lv_at hl 0 rfl) ?_
        refine va_get (D := (dC, dI)) (ci := 6) (v := .ref v_a) (C := R_SD) (T := T_SD) (N := 7) hx hb hts in_SD hown hK hP 0 rfl rfl 2 (by decide) (hts _ t_260) (fun _ h9 => h9) rfl d_SD_feed_53 ?_
        refine va_get (D := (dC, dI)) (ci := 1) (v := .int (Br_n v_4)) (C := R_ByteRow) (T := T_ByteRow) (N := 3) hx hb hts in_ByteRow hown hK hP 1 rfl rfl 1 (by decide) (hts _ t_97) (fun _ h9 => h9) rfl d_SD_feed_56 ?_
        exact hr59 _ _ _ _ _ _ (Br_n v_4) v_4 hg hP hD hS hf
      · rw [if_neg c_3] at hf
        exact absurd hf (by simp)
    · rw [if_neg c_2] at hf
      exact absurd hf (by simp)
end
set_option maxHeartbeats 4000000 in
set_option maxRecDepth 100000 in
theorem k_SD_feed (l : Launch) (dC : Nat → ClassId) (dI : Nat → Nat → Nat) (cI cZ cJ : ClassId) (sd_a : Nat → Nat) (v_a v_b : Nat) (lk_w : Nat) (lk_wr : Nat) (lk_rd : Nat) (lk_cu : Nat) (lk_sp : Nat) (sz : Nat) {sd : Sd} {v : Br} {x1 : Int32} {r : Int32} {v' : Br} (hf : f_SD_feed sd v x1 = some (r, v')) :
    Met l y_SD_feed ws_SD_feed ({ frames := 3, cells := (Br_byL v' - Br_byL v), slots := (2 * (Br_byL v' - Br_byL v)), locals := 107 }) (va_Pc [.ref (sd_a 0), .int x1] (kP (dC, dI) vwCl (TYS cI cZ cJ) (wSd cI cZ cJ sd_a lk_w v_a lk_wr lk_rd lk_cu lk_sp sd ++ wBr cI cZ cJ v_a v_b v) sz)) (va_Qi (fun (q : Int32) (_ : Nat) => q = r) (fun q9 t => kQ (dC, dI) vwCl (TYS cI cZ cJ) (wSd cI cZ cJ sd_a lk_w v_a lk_wr lk_rd lk_cu lk_sp sd ++ wBr cI cZ cJ v_a v_b v) sz (wSd cI cZ cJ sd_a lk_w v_a lk_wr lk_rd lk_cu lk_sp sd ++ wBr cI cZ cJ v_a q9 v') t) (va_A (wSd cI cZ cJ sd_a lk_w v_a lk_wr lk_rd lk_cu lk_sp sd ++ wBr cI cZ cJ v_a v_b v) sz)) (Br_byL v' - Br_byL v) (2 * (Br_byL v' - Br_byL v)) (va_A (wSd cI cZ cJ sd_a lk_w v_a lk_wr lk_rd lk_cu lk_sp sd ++ wBr cI cZ cJ v_a v_b v) sz) := by
  refine Met.ofW (cc := c_SD_feed) (maxL := 2) (ret := (some .int)) (by decide) rfl ?_
  intro p e s m args below meth c s₁ B hml hv
  obtain ⟨rfl, hsz, hP, hK, hD0, hN⟩ := hv
  have hr := B.returns
  have hlocks := B.notSynchronized
  subst hsz
  have hD := hD0.self (sz := s.heap.size)
  have hl := lv_entry ([.ref (sd_a 0), .int x1]) (n := 2) (Nat.le_of_ble_eq_true rfl)
  rw [lg_entry_eq]
  generalize (lg_sl ([.ref (sd_a 0), .int x1]) ++ List.replicate (2 - (lg_sl ([.ref (sd_a 0), .int x1])).length) Slot.unset).toArray = ls at hl ⊢
  refine B_SD_feed (A := va_A (wSd cI cZ cJ sd_a lk_w v_a lk_wr lk_rd lk_cu lk_sp sd ++ wBr cI cZ cJ v_a v_b v) s.heap.size) ⟨B.exec, B.bytes, hml, findClass_of_methodNamed B.named, fun w h => atoms_spec (ws := ws_SD_feed) B.pre w (List.mem_cons_of_mem _ h), hK, fun q h => Or.inr h, Nat.le_of_ble_eq_true rfl, Nat.le_of_ble_eq_true rfl, hN, Nat.zero_le _, Nat.zero_le _⟩ ⟨Nat.le_refl _, Nat.le_refl _⟩ (fun H locs ls cells slots q9 v v'1 hg hP hD hS hf => ?_) ⟨Nat.le_refl _, Nat.zero_le _, Nat.zero_le _, Nat.zero_le _, Nat.zero_le _⟩ hP hD va_S.rf hl hf
  · cases hf
    refine W.widen (k := (Br_byL v' - Br_byL v)) (n := (2 * (Br_byL v' - Br_byL v))) hg.2.1 hg.2.2.1 ?_
    exact W.iret B.exec B.bytes hr (fun t ht hW => ⟨⟨_, q9, rfl, rfl, ⟨by rw [ht]; exact hP, va_K.moved hW.alike hK, hD⟩⟩, hS.F ht⟩) hS.2.2 d_SD_feed_59

/-! ByteRow_addAll -/
def l_ByteRow_addAll_2 (ot : Br) (k26 : Br → Option (Br)) : Nat → Br → Int32 → Option (Br)
  | 0, _, _ => none
  | n + 1, br, x2 => (if (Br_n ot) ≤ x2 then k26 br else gd (inb x2 (Br_byL ot)) <| bd (f_ByteRow_add br (Br_by ot x2.toNatClampNeg)) <| fun br_4 => lt' (x2 + 1) <| fun x2_6 => (l_ByteRow_addAll_2 ot k26 n) br_4 x2_6)
theorem mo_l_ByteRow_addAll_2 {ot : Br} {k26 : Br → Option (Br)} (hkm26 : ∀ (br_1 : Br), mle (k26 br_1) (Br_byL br_1) (fun r : Br => Br_byL r)) : ∀ (n : Nat) (br : Br) (x2 : Int32), mle (l_ByteRow_addAll_2 ot k26 n br x2) (Br_byL br) (fun r : Br => Br_byL r) := by
  intro n
  induction n with
  | zero => intro br x2 r hr; exact absurd hr (by simp [l_ByteRow_addAll_2])
  | succ n ih =>
    intro br x2
    rw [l_ByteRow_addAll_2]
    refine mle_if (fun _ => ?_) (fun _ => ?_)
    · exact hkm26 br
    · refine mle_gd ?_
      refine mle_bd (fun y9 hy9 => ?_)
      obtain ⟨br_4, rfl⟩ : ∃ z, z = y9 := ⟨_, rfl⟩
      try dsimp only
      refine mle_le (mo_ByteRow_add _ hy9) ?_
      try dsimp only
      refine mle_lt (fun x2_6 ex2_6 => ?_)
      exact ih br_4 x2_6
def f_ByteRow_addAll (br : Br) (ot : Br) : Option (Br) := l_ByteRow_addAll_2 ot (fun br_7 => some br_7) 100000 br 0
theorem mo_ByteRow_addAll {br : Br} {ot : Br} : mle (f_ByteRow_addAll br ot) (Br_byL br) (fun r : Br => Br_byL r) := by
  rw [f_ByteRow_addAll]
  refine mo_l_ByteRow_addAll_2 (fun br_7 => ?_) 100000 br 0
  try dsimp only
  exact mle_some (Nat.le_refl _)
section
variable {p : Program} {l : Launch} {e : Env} {R : Room} {s : State} {m : MethodId} {args : Array Value} {below : List Frame} {meth : Method} {c : Code} {Q : State → Prop} {A : Nat → Prop}
set_option maxHeartbeats 4000000 in
set_option maxRecDepth 100000 in
theorem L_ByteRow_addAll_2 {l0 : Nat} {dC : Nat → ClassId} {dI : Nat → Nat → Nat} {cI cZ cJ : ClassId} {br_a : Nat} {ot_a ot_b : Nat} {ot : Br} {k26 : Br → Option (Br)} {res : Br} (C0 : cxt p c m s args R 0 0 R_ByteRow c_ByteRow_addAll tb 3 (dC, dI) vwCl (TYS cI cZ cJ) A 3 107) (hRc : gR l0 ((fun r : Br => Br_byL r) res) R)
    (hk26 : ∀ (H : Heap) (locs : List Loc) (ls : Array Slot) (cells slots : Nat) (br_b : Nat) (br_1 : Br), gok R l0 (Br_byL br_1) cells slots → va_P (dC, dI) vwCl (wBr cI cZ cJ br_a br_b br_1 ++ wBr cI cZ cJ ot_a ot_b ot) H → va_D A (wBr cI cZ cJ br_a br_b br_1 ++ wBr cI cZ cJ ot_a ot_b ot) → va_S A s.heap H locs → lv_has ls 3 [] → k26 br_1 = some res → W p l e R s m args below meth c H locs cells slots Q (F0 m 26 ls []))
    (hkm26 : ∀ (br_1 : Br), mle (k26 br_1) (Br_byL br_1) (fun r : Br => Br_byL r)) :
    ∀ (n : Nat) (H : Heap) (locs : List Loc) (ls : Array Slot) (cells slots : Nat) (br_b : Nat) (br : Br) (x2 : Int32), gok R l0 (Br_byL br) cells slots → va_P (dC, dI) vwCl (wBr cI cZ cJ br_a br_b br ++ wBr cI cZ cJ ot_a ot_b ot) H → va_D A (wBr cI cZ cJ br_a br_b br ++ wBr cI cZ cJ ot_a ot_b ot) → va_S A s.heap H locs → lv_has ls 3 [(0, .ref br_a), (1, .ref ot_a), (2, .int x2)] → l_ByteRow_addAll_2 ot k26 n br x2 = some res → W p l e R s m args below meth c H locs cells slots Q (F0 m 2 ls []) := by
  obtain ⟨hx, hb, hml, hown, hts, hK, hA, hRf, hRl, hN, _⟩ := id C0
  intro n
  induction n with
  | zero =>
    intro H locs ls cells slots br_b br x2 hg hP hD hS hl hf
    exact absurd hf (by simp [l_ByteRow_addAll_2])
  | succ n ih =>
    intro H locs ls cells slots br_b br x2 hg hP hD hS hl hf
    rw [l_ByteRow_addAll_2] at hf
    refine lv_iload_n hx hb d_ByteRow_addAll_2 rfl (lv_at hl 2 rfl) ?_
    refine lv_aload_n hx hb d_ByteRow_addAll_3 rfl (lv_at hl 1 rfl) ?_
    refine va_get (D := (dC, dI)) (ci := 1) (v := .int (Br_n ot)) (C := R_ByteRow) (T := T_ByteRow) (N := 3) hx hb hts in_ByteRow hown hK hP 2 rfl rfl 1 (by decide) (hts _ t_96) (fun _ h9 => h9) rfl d_ByteRow_addAll_4 ?_
    refine lv_icmp_ge (tgt := 26) hx hb d_ByteRow_addAll_7 (by decide) (fun c_2 => ?_) (fun c_2 => ?_)
    · rw [if_pos c_2] at hf
      exact hk26 _ _ _ _ _ _ br hg hP hD hS (lv_sub hl [] rfl) hf
    · rw [if_neg c_2] at hf
      refine lv_aload_n hx hb d_ByteRow_addAll_10 rfl (lv_at hl 0 rfl) ?_
      refine lv_aload_n hx hb d_ByteRow_addAll_11 rfl (lv_at hl 1 rfl) ?_
      refine va_get (D := (dC, dI)) (ci := 1) (v := .ref ot_b) (C := R_ByteRow) (T := T_ByteRow) (N := 3) hx hb hts in_ByteRow hown hK hP 2 rfl rfl 0 (by decide) (hts _ t_94) (fun _ h9 => h9) rfl d_ByteRow_addAll_12 ?_
      refine lv_iload_n hx hb d_ByteRow_addAll_15 rfl (lv_at hl 2 rfl) ?_
      obtain ⟨h_3, hf⟩ := gd_ex hf
      refine va_iald (f := Br_by ot) hx hb hK hP 3 0 rfl rfl (inb_in h_3) d_ByteRow_addAll_16 ?_
      obtain ⟨br_4, hf1, hf⟩ := bd_ex hf
      try dsimp only at hf
      have hm0 := mo_ByteRow_add _ hf1
      try dsimp only at hm0
      have hm : Br_byL br_4 ≤ (fun r : Br => Br_byL r) res := by
        refine mle_use (π := (fun r : Br => Br_byL r)) hf ?_
        refine mle_lt (fun x2_6 ex2_6 => ?_)
        exact mo_l_ByteRow_addAll_2 hkm26 n br_4 x2_6
      have hPc := hP.sub (ws' := (wBr cI cZ cJ br_a br_b br)) [0, 1] rfl
      have hDc := hD.sub (ws' := (wBr cI cZ cJ br_a br_b br)) [0, 1] (by decide) rfl
      have hFc := va_free (wc := (wBr cI cZ cJ br_a br_b br)) hD hS hA [0, 1] rfl
      refine va_callv (va_runV (As := [.int (Br_by ot x2.toNatClampNeg)]) (rest := []) ⟨hx, hb, hml, hown, hts⟩ (k_ByteRow_add l dC dI cI cZ cJ br_a br_b H.size hf1) (cwV 1 hts (gV t_769 t_354 t_355 t_56 t_356) rfl rfl rfl hd_ByteRow_add ⟨Nat.le_trans (Nat.le_of_ble_eq_true rfl) hRf, Nat.le_trans (Nat.le_of_ble_eq_true rfl) hRl⟩) ⟨kP_blind, va_recv hK hP (ci := 1) (q0 := 0) rfl rfl, kP_at hPc hK hDc hN⟩ rfl rfl hl.1 rfl (lv_room (Nat.le_of_ble_eq_true rfl)) d_ByteRow_addAll_17 (g_room hg hm0 hm hRc)) hS (fun q _ h => hFc q h) hFc (fun br_q_5 t H1 locs ht hvm hw hB hz1 hk1 hS => ?_)
      have hg := g_step (L0 := Br_byL br) (L1 := Br_byL br_4) hg hm0 hm hRc
      generalize cells + (Br_byL br_4 - Br_byL br) = cells at hg ⊢
      generalize slots + 2 * (Br_byL br_4 - Br_byL br) = slots at hg ⊢
      obtain ⟨hP, hD⟩ := kQ_join (wr := (wBr cI cZ cJ ot_a ot_b ot)) (w1 := (wBr cI cZ cJ br_a br_q_5 br_4)) hP hD [0, 1] [2, 3] rfl rfl (by decide) (by decide) ht hk1 hFc hB
      generalize H1 = H at hP hS ⊢
      have hP : va_P (dC, dI) vwCl (wBr cI cZ cJ br_a br_q_5 br_4 ++ wBr cI cZ cJ ot_a ot_b ot) H := hP.sub [2, 3, 0, 1] rfl
      have hD : va_D A (wBr cI cZ cJ br_a br_q_5 br_4 ++ wBr cI cZ cJ ot_a ot_b ot) := hD.sub [2, 3, 0, 1] (by decide) rfl
      obtain ⟨x2_6, ex2_6, hf⟩ := lt_ex hf
      try dsimp only at hf
      refine lv_iinc (v := x2_6) (lv' := [(2, .int x2_6), (0, .ref br_a), (1, .ref ot_a)]) hx hb d_ByteRow_addAll_20 hl (k := 2) rfl (by rw [ex2_6]; rfl) (by decide) rfl (fun ls hl => ?_)
      refine lv_goto (tgt := 2) hx hb d_ByteRow_addAll_23 (by decide) ?_
      exact ih _ _ _ _ _ _ br_4 x2_6 hg hP hD hS (lv_sub hl [1, 2, 0] rfl) hf
set_option maxHeartbeats 4000000 in
set_option maxRecDepth 100000 in
theorem B_ByteRow_addAll {cells slots : Nat} {l0 : Nat} {dC : Nat → ClassId} {dI : Nat → Nat → Nat} {cI cZ cJ : ClassId} {br_a : Nat} {ot_a ot_b : Nat} {br_b : Nat} {br : Br} {ot : Br} {res : Br} (C0 : cxt p c m s args R 0 0 R_ByteRow c_ByteRow_addAll tb 3 (dC, dI) vwCl (TYS cI cZ cJ) A 3 107) (hRc : gR l0 ((fun r : Br => Br_byL r) res) R)
    (hr26 : ∀ (H : Heap) (locs : List Loc) (ls : Array Slot) (cells slots : Nat) (br_b : Nat) (br' : Br), gok R l0 (Br_byL br') cells slots → va_P (dC, dI) vwCl (wBr cI cZ cJ br_a br_b br' ++ wBr cI cZ cJ ot_a ot_b ot) H → va_D A (wBr cI cZ cJ br_a br_b br' ++ wBr cI cZ cJ ot_a ot_b ot) → va_S A s.heap H locs → some br' = some res → W p l e R s m args below meth c H locs cells slots Q (F0 m 26 ls []))
    {H : Heap} {locs : List Loc} {ls : Array Slot} (hg : gok R l0 (Br_byL br) cells slots) (hP : va_P (dC, dI) vwCl (wBr cI cZ cJ br_a br_b br ++ wBr cI cZ cJ ot_a ot_b ot) H) (hD : va_D A (wBr cI cZ cJ br_a br_b br ++ wBr cI cZ cJ ot_a ot_b ot)) (hS : va_S A s.heap H locs) (hl : lv_has ls 3 [(0, .ref br_a), (1, .ref ot_a)]) (hf : f_ByteRow_addAll br ot = some res) : W p l e R s m args below meth c H locs cells slots Q (F0 m 0 ls []) := by
  obtain ⟨hx, hb, hml, hown, hts, hK, hA, hRf, hRl, hN, _⟩ := id C0
  rw [f_ByteRow_addAll] at hf
  refine lv_iconst (v := 0) hx hb d_ByteRow_addAll_0 (by decide) ?_
  refine lv_istore_n (lv' := [(2, .int 0), (0, .ref br_a), (1, .ref ot_a)]) hx hb d_ByteRow_addAll_1 rfl hl (by decide) rfl (fun ls hl => ?_)
  refine L_ByteRow_addAll_2 C0 hRc (fun H locs ls cells slots br_b br_7 hg hP hD hS hl hf => ?_) (fun br_7 => ?_) 100000 _ _ _ _ _ _ br 0 hg hP hD hS (lv_sub hl [1, 2, 0] rfl) hf
  · try dsimp only at hf
    exact hr26 _ _ _ _ _ _ br_7 hg hP hD hS hf
  · try dsimp only
    exact mle_some (Nat.le_refl _)
end
set_option maxHeartbeats 4000000 in
set_option maxRecDepth 100000 in
theorem k_ByteRow_addAll (l : Launch) (dC : Nat → ClassId) (dI : Nat → Nat → Nat) (cI cZ cJ : ClassId) (br_a br_b : Nat) (ot_a ot_b : Nat) (sz : Nat) {br : Br} {ot : Br} {br' : Br} (hf : f_ByteRow_addAll br ot = some br') :
    Met l y_ByteRow_addAll ws_ByteRow_addAll ({ frames := 3, cells := (Br_byL br' - Br_byL br), slots := (2 * (Br_byL br' - Br_byL br)), locals := 107 }) (va_Pc [.ref br_a, .ref ot_a] (kP (dC, dI) vwCl (TYS cI cZ cJ) (wBr cI cZ cJ br_a br_b br ++ wBr cI cZ cJ ot_a ot_b ot) sz)) (va_Qv (fun (_ : Nat) => True) (fun q9 t => kQ (dC, dI) vwCl (TYS cI cZ cJ) (wBr cI cZ cJ br_a br_b br ++ wBr cI cZ cJ ot_a ot_b ot) sz (wBr cI cZ cJ br_a q9 br' ++ wBr cI cZ cJ ot_a ot_b ot) t) (va_A (wBr cI cZ cJ br_a br_b br ++ wBr cI cZ cJ ot_a ot_b ot) sz)) (Br_byL br' - Br_byL br) (2 * (Br_byL br' - Br_byL br)) (va_A (wBr cI cZ cJ br_a br_b br ++ wBr cI cZ cJ ot_a ot_b ot) sz) := by
  refine Met.ofW (cc := c_ByteRow_addAll) (maxL := 3) (ret := none) (by decide) rfl ?_
  intro p e s m args below meth c s₁ B hml hv
  obtain ⟨rfl, hsz, hP, hK, hD0, hN⟩ := hv
  have hr := B.returns
  have hlocks := B.notSynchronized
  subst hsz
  have hD := hD0.self (sz := s.heap.size)
  have hl := lv_entry ([.ref br_a, .ref ot_a]) (n := 3) (Nat.le_of_ble_eq_true rfl)
  rw [lg_entry_eq]
  generalize (lg_sl ([.ref br_a, .ref ot_a]) ++ List.replicate (3 - (lg_sl ([.ref br_a, .ref ot_a])).length) Slot.unset).toArray = ls at hl ⊢
  refine B_ByteRow_addAll (A := va_A (wBr cI cZ cJ br_a br_b br ++ wBr cI cZ cJ ot_a ot_b ot) s.heap.size) ⟨B.exec, B.bytes, hml, findClass_of_methodNamed B.named, fun w h => atoms_spec (ws := ws_ByteRow_addAll) B.pre w (List.mem_cons_of_mem _ h), hK, fun q h => Or.inr h, Nat.le_of_ble_eq_true rfl, Nat.le_of_ble_eq_true rfl, hN, Nat.zero_le _, Nat.zero_le _⟩ ⟨Nat.le_refl _, Nat.le_refl _⟩ (fun H locs ls cells slots q9 br'1 hg hP hD hS hf => ?_) ⟨Nat.le_refl _, Nat.zero_le _, Nat.zero_le _, Nat.zero_le _, Nat.zero_le _⟩ hP hD va_S.rf hl hf
  · cases hf
    refine W.widen (k := (Br_byL br' - Br_byL br)) (n := (2 * (Br_byL br' - Br_byL br))) hg.2.1 hg.2.2.1 ?_
    exact W.vret B.exec B.bytes hr (fun t ht hW => ⟨⟨q9, rfl, trivial, ⟨by rw [ht]; exact hP, va_K.moved hW.alike hK, hD⟩⟩, hS.F ht⟩) hS.2.2 d_ByteRow_addAll_26

/-! SD_pass -/
def f_SD_pass (sd : Sd) (w : Br) (v : Br) : Option (Int32 × Br) := (if ((Br_n v) + (Br_n w)) ≤ 3000 then bd (f_ByteRow_addAll v w) <| fun v_2 => some (Br_n v_2, v_2) else none)
theorem mo_SD_pass {sd : Sd} {w : Br} {v : Br} : mle (f_SD_pass sd w v) (Br_byL v) (fun r : Int32 × Br => Br_byL r.2) := by
  rw [f_SD_pass]
  refine mle_if (fun _ => ?_) (fun _ => ?_)
  · refine mle_bd (fun y9 hy9 => ?_)
    obtain ⟨v_2, rfl⟩ : ∃ z, z = y9 := ⟨_, rfl⟩
    try dsimp only
    refine mle_le (mo_ByteRow_addAll _ hy9) ?_
    try dsimp only
    exact mle_some (Nat.le_refl _)
  · exact mle_none
section
variable {p : Program} {l : Launch} {e : Env} {R : Room} {s : State} {m : MethodId} {args : Array Value} {below : List Frame} {meth : Method} {c : Code} {Q : State → Prop} {A : Nat → Prop}
set_option maxHeartbeats 4000000 in
set_option maxRecDepth 100000 in
theorem B_SD_pass {cells slots : Nat} {l0 : Nat} {dC : Nat → ClassId} {dI : Nat → Nat → Nat} {cI cZ cJ : ClassId} {sd_a : Nat → Nat} {w_a w_b : Nat} {v_a : Nat} {lk_wr : Nat} {lk_rd : Nat} {lk_cu : Nat} {lk_sp : Nat} {v_b : Nat} {sd : Sd} {w : Br} {v : Br} {res : Int32 × Br} (C0 : cxt p c m s args R 0 0 R_SD c_SD_pass tb 1 (dC, dI) vwCl (TYS cI cZ cJ) A 4 129) (hRc : gR l0 ((fun r : Int32 × Br => Br_byL r.2) res) R)
    (hr49 : ∀ (H : Heap) (locs : List Loc) (ls : Array Slot) (cells slots : Nat) (v_b : Nat) (v : Int32) (v' : Br), gok R l0 (Br_byL v') cells slots → va_P (dC, dI) vwCl (wSd cI cZ cJ sd_a w_a v_a lk_wr lk_rd lk_cu lk_sp sd ++ wBr cI cZ cJ w_a w_b w ++ wBr cI cZ cJ v_a v_b v') H → va_D A (wSd cI cZ cJ sd_a w_a v_a lk_wr lk_rd lk_cu lk_sp sd ++ wBr cI cZ cJ w_a w_b w ++ wBr cI cZ cJ v_a v_b v') → va_S A s.heap H locs → some (v, v') = some res → W p l e R s m args below meth c H locs cells slots Q (F0 m 49 ls [.int v]))
    {H : Heap} {locs : List Loc} {ls : Array Slot} (hg : gok R l0 (Br_byL v) cells slots) (hP : va_P (dC, dI) vwCl (wSd cI cZ cJ sd_a w_a v_a lk_wr lk_rd lk_cu lk_sp sd ++ wBr cI cZ cJ w_a w_b w ++ wBr cI cZ cJ v_a v_b v) H) (hD : va_D A (wSd cI cZ cJ sd_a w_a v_a lk_wr lk_rd lk_cu lk_sp sd ++ wBr cI cZ cJ w_a w_b w ++ wBr cI cZ cJ v_a v_b v)) (hS : va_S A s.heap H locs) (hl : lv_has ls 1 [(0, .ref (sd_a 0))]) (hf : f_SD_pass sd w v = some res) : W p l e R s m args below meth c H locs cells slots Q (F0 m 0 ls []) := by
  obtain ⟨hx, hb, hml, hown, hts, hK, hA, hRf, hRl, hN, _⟩ := id C0
  rw [f_SD_pass] at hf
  refine lv_aload_n hx hb d_SD_pass_0 rfl (lv_at hl 0 rfl) ?_
  refine va_get (D := (dC, dI)) (ci := 6) (v := .ref v_a) (C := R_SD) (T := T_SD) (N := 7) hx hb hts in_SD hown hK hP 0 rfl rfl 2 (by decide) (hts _ t_260) (fun _ h9 => h9) rfl d_SD_pass_1 ?_
  refine va_get (D := (dC, dI)) (ci := 1) (v := .int (Br_n v)) (C := R_ByteRow) (T := T_ByteRow) (N := 3) hx hb hts in_ByteRow hown hK hP 3 rfl rfl 1 (by decide) (hts _ t_97) (fun _ h9 => h9) rfl d_SD_pass_4 ?_
  refine lv_aload_n hx hb d_SD_pass_7 rfl (lv_at hl 0 rfl) ?_
  refine va_get (D := (dC, dI)) (ci := 6) (v := .ref w_a) (C := R_SD) (T := T_SD) (N := 7) hx hb hts in_SD hown hK hP 0 rfl rfl 1 (by decide) (hts _ t_259) (fun _ h9 => h9) rfl d_SD_pass_8 ?_
  refine va_get (D := (dC, dI)) (ci := 1) (v := .int (Br_n w)) (C := R_ByteRow) (T := T_ByteRow) (N := 3) hx hb hts in_ByteRow hown hK hP 1 rfl rfl 1 (by decide) (hts _ t_97) (fun _ h9 => h9) rfl d_SD_pass_11 ?_
  refine lv_iadd hx hb d_SD_pass_14 ?_
  refine lv_sipush (v := 3000) hx hb d_SD_pass_15 (by decide) ?_
  refine lv_icmp_le (tgt := 31) hx hb d_SD_pass_18 (by decide) (fun c_1 => ?_) (fun c_1 => ?_)
  · rw [if_pos c_1] at hf
    refine lv_aload_n hx hb d_SD_pass_31 rfl (lv_at hl 0 rfl) ?_
    refine va_get (D := (dC, dI)) (ci := 6) (v := .ref v_a) (C := R_SD) (T := T_SD) (N := 7) hx hb hts in_SD hown hK hP 0 rfl rfl 2 (by decide) (hts _ t_260) (fun _ h9 => h9) rfl d_SD_pass_32 ?_
    refine lv_aload_n hx hb d_SD_pass_35 rfl (lv_at hl 0 rfl) ?_
    refine va_get (D := (dC, dI)) (ci := 6) (v := .ref w_a) (C := R_SD) (T := T_SD) (N := 7) hx hb hts in_SD hown hK hP 0 rfl rfl 1 (by decide) (hts _ t_259) (fun _ h9 => h9) rfl d_SD_pass_36 ?_
    obtain ⟨v_2, hf1, hf⟩ := bd_ex hf
    try dsimp only at hf
    have hm0 := mo_ByteRow_addAll _ hf1
    try dsimp only at hm0
    have hm : Br_byL v_2 ≤ (fun r : Int32 × Br => Br_byL r.2) res := by
      refine mle_use (π := (fun r : Int32 × Br => Br_byL r.2)) hf ?_
      exact mle_some (Nat.le_refl _)
    have hPc := hP.sub (ws' := (wBr cI cZ cJ v_a v_b v ++ wBr cI cZ cJ w_a w_b w)) [3, 4, 1, 2] rfl
    have hDc := hD.sub (ws' := (wBr cI cZ cJ v_a v_b v ++ wBr cI cZ cJ w_a w_b w)) [3, 4, 1, 2] (by decide) rfl
    have hFc := va_free (wc := (wBr cI cZ cJ v_a v_b v ++ wBr cI cZ cJ w_a w_b w)) hD hS hA [3, 4, 1, 2] rfl
    refine va_callv (va_runV (As := [.ref w_a]) (rest := []) ⟨hx, hb, hml, hown, hts⟩ (k_ByteRow_addAll l dC dI cI cZ cJ v_a v_b w_a w_b H.size hf1) (cwV 1 hts (gV t_765 t_766 t_767 t_56 t_768) rfl rfl rfl hd_ByteRow_addAll ⟨Nat.le_trans (Nat.le_of_ble_eq_true rfl) hRf, Nat.le_trans (Nat.le_of_ble_eq_true rfl) hRl⟩) ⟨kP_blind, va_recv hK hP (ci := 1) (q0 := 3) rfl rfl, kP_at hPc hK hDc hN⟩ rfl rfl hl.1 rfl (lv_room (Nat.le_of_ble_eq_true rfl)) d_SD_pass_39 (g_room hg hm0 hm hRc)) hS (fun q _ h => hFc q h) hFc (fun v_q_3 t H1 locs ht hvm hw hB hz1 hk1 hS => ?_)
    have hg := g_step (L0 := Br_byL v) (L1 := Br_byL v_2) hg hm0 hm hRc
    generalize cells + (Br_byL v_2 - Br_byL v) = cells at hg ⊢
    generalize slots + 2 * (Br_byL v_2 - Br_byL v) = slots at hg ⊢
    obtain ⟨hP, hD⟩ := kQ_join (wr := (wSd cI cZ cJ sd_a w_a v_a lk_wr lk_rd lk_cu lk_sp sd)) (w1 := (wBr cI cZ cJ v_a v_q_3 v_2 ++ wBr cI cZ cJ w_a w_b w)) hP hD [3, 4, 1, 2] [0] rfl rfl (by decide) (by decide) ht hk1 hFc hB
    generalize H1 = H at hP hS ⊢
    have hP : va_P (dC, dI) vwCl (wSd cI cZ cJ sd_a w_a v_a lk_wr lk_rd lk_cu lk_sp sd ++ wBr cI cZ cJ w_a w_b w ++ wBr cI cZ cJ v_a v_q_3 v_2) H := hP.sub [0, 3, 4, 1, 2] rfl
    have hD : va_D A (wSd cI cZ cJ sd_a w_a v_a lk_wr lk_rd lk_cu lk_sp sd ++ wBr cI cZ cJ w_a w_b w ++ wBr cI cZ cJ v_a v_q_3 v_2) := hD.sub [0, 3, 4, 1, 2] (by decide) rfl
    refine lv_aload_n hx hb d_SD_pass_42 rfl (lv_at hl 0 rfl) ?_
    refine va_get (D := (dC, dI)) (ci := 6) (v := .ref v_a) (C := R_SD) (T := T_SD) (N := 7) hx hb hts in_SD hown hK hP 0 rfl rfl 2 (by decide) (hts _ t_260) (fun _ h9 => h9) rfl d_SD_pass_43 ?_
    refine va_get (D := (dC, dI)) (ci := 1) (v := .int (Br_n v_2)) (C := R_ByteRow) (T := T_ByteRow) (N := 3) hx hb hts in_ByteRow hown hK hP 3 rfl rfl 1 (by decide) (hts _ t_97) (fun _ h9 => h9) rfl d_SD_pass_46 ?_
    exact hr49 _ _ _ _ _ _ (Br_n v_2) v_2 hg hP hD hS hf
  · rw [if_neg c_1] at hf
    exact absurd hf (by simp)
end
set_option maxHeartbeats 4000000 in
set_option maxRecDepth 100000 in
theorem k_SD_pass (l : Launch) (dC : Nat → ClassId) (dI : Nat → Nat → Nat) (cI cZ cJ : ClassId) (sd_a : Nat → Nat) (w_a w_b : Nat) (v_a v_b : Nat) (lk_wr : Nat) (lk_rd : Nat) (lk_cu : Nat) (lk_sp : Nat) (sz : Nat) {sd : Sd} {w : Br} {v : Br} {r : Int32} {v' : Br} (hf : f_SD_pass sd w v = some (r, v')) :
    Met l y_SD_pass ws_SD_pass ({ frames := 4, cells := (Br_byL v' - Br_byL v), slots := (2 * (Br_byL v' - Br_byL v)), locals := 129 }) (va_Pc [.ref (sd_a 0)] (kP (dC, dI) vwCl (TYS cI cZ cJ) (wSd cI cZ cJ sd_a w_a v_a lk_wr lk_rd lk_cu lk_sp sd ++ wBr cI cZ cJ w_a w_b w ++ wBr cI cZ cJ v_a v_b v) sz)) (va_Qi (fun (q : Int32) (_ : Nat) => q = r) (fun q9 t => kQ (dC, dI) vwCl (TYS cI cZ cJ) (wSd cI cZ cJ sd_a w_a v_a lk_wr lk_rd lk_cu lk_sp sd ++ wBr cI cZ cJ w_a w_b w ++ wBr cI cZ cJ v_a v_b v) sz (wSd cI cZ cJ sd_a w_a v_a lk_wr lk_rd lk_cu lk_sp sd ++ wBr cI cZ cJ w_a w_b w ++ wBr cI cZ cJ v_a q9 v') t) (va_A (wSd cI cZ cJ sd_a w_a v_a lk_wr lk_rd lk_cu lk_sp sd ++ wBr cI cZ cJ w_a w_b w ++ wBr cI cZ cJ v_a v_b v) sz)) (Br_byL v' - Br_byL v) (2 * (Br_byL v' - Br_byL v)) (va_A (wSd cI cZ cJ sd_a w_a v_a lk_wr lk_rd lk_cu lk_sp sd ++ wBr cI cZ cJ w_a w_b w ++ wBr cI cZ cJ v_a v_b v) sz) := by
  refine Met.ofW (cc := c_SD_pass) (maxL := 1) (ret := (some .int)) (by decide) rfl ?_
  intro p e s m args below meth c s₁ B hml hv
  obtain ⟨rfl, hsz, hP, hK, hD0, hN⟩ := hv
  have hr := B.returns
  have hlocks := B.notSynchronized
  subst hsz
  have hD := hD0.self (sz := s.heap.size)
  have hl := lv_entry ([.ref (sd_a 0)]) (n := 1) (Nat.le_of_ble_eq_true rfl)
  rw [lg_entry_eq]
  generalize (lg_sl ([.ref (sd_a 0)]) ++ List.replicate (1 - (lg_sl ([.ref (sd_a 0)])).length) Slot.unset).toArray = ls at hl ⊢
  refine B_SD_pass (A := va_A (wSd cI cZ cJ sd_a w_a v_a lk_wr lk_rd lk_cu lk_sp sd ++ wBr cI cZ cJ w_a w_b w ++ wBr cI cZ cJ v_a v_b v) s.heap.size) ⟨B.exec, B.bytes, hml, findClass_of_methodNamed B.named, fun w h => atoms_spec (ws := ws_SD_pass) B.pre w (List.mem_cons_of_mem _ h), hK, fun q h => Or.inr h, Nat.le_of_ble_eq_true rfl, Nat.le_of_ble_eq_true rfl, hN, Nat.zero_le _, Nat.zero_le _⟩ ⟨Nat.le_refl _, Nat.le_refl _⟩ (fun H locs ls cells slots q9 v v'1 hg hP hD hS hf => ?_) ⟨Nat.le_refl _, Nat.zero_le _, Nat.zero_le _, Nat.zero_le _, Nat.zero_le _⟩ hP hD va_S.rf hl hf
  · cases hf
    refine W.widen (k := (Br_byL v' - Br_byL v)) (n := (2 * (Br_byL v' - Br_byL v))) hg.2.1 hg.2.2.1 ?_
    exact W.iret B.exec B.bytes hr (fun t ht hW => ⟨⟨_, q9, rfl, rfl, ⟨by rw [ht]; exact hP, va_K.moved hW.alike hK, hD⟩⟩, hS.F ht⟩) hS.2.2 d_SD_pass_49

/-! SD_count -/
def f_SD_count (sd : Sd) (cu : Sy) (w : Br) (v : Br) (x1 : Int32) : Option (Int32) := (if x1 = 0 then some (Sy_n cu) else if x1 = 1 then some (Br_n w) else if x1 = 2 then some (Br_n v) else if x1 = 3 then some (Sd_kd sd) else some (-1))
section
variable {p : Program} {l : Launch} {e : Env} {R : Room} {s : State} {m : MethodId} {args : Array Value} {below : List Frame} {meth : Method} {c : Code} {Q : State → Prop} {A : Nat → Prop}
set_option maxHeartbeats 4000000 in
set_option maxRecDepth 100000 in
theorem B_SD_count {cells slots : Nat} {dC : Nat → ClassId} {dI : Nat → Nat → Nat} {cI cZ cJ : ClassId} {sd_a : Nat → Nat} {cu_a : Nat → Nat} {w_a w_b : Nat} {v_a v_b : Nat} {lk_wr : Nat} {lk_rd : Nat} {lk_sp : Nat} {sd : Sd} {cu : Sy} {w : Br} {v : Br} {x1 : Int32} {res : Int32} (C0 : cxt p c m s args R cells slots R_SD c_SD_count tb 2 (dC, dI) vwCl (TYS cI cZ cJ) A 0 0)
    (hr39 : ∀ (H : Heap) (locs : List Loc) (ls : Array Slot) (rv9 : Int32), va_P (dC, dI) vwCl (wSd cI cZ cJ sd_a w_a v_a lk_wr lk_rd (cu_a 0) lk_sp sd ++ wSy cI cZ cJ cu_a cu ++ wBr cI cZ cJ w_a w_b w ++ wBr cI cZ cJ v_a v_b v) H → va_D A (wSd cI cZ cJ sd_a w_a v_a lk_wr lk_rd (cu_a 0) lk_sp sd ++ wSy cI cZ cJ cu_a cu ++ wBr cI cZ cJ w_a w_b w ++ wBr cI cZ cJ v_a v_b v) → va_S A s.heap H locs → some rv9 = some res → W p l e R s m args below meth c H locs cells slots Q (F0 m 39 ls [.int rv9]))
    (hr47 : ∀ (H : Heap) (locs : List Loc) (ls : Array Slot) (rv9 : Int32), va_P (dC, dI) vwCl (wSd cI cZ cJ sd_a w_a v_a lk_wr lk_rd (cu_a 0) lk_sp sd ++ wSy cI cZ cJ cu_a cu ++ wBr cI cZ cJ w_a w_b w ++ wBr cI cZ cJ v_a v_b v) H → va_D A (wSd cI cZ cJ sd_a w_a v_a lk_wr lk_rd (cu_a 0) lk_sp sd ++ wSy cI cZ cJ cu_a cu ++ wBr cI cZ cJ w_a w_b w ++ wBr cI cZ cJ v_a v_b v) → va_S A s.heap H locs → some rv9 = some res → W p l e R s m args below meth c H locs cells slots Q (F0 m 47 ls [.int rv9]))
    (hr55 : ∀ (H : Heap) (locs : List Loc) (ls : Array Slot) (rv9 : Int32), va_P (dC, dI) vwCl (wSd cI cZ cJ sd_a w_a v_a lk_wr lk_rd (cu_a 0) lk_sp sd ++ wSy cI cZ cJ cu_a cu ++ wBr cI cZ cJ w_a w_b w ++ wBr cI cZ cJ v_a v_b v) H → va_D A (wSd cI cZ cJ sd_a w_a v_a lk_wr lk_rd (cu_a 0) lk_sp sd ++ wSy cI cZ cJ cu_a cu ++ wBr cI cZ cJ w_a w_b w ++ wBr cI cZ cJ v_a v_b v) → va_S A s.heap H locs → some rv9 = some res → W p l e R s m args below meth c H locs cells slots Q (F0 m 55 ls [.int rv9]))
    (hr60 : ∀ (H : Heap) (locs : List Loc) (ls : Array Slot) (rv9 : Int32), va_P (dC, dI) vwCl (wSd cI cZ cJ sd_a w_a v_a lk_wr lk_rd (cu_a 0) lk_sp sd ++ wSy cI cZ cJ cu_a cu ++ wBr cI cZ cJ w_a w_b w ++ wBr cI cZ cJ v_a v_b v) H → va_D A (wSd cI cZ cJ sd_a w_a v_a lk_wr lk_rd (cu_a 0) lk_sp sd ++ wSy cI cZ cJ cu_a cu ++ wBr cI cZ cJ w_a w_b w ++ wBr cI cZ cJ v_a v_b v) → va_S A s.heap H locs → some rv9 = some res → W p l e R s m args below meth c H locs cells slots Q (F0 m 60 ls [.int rv9]))
    (hr62 : ∀ (H : Heap) (locs : List Loc) (ls : Array Slot) (rv9 : Int32), va_P (dC, dI) vwCl (wSd cI cZ cJ sd_a w_a v_a lk_wr lk_rd (cu_a 0) lk_sp sd ++ wSy cI cZ cJ cu_a cu ++ wBr cI cZ cJ w_a w_b w ++ wBr cI cZ cJ v_a v_b v) H → va_D A (wSd cI cZ cJ sd_a w_a v_a lk_wr lk_rd (cu_a 0) lk_sp sd ++ wSy cI cZ cJ cu_a cu ++ wBr cI cZ cJ w_a w_b w ++ wBr cI cZ cJ v_a v_b v) → va_S A s.heap H locs → some rv9 = some res → W p l e R s m args below meth c H locs cells slots Q (F0 m 62 ls [.int rv9]))
    {H : Heap} {locs : List Loc} {ls : Array Slot} (hP : va_P (dC, dI) vwCl (wSd cI cZ cJ sd_a w_a v_a lk_wr lk_rd (cu_a 0) lk_sp sd ++ wSy cI cZ cJ cu_a cu ++ wBr cI cZ cJ w_a w_b w ++ wBr cI cZ cJ v_a v_b v) H) (hD : va_D A (wSd cI cZ cJ sd_a w_a v_a lk_wr lk_rd (cu_a 0) lk_sp sd ++ wSy cI cZ cJ cu_a cu ++ wBr cI cZ cJ w_a w_b w ++ wBr cI cZ cJ v_a v_b v)) (hS : va_S A s.heap H locs) (hl : lv_has ls 2 [(0, .ref (sd_a 0)), (1, .int x1)]) (hf : f_SD_count sd cu w v x1 = some res) : W p l e R s m args below meth c H locs cells slots Q (F0 m 0 ls []) := by
  obtain ⟨hx, hb, hml, hown, hts, hK, hA, hRf, hRl, hN, hRc⟩ := id C0
  rw [f_SD_count] at hf
  refine lv_iload_n hx hb d_SD_count_0 rfl (lv_at hl 1 rfl) ?_
  by_cases c_1_0 : x1 = 0
  · rw [if_pos c_1_0] at hf
    refine lv_tableIn (off := 31) (tgt := 32) hx hb d_SD_count_1 (by rw [c_1_0]; decide) (by rw [c_1_0]; decide) (by rw [c_1_0]; decide) (by decide) ?_
    refine lv_aload_n hx hb d_SD_count_32 rfl (lv_at hl 0 rfl) ?_
    refine va_get (D := (dC, dI)) (ci := 6) (v := .ref (cu_a 0)) (C := R_SD) (T := T_SD) (N := 7) hx hb hts in_SD hown hK hP 0 rfl rfl 5 (by decide) (hts _ t_263) (fun _ h9 => h9) rfl d_SD_count_33 ?_
    refine va_get (D := (dC, dI)) (ci := 0) (v := .int (Sy_n cu)) (C := R_Symbols) (T := T_Symbols) (N := 10) hx hb hts in_Symbols hown hK hP 1 rfl rfl 7 (by decide) (hts _ t_232) (fun _ h9 => h9) rfl d_SD_count_36 ?_
    exact hr39 _ _ _ (Sy_n cu) hP hD hS hf
  rw [if_neg c_1_0] at hf
  by_cases c_1_1 : x1 = 1
  · rw [if_pos c_1_1] at hf
    refine lv_tableIn (off := 39) (tgt := 40) hx hb d_SD_count_1 (by rw [c_1_1]; decide) (by rw [c_1_1]; decide) (by rw [c_1_1]; decide) (by decide) ?_
    refine lv_aload_n hx hb d_SD_count_40 rfl (lv_at hl 0 rfl) ?_
    refine va_get (D := (dC, dI)) (ci := 6) (v := .ref w_a) (C := R_SD) (T := T_SD) (N := 7) hx hb hts in_SD hown hK hP 0 rfl rfl 1 (by decide) (hts _ t_259) (fun _ h9 => h9) rfl d_SD_count_41 ?_
    refine va_get (D := (dC, dI)) (ci := 1) (v := .int (Br_n w)) (C := R_ByteRow) (T := T_ByteRow) (N := 3) hx hb hts in_ByteRow hown hK hP 11 rfl rfl 1 (by decide) (hts _ t_97) (fun _ h9 => h9) rfl d_SD_count_44 ?_
    exact hr47 _ _ _ (Br_n w) hP hD hS hf
  rw [if_neg c_1_1] at hf
  by_cases c_1_2 : x1 = 2
  · rw [if_pos c_1_2] at hf
    refine lv_tableIn (off := 47) (tgt := 48) hx hb d_SD_count_1 (by rw [c_1_2]; decide) (by rw [c_1_2]; decide) (by rw [c_1_2]; decide) (by decide) ?_
    refine lv_aload_n hx hb d_SD_count_48 rfl (lv_at hl 0 rfl) ?_
    refine va_get (D := (dC, dI)) (ci := 6) (v := .ref v_a) (C := R_SD) (T := T_SD) (N := 7) hx hb hts in_SD hown hK hP 0 rfl rfl 2 (by decide) (hts _ t_260) (fun _ h9 => h9) rfl d_SD_count_49 ?_
    refine va_get (D := (dC, dI)) (ci := 1) (v := .int (Br_n v)) (C := R_ByteRow) (T := T_ByteRow) (N := 3) hx hb hts in_ByteRow hown hK hP 13 rfl rfl 1 (by decide) (hts _ t_97) (fun _ h9 => h9) rfl d_SD_count_52 ?_
    exact hr55 _ _ _ (Br_n v) hP hD hS hf
  rw [if_neg c_1_2] at hf
  by_cases c_1_3 : x1 = 3
  · rw [if_pos c_1_3] at hf
    refine lv_tableIn (off := 55) (tgt := 56) hx hb d_SD_count_1 (by rw [c_1_3]; decide) (by rw [c_1_3]; decide) (by rw [c_1_3]; decide) (by decide) ?_
    refine lv_aload_n hx hb d_SD_count_56 rfl (lv_at hl 0 rfl) ?_
    refine va_get (D := (dC, dI)) (ci := 6) (v := .int (Sd_kd sd)) (C := R_SD) (T := T_SD) (N := 7) hx hb hts in_SD hown hK hP 0 rfl rfl 0 (by decide) (hts _ t_258) (fun _ h9 => h9) rfl d_SD_count_57 ?_
    exact hr60 _ _ _ (Sd_kd sd) hP hD hS hf
  rw [if_neg c_1_3] at hf
  refine lv_tableOut (tgt := 61) hx hb d_SD_count_1 (sw_out4 c_1_0 c_1_1 c_1_2 c_1_3) (by decide) ?_
  refine lv_iconst (v := (-1)) hx hb d_SD_count_61 (by decide) ?_
  exact hr62 _ _ _ (-1) hP hD hS hf
end
set_option maxHeartbeats 4000000 in
set_option maxRecDepth 100000 in
theorem k_SD_count (l : Launch) (dC : Nat → ClassId) (dI : Nat → Nat → Nat) (cI cZ cJ : ClassId) (sd_a : Nat → Nat) (cu_a : Nat → Nat) (w_a w_b : Nat) (v_a v_b : Nat) (lk_wr : Nat) (lk_rd : Nat) (lk_sp : Nat) (sz : Nat) {sd : Sd} {cu : Sy} {w : Br} {v : Br} {x1 : Int32} {r : Int32} (hf : f_SD_count sd cu w v x1 = some r) :
    Met l y_SD_count ws_SD_count ({ frames := 0, cells := 0, slots := 0, locals := 0 }) (va_Pc [.ref (sd_a 0), .int x1] (kP (dC, dI) vwCl (TYS cI cZ cJ) (wSd cI cZ cJ sd_a w_a v_a lk_wr lk_rd (cu_a 0) lk_sp sd ++ wSy cI cZ cJ cu_a cu ++ wBr cI cZ cJ w_a w_b w ++ wBr cI cZ cJ v_a v_b v) sz)) (va_Qi (fun (q : Int32) (_ : Unit) => q = r) (fun _ t => kQ (dC, dI) vwCl (TYS cI cZ cJ) (wSd cI cZ cJ sd_a w_a v_a lk_wr lk_rd (cu_a 0) lk_sp sd ++ wSy cI cZ cJ cu_a cu ++ wBr cI cZ cJ w_a w_b w ++ wBr cI cZ cJ v_a v_b v) sz (wSd cI cZ cJ sd_a w_a v_a lk_wr lk_rd (cu_a 0) lk_sp sd ++ wSy cI cZ cJ cu_a cu ++ wBr cI cZ cJ w_a w_b w ++ wBr cI cZ cJ v_a v_b v) t) (va_A (wSd cI cZ cJ sd_a w_a v_a lk_wr lk_rd (cu_a 0) lk_sp sd ++ wSy cI cZ cJ cu_a cu ++ wBr cI cZ cJ w_a w_b w ++ wBr cI cZ cJ v_a v_b v) sz)) 0 0 (va_A (wSd cI cZ cJ sd_a w_a v_a lk_wr lk_rd (cu_a 0) lk_sp sd ++ wSy cI cZ cJ cu_a cu ++ wBr cI cZ cJ w_a w_b w ++ wBr cI cZ cJ v_a v_b v) sz) := by
  refine Met.ofW (cc := c_SD_count) (maxL := 2) (ret := (some .int)) (by decide) rfl ?_
  intro p e s m args below meth c s₁ B hml hv
  obtain ⟨rfl, hsz, hP, hK, hD0, hN⟩ := hv
  have hr := B.returns
  have hlocks := B.notSynchronized
  subst hsz
  have hD := hD0.self (sz := s.heap.size)
  have hl := lv_entry ([.ref (sd_a 0), .int x1]) (n := 2) (Nat.le_of_ble_eq_true rfl)
  rw [lg_entry_eq]
  generalize (lg_sl ([.ref (sd_a 0), .int x1]) ++ List.replicate (2 - (lg_sl ([.ref (sd_a 0), .int x1])).length) Slot.unset).toArray = ls at hl ⊢
  refine B_SD_count (A := va_A (wSd cI cZ cJ sd_a w_a v_a lk_wr lk_rd (cu_a 0) lk_sp sd ++ wSy cI cZ cJ cu_a cu ++ wBr cI cZ cJ w_a w_b w ++ wBr cI cZ cJ v_a v_b v) s.heap.size) ⟨B.exec, B.bytes, hml, findClass_of_methodNamed B.named, fun w h => atoms_spec (ws := ws_SD_count) B.pre w (List.mem_cons_of_mem _ h), hK, fun q h => Or.inr h, Nat.le_of_ble_eq_true rfl, Nat.le_of_ble_eq_true rfl, hN, Nat.le_of_ble_eq_true rfl, Nat.le_of_ble_eq_true rfl⟩ (fun H locs ls v hP hD hS hf => ?_) (fun H locs ls v hP hD hS hf => ?_) (fun H locs ls v hP hD hS hf => ?_) (fun H locs ls v hP hD hS hf => ?_) (fun H locs ls v hP hD hS hf => ?_) hP hD va_S.rf hl hf
  · cases hf
    exact W.iret B.exec B.bytes hr (fun t ht hW => ⟨⟨_, (), rfl, rfl, ⟨by rw [ht]; exact hP, va_K.moved hW.alike hK, hD⟩⟩, hS.F ht⟩) hS.2.2 d_SD_count_39
  · cases hf
    exact W.iret B.exec B.bytes hr (fun t ht hW => ⟨⟨_, (), rfl, rfl, ⟨by rw [ht]; exact hP, va_K.moved hW.alike hK, hD⟩⟩, hS.F ht⟩) hS.2.2 d_SD_count_47
  · cases hf
    exact W.iret B.exec B.bytes hr (fun t ht hW => ⟨⟨_, (), rfl, rfl, ⟨by rw [ht]; exact hP, va_K.moved hW.alike hK, hD⟩⟩, hS.F ht⟩) hS.2.2 d_SD_count_55
  · cases hf
    exact W.iret B.exec B.bytes hr (fun t ht hW => ⟨⟨_, (), rfl, rfl, ⟨by rw [ht]; exact hP, va_K.moved hW.alike hK, hD⟩⟩, hS.F ht⟩) hS.2.2 d_SD_count_60
  · cases hf
    exact W.iret B.exec B.bytes hr (fun t ht hW => ⟨⟨_, (), rfl, rfl, ⟨by rw [ht]; exact hP, va_K.moved hW.alike hK, hD⟩⟩, hS.F ht⟩) hS.2.2 d_SD_count_62

/-! SD_clear -/
def f_SD_clear (sd : Sd) (cu : Sy) (w : Br) (v : Br) : Option (Sy × Br × Br) := bd (f_Symbols_removeAll cu) <| fun cu_1 => bd (f_ByteRow_removeAll w) <| fun w_2 => bd (f_ByteRow_removeAll v) <| fun v_3 => some (cu_1, w_2, v_3)
section
variable {p : Program} {l : Launch} {e : Env} {R : Room} {s : State} {m : MethodId} {args : Array Value} {below : List Frame} {meth : Method} {c : Code} {Q : State → Prop} {A : Nat → Prop}
set_option maxHeartbeats 4000000 in
set_option maxRecDepth 100000 in
theorem B_SD_clear {cells slots : Nat} {dC : Nat → ClassId} {dI : Nat → Nat → Nat} {cI cZ cJ : ClassId} {sd_a : Nat → Nat} {cu_a : Nat → Nat} {w_a w_b : Nat} {v_a v_b : Nat} {lk_wr : Nat} {lk_rd : Nat} {lk_sp : Nat} {sd : Sd} {cu : Sy} {w : Br} {v : Br} {res : Sy × Br × Br} (C0 : cxt p c m s args R cells slots R_SD c_SD_clear tb 1 (dC, dI) vwCl (TYS cI cZ cJ) A 1 20)
    (hr21 : ∀ (H : Heap) (locs : List Loc) (ls : Array Slot) (cu' : Sy) (w' : Br) (v' : Br), va_P (dC, dI) vwCl (wSd cI cZ cJ sd_a w_a v_a lk_wr lk_rd (cu_a 0) lk_sp sd ++ wSy cI cZ cJ cu_a cu' ++ wBr cI cZ cJ w_a w_b w' ++ wBr cI cZ cJ v_a v_b v') H → va_D A (wSd cI cZ cJ sd_a w_a v_a lk_wr lk_rd (cu_a 0) lk_sp sd ++ wSy cI cZ cJ cu_a cu' ++ wBr cI cZ cJ w_a w_b w' ++ wBr cI cZ cJ v_a v_b v') → va_S A s.heap H locs → some (cu', w', v') = some res → W p l e R s m args below meth c H locs cells slots Q (F0 m 21 ls []))
    {H : Heap} {locs : List Loc} {ls : Array Slot} (hP : va_P (dC, dI) vwCl (wSd cI cZ cJ sd_a w_a v_a lk_wr lk_rd (cu_a 0) lk_sp sd ++ wSy cI cZ cJ cu_a cu ++ wBr cI cZ cJ w_a w_b w ++ wBr cI cZ cJ v_a v_b v) H) (hD : va_D A (wSd cI cZ cJ sd_a w_a v_a lk_wr lk_rd (cu_a 0) lk_sp sd ++ wSy cI cZ cJ cu_a cu ++ wBr cI cZ cJ w_a w_b w ++ wBr cI cZ cJ v_a v_b v)) (hS : va_S A s.heap H locs) (hl : lv_has ls 1 [(0, .ref (sd_a 0))]) (hf : f_SD_clear sd cu w v = some res) : W p l e R s m args below meth c H locs cells slots Q (F0 m 0 ls []) := by
  obtain ⟨hx, hb, hml, hown, hts, hK, hA, hRf, hRl, hN, hRc⟩ := id C0
  rw [f_SD_clear] at hf
  refine lv_aload_n hx hb d_SD_clear_0 rfl (lv_at hl 0 rfl) ?_
  refine va_get (D := (dC, dI)) (ci := 6) (v := .ref (cu_a 0)) (C := R_SD) (T := T_SD) (N := 7) hx hb hts in_SD hown hK hP 0 rfl rfl 5 (by decide) (hts _ t_263) (fun _ h9 => h9) rfl d_SD_clear_1 ?_
  obtain ⟨cu_1, hf1, hf⟩ := bd_ex hf
  try dsimp only at hf
  have hPc := hP.sub (ws' := (wSy cI cZ cJ cu_a cu)) [1, 2, 3, 4, 5, 6, 7, 8, 9, 10] rfl
  have hDc := hD.sub (ws' := (wSy cI cZ cJ cu_a cu)) [1, 2, 3, 4, 5, 6, 7, 8, 9, 10] (by decide) rfl
  have hFc := va_free (wc := (wSy cI cZ cJ cu_a cu)) hD hS hA [1, 2, 3, 4, 5, 6, 7, 8, 9, 10] rfl
  refine va_callv (va_runV (As := []) (rest := []) ⟨hx, hb, hml, hown, hts⟩ (k_Symbols_removeAll l dC dI cI cZ cJ cu_a H.size hf1) (cwV 0 hts (gV t_437 t_438 t_439 t_62 t_440) rfl rfl rfl hd_Symbols_removeAll ⟨Nat.le_trans (Nat.le_of_ble_eq_true rfl) hRf, Nat.le_trans (Nat.le_of_ble_eq_true rfl) hRl⟩) ⟨kP_blind, va_recv hK hP (ci := 0) (q0 := 1) rfl rfl, kP_at hPc hK hDc hN⟩ rfl rfl hl.1 rfl (lv_room (Nat.le_of_ble_eq_true rfl)) d_SD_clear_4 hRc) hS (fun q _ h => hFc q h) hFc (fun u t H1 locs ht hvm hw hB hz1 hk1 hS => ?_)
  obtain ⟨hP, hD⟩ := kQ_join (wr := (wSd cI cZ cJ sd_a w_a v_a lk_wr lk_rd (cu_a 0) lk_sp sd ++ wBr cI cZ cJ w_a w_b w ++ wBr cI cZ cJ v_a v_b v)) (w1 := (wSy cI cZ cJ cu_a cu_1)) hP hD [1, 2, 3, 4, 5, 6, 7, 8, 9, 10] [0, 11, 12, 13, 14] rfl rfl (by decide) (by decide) ht hk1 hFc hB
  generalize H1 = H at hP hS ⊢
  have hP : va_P (dC, dI) vwCl (wSd cI cZ cJ sd_a w_a v_a lk_wr lk_rd (cu_a 0) lk_sp sd ++ wSy cI cZ cJ cu_a cu_1 ++ wBr cI cZ cJ w_a w_b w ++ wBr cI cZ cJ v_a v_b v) H := hP.sub [0, 5, 6, 7, 8, 9, 10, 11, 12, 13, 14, 1, 2, 3, 4] rfl
  have hD : va_D A (wSd cI cZ cJ sd_a w_a v_a lk_wr lk_rd (cu_a 0) lk_sp sd ++ wSy cI cZ cJ cu_a cu_1 ++ wBr cI cZ cJ w_a w_b w ++ wBr cI cZ cJ v_a v_b v) := hD.sub [0, 5, 6, 7, 8, 9, 10, 11, 12, 13, 14, 1, 2, 3, 4] (by decide) rfl
  refine lv_aload_n hx hb d_SD_clear_7 rfl (lv_at hl 0 rfl) ?_
  refine va_get (D := (dC, dI)) (ci := 6) (v := .ref w_a) (C := R_SD) (T := T_SD) (N := 7) hx hb hts in_SD hown hK hP 0 rfl rfl 1 (by decide) (hts _ t_259) (fun _ h9 => h9) rfl d_SD_clear_8 ?_
  obtain ⟨w_2, hf1, hf⟩ := bd_ex hf
  try dsimp only at hf
  have hPc := hP.sub (ws' := (wBr cI cZ cJ w_a w_b w)) [11, 12] rfl
  have hDc := hD.sub (ws' := (wBr cI cZ cJ w_a w_b w)) [11, 12] (by decide) rfl
  have hFc := va_free (wc := (wBr cI cZ cJ w_a w_b w)) hD hS hA [11, 12] rfl
  refine va_callv (va_runV (As := []) (rest := []) ⟨hx, hb, hml, hown, hts⟩ (k_ByteRow_removeAll l dC dI cI cZ cJ w_a w_b H.size hf1) (cwV 0 hts (gV t_545 t_303 t_304 t_56 t_305) rfl rfl rfl hd_ByteRow_removeAll ⟨Nat.le_trans (Nat.le_of_ble_eq_true rfl) hRf, Nat.le_trans (Nat.le_of_ble_eq_true rfl) hRl⟩) ⟨kP_blind, va_recv hK hP (ci := 1) (q0 := 11) rfl rfl, kP_at hPc hK hDc hN⟩ rfl rfl hl.1 rfl (lv_room (Nat.le_of_ble_eq_true rfl)) d_SD_clear_11 hRc) hS (fun q _ h => hFc q h) hFc (fun u t H1 locs ht hvm hw hB hz1 hk1 hS => ?_)
  obtain ⟨hP, hD⟩ := kQ_join (wr := (wSd cI cZ cJ sd_a w_a v_a lk_wr lk_rd (cu_a 0) lk_sp sd ++ wSy cI cZ cJ cu_a cu_1 ++ wBr cI cZ cJ v_a v_b v)) (w1 := (wBr cI cZ cJ w_a w_b w_2)) hP hD [11, 12] [0, 1, 2, 3, 4, 5, 6, 7, 8, 9, 10, 13, 14] rfl rfl (by decide) (by decide) ht hk1 hFc hB
  generalize H1 = H at hP hS ⊢
  have hP : va_P (dC, dI) vwCl (wSd cI cZ cJ sd_a w_a v_a lk_wr lk_rd (cu_a 0) lk_sp sd ++ wSy cI cZ cJ cu_a cu_1 ++ wBr cI cZ cJ w_a w_b w_2 ++ wBr cI cZ cJ v_a v_b v) H := hP.sub [0, 1, 2, 3, 4, 5, 6, 7, 8, 9, 10, 13, 14, 11, 12] rfl
  have hD : va_D A (wSd cI cZ cJ sd_a w_a v_a lk_wr lk_rd (cu_a 0) lk_sp sd ++ wSy cI cZ cJ cu_a cu_1 ++ wBr cI cZ cJ w_a w_b w_2 ++ wBr cI cZ cJ v_a v_b v) := hD.sub [0, 1, 2, 3, 4, 5, 6, 7, 8, 9, 10, 13, 14, 11, 12] (by decide) rfl
  refine lv_aload_n hx hb d_SD_clear_14 rfl (lv_at hl 0 rfl) ?_
  refine va_get (D := (dC, dI)) (ci := 6) (v := .ref v_a) (C := R_SD) (T := T_SD) (N := 7) hx hb hts in_SD hown hK hP 0 rfl rfl 2 (by decide) (hts _ t_260) (fun _ h9 => h9) rfl d_SD_clear_15 ?_
  obtain ⟨v_3, hf1, hf⟩ := bd_ex hf
  try dsimp only at hf
  have hPc := hP.sub (ws' := (wBr cI cZ cJ v_a v_b v)) [13, 14] rfl
  have hDc := hD.sub (ws' := (wBr cI cZ cJ v_a v_b v)) [13, 14] (by decide) rfl
  have hFc := va_free (wc := (wBr cI cZ cJ v_a v_b v)) hD hS hA [13, 14] rfl
  refine va_callv (va_runV (As := []) (rest := []) ⟨hx, hb, hml, hown, hts⟩ (k_ByteRow_removeAll l dC dI cI cZ cJ v_a v_b H.size hf1) (cwV 0 hts (gV t_545 t_303 t_304 t_56 t_305) rfl rfl rfl hd_ByteRow_removeAll ⟨Nat.le_trans (Nat.le_of_ble_eq_true rfl) hRf, Nat.le_trans (Nat.le_of_ble_eq_true rfl) hRl⟩) ⟨kP_blind, va_recv hK hP (ci := 1) (q0 := 13) rfl rfl, kP_at hPc hK hDc hN⟩ rfl rfl hl.1 rfl (lv_room (Nat.le_of_ble_eq_true rfl)) d_SD_clear_18 hRc) hS (fun q _ h => hFc q h) hFc (fun u t H1 locs ht hvm hw hB hz1 hk1 hS => ?_)
  obtain ⟨hP, hD⟩ := kQ_join (wr := (wSd cI cZ cJ sd_a w_a v_a lk_wr lk_rd (cu_a 0) lk_sp sd ++ wSy cI cZ cJ cu_a cu_1 ++ wBr cI cZ cJ w_a w_b w_2)) (w1 := (wBr cI cZ cJ v_a v_b v_3)) hP hD [13, 14] [0, 1, 2, 3, 4, 5, 6, 7, 8, 9, 10, 11, 12] rfl rfl (by decide) (by decide) ht hk1 hFc hB
  generalize H1 = H at hP hS ⊢
  have hP : va_P (dC, dI) vwCl (wSd cI cZ cJ sd_a w_a v_a lk_wr lk_rd (cu_a 0) lk_sp sd ++ wSy cI cZ cJ cu_a cu_1 ++ wBr cI cZ cJ w_a w_b w_2 ++ wBr cI cZ cJ v_a v_b v_3) H := hP.sub [0, 1, 2, 3, 4, 5, 6, 7, 8, 9, 10, 11, 12, 13, 14] rfl
  have hD : va_D A (wSd cI cZ cJ sd_a w_a v_a lk_wr lk_rd (cu_a 0) lk_sp sd ++ wSy cI cZ cJ cu_a cu_1 ++ wBr cI cZ cJ w_a w_b w_2 ++ wBr cI cZ cJ v_a v_b v_3) := hD.sub [0, 1, 2, 3, 4, 5, 6, 7, 8, 9, 10, 11, 12, 13, 14] (by decide) rfl
  exact hr21 _ _ _ cu_1 w_2 v_3 hP hD hS hf
end
set_option maxHeartbeats 4000000 in
set_option maxRecDepth 100000 in
theorem k_SD_clear (l : Launch) (dC : Nat → ClassId) (dI : Nat → Nat → Nat) (cI cZ cJ : ClassId) (sd_a : Nat → Nat) (cu_a : Nat → Nat) (w_a w_b : Nat) (v_a v_b : Nat) (lk_wr : Nat) (lk_rd : Nat) (lk_sp : Nat) (sz : Nat) {sd : Sd} {cu : Sy} {w : Br} {v : Br} {cu' : Sy} {w' : Br} {v' : Br} (hf : f_SD_clear sd cu w v = some (cu', w', v')) :
    Met l y_SD_clear ws_SD_clear ({ frames := 1, cells := 0, slots := 0, locals := 20 }) (va_Pc [.ref (sd_a 0)] (kP (dC, dI) vwCl (TYS cI cZ cJ) (wSd cI cZ cJ sd_a w_a v_a lk_wr lk_rd (cu_a 0) lk_sp sd ++ wSy cI cZ cJ cu_a cu ++ wBr cI cZ cJ w_a w_b w ++ wBr cI cZ cJ v_a v_b v) sz)) (va_Qv (fun (_ : Unit) => True) (fun _ t => kQ (dC, dI) vwCl (TYS cI cZ cJ) (wSd cI cZ cJ sd_a w_a v_a lk_wr lk_rd (cu_a 0) lk_sp sd ++ wSy cI cZ cJ cu_a cu ++ wBr cI cZ cJ w_a w_b w ++ wBr cI cZ cJ v_a v_b v) sz (wSd cI cZ cJ sd_a w_a v_a lk_wr lk_rd (cu_a 0) lk_sp sd ++ wSy cI cZ cJ cu_a cu' ++ wBr cI cZ cJ w_a w_b w' ++ wBr cI cZ cJ v_a v_b v') t) (va_A (wSd cI cZ cJ sd_a w_a v_a lk_wr lk_rd (cu_a 0) lk_sp sd ++ wSy cI cZ cJ cu_a cu ++ wBr cI cZ cJ w_a w_b w ++ wBr cI cZ cJ v_a v_b v) sz)) 0 0 (va_A (wSd cI cZ cJ sd_a w_a v_a lk_wr lk_rd (cu_a 0) lk_sp sd ++ wSy cI cZ cJ cu_a cu ++ wBr cI cZ cJ w_a w_b w ++ wBr cI cZ cJ v_a v_b v) sz) := by
  refine Met.ofW (cc := c_SD_clear) (maxL := 1) (ret := none) (by decide) rfl ?_
  intro p e s m args below meth c s₁ B hml hv
  obtain ⟨rfl, hsz, hP, hK, hD0, hN⟩ := hv
  have hr := B.returns
  have hlocks := B.notSynchronized
  subst hsz
  have hD := hD0.self (sz := s.heap.size)
  have hl := lv_entry ([.ref (sd_a 0)]) (n := 1) (Nat.le_of_ble_eq_true rfl)
  rw [lg_entry_eq]
  generalize (lg_sl ([.ref (sd_a 0)]) ++ List.replicate (1 - (lg_sl ([.ref (sd_a 0)])).length) Slot.unset).toArray = ls at hl ⊢
  refine B_SD_clear (A := va_A (wSd cI cZ cJ sd_a w_a v_a lk_wr lk_rd (cu_a 0) lk_sp sd ++ wSy cI cZ cJ cu_a cu ++ wBr cI cZ cJ w_a w_b w ++ wBr cI cZ cJ v_a v_b v) s.heap.size) ⟨B.exec, B.bytes, hml, findClass_of_methodNamed B.named, fun w h => atoms_spec (ws := ws_SD_clear) B.pre w (List.mem_cons_of_mem _ h), hK, fun q h => Or.inr h, Nat.le_of_ble_eq_true rfl, Nat.le_of_ble_eq_true rfl, hN, Nat.le_of_ble_eq_true rfl, Nat.le_of_ble_eq_true rfl⟩ (fun H locs ls cu'1 w'1 v'1 hP hD hS hf => ?_) hP hD va_S.rf hl hf
  · cases hf
    exact W.vret B.exec B.bytes hr (fun t ht hW => ⟨⟨(), rfl, trivial, ⟨by rw [ht]; exact hP, va_K.moved hW.alike hK, hD⟩⟩, hS.F ht⟩) hS.2.2 d_SD_clear_21

/-! P_SD_write -/
def f_P_SD_write (sd : Sd) (wr : Wr) (pb : Pb) (w : Br) (cu : Sy) : Option (Int32 × Wr × Pb × Br) := bd (f_P_Writer_tell wr pb w cu) <| fun (wr_1, pb_2, w_3) => some (Br_n w_3, wr_1, pb_2, w_3)
theorem mo_P_SD_write {sd : Sd} {wr : Wr} {pb : Pb} {w : Br} {cu : Sy} : mle (f_P_SD_write sd wr pb w cu) (Br_byL w) (fun r : Int32 × Wr × Pb × Br => Br_byL r.2.2.2) := by
  rw [f_P_SD_write]
  refine mle_bd (fun y9 hy9 => ?_)
  obtain ⟨wr_1, pb_2, w_3⟩ := y9
  try dsimp only
  refine mle_le (mo_P_Writer_tell _ hy9) ?_
  try dsimp only
  exact mle_some (Nat.le_refl _)
section
variable {p : Program} {l : Launch} {e : Env} {R : Room} {s : State} {m : MethodId} {args : Array Value} {below : List Frame} {meth : Method} {c : Code} {Q : State → Prop} {A : Nat → Prop}
set_option maxHeartbeats 4000000 in
set_option maxRecDepth 100000 in
theorem B_P_SD_write {cells slots : Nat} {l0 : Nat} {dC : Nat → ClassId} {dI : Nat → Nat → Nat} {cI cZ cJ : ClassId} {sd_a : Nat → Nat} {wr_a : Nat → Nat} {pb_a : Nat → Nat} {w_a : Nat} {cu_a : Nat → Nat} {lk_v : Nat} {lk_rd : Nat} {lk_sp : Nat} {w_b : Nat} {sd : Sd} {wr : Wr} {pb : Pb} {w : Br} {cu : Sy} {res : Int32 × Wr × Pb × Br} (C0 : cxt p c m s args R 0 0 R_SD c_SD_write tb 1 (dC, dI) vwCl (TYS cI cZ cJ) A 8 223) (hRc : gR l0 ((fun r : Int32 × Wr × Pb × Br => Br_byL r.2.2.2) res) R)
    (hr18 : ∀ (H : Heap) (locs : List Loc) (ls : Array Slot) (cells slots : Nat) (w_b : Nat) (v : Int32) (wr' : Wr) (pb' : Pb) (w' : Br), gok R l0 (Br_byL w') cells slots → va_P (dC, dI) vwCl (wSd cI cZ cJ sd_a w_a lk_v (wr_a 0) lk_rd (cu_a 0) lk_sp sd ++ wWr cI cZ cJ wr_a (pb_a 0) wr' ++ wPb cI cZ cJ pb_a w_a lk_v pb' ++ wBr cI cZ cJ w_a w_b w' ++ wSy cI cZ cJ cu_a cu) H → va_D A (wSd cI cZ cJ sd_a w_a lk_v (wr_a 0) lk_rd (cu_a 0) lk_sp sd ++ wWr cI cZ cJ wr_a (pb_a 0) wr' ++ wPb cI cZ cJ pb_a w_a lk_v pb' ++ wBr cI cZ cJ w_a w_b w' ++ wSy cI cZ cJ cu_a cu) → va_S A s.heap H locs → some (v, wr', pb', w') = some res → W p l e R s m args below meth c H locs cells slots Q (F0 m 18 ls [.int v]))
    {H : Heap} {locs : List Loc} {ls : Array Slot} (hg : gok R l0 (Br_byL w) cells slots) (hP : va_P (dC, dI) vwCl (wSd cI cZ cJ sd_a w_a lk_v (wr_a 0) lk_rd (cu_a 0) lk_sp sd ++ wWr cI cZ cJ wr_a (pb_a 0) wr ++ wPb cI cZ cJ pb_a w_a lk_v pb ++ wBr cI cZ cJ w_a w_b w ++ wSy cI cZ cJ cu_a cu) H) (hD : va_D A (wSd cI cZ cJ sd_a w_a lk_v (wr_a 0) lk_rd (cu_a 0) lk_sp sd ++ wWr cI cZ cJ wr_a (pb_a 0) wr ++ wPb cI cZ cJ pb_a w_a lk_v pb ++ wBr cI cZ cJ w_a w_b w ++ wSy cI cZ cJ cu_a cu)) (hS : va_S A s.heap H locs) (hl : lv_has ls 1 [(0, .ref (sd_a 0))]) (hf : f_P_SD_write sd wr pb w cu = some res) : W p l e R s m args below meth c H locs cells slots Q (F0 m 0 ls []) := by
  obtain ⟨hx, hb, hml, hown, hts, hK, hA, hRf, hRl, hN, _⟩ := id C0
  rw [f_P_SD_write] at hf
  refine lv_aload_n hx hb d_SD_write_0 rfl (lv_at hl 0 rfl) ?_
  refine va_get (D := (dC, dI)) (ci := 6) (v := .ref (wr_a 0)) (C := R_SD) (T := T_SD) (N := 7) hx hb hts in_SD hown hK hP 0 rfl rfl 3 (by decide) (hts _ t_261) (fun _ h9 => h9) rfl d_SD_write_1 ?_
  refine lv_aload_n hx hb d_SD_write_4 rfl (lv_at hl 0 rfl) ?_
  refine va_get (D := (dC, dI)) (ci := 6) (v := .ref (cu_a 0)) (C := R_SD) (T := T_SD) (N := 7) hx hb hts in_SD hown hK hP 0 rfl rfl 5 (by decide) (hts _ t_263) (fun _ h9 => h9) rfl d_SD_write_5 ?_
  obtain ⟨⟨wr_1, pb_2, w_3⟩, hf1, hf⟩ := bd_ex hf
  try dsimp only at hf
  have hm0 := mo_P_Writer_tell _ hf1
  try dsimp only at hm0
  have hm : Br_byL w_3 ≤ (fun r : Int32 × Wr × Pb × Br => Br_byL r.2.2.2) res := by
    refine mle_use (π := (fun r : Int32 × Wr × Pb × Br => Br_byL r.2.2.2)) hf ?_
    exact mle_some (Nat.le_refl _)
  have hPc := hP.sub (ws' := (wWr cI cZ cJ wr_a (pb_a 0) wr ++ wPb cI cZ cJ pb_a w_a lk_v pb ++ wBr cI cZ cJ w_a w_b w ++ wSy cI cZ cJ cu_a cu)) [1, 2, 3, 4, 5, 6, 7, 8, 9, 10, 11, 12, 13, 14, 15, 16] rfl
  have hDc := hD.sub (ws' := (wWr cI cZ cJ wr_a (pb_a 0) wr ++ wPb cI cZ cJ pb_a w_a lk_v pb ++ wBr cI cZ cJ w_a w_b w ++ wSy cI cZ cJ cu_a cu)) [1, 2, 3, 4, 5, 6, 7, 8, 9, 10, 11, 12, 13, 14, 15, 16] (by decide) rfl
  have hFc := va_free (wc := (wWr cI cZ cJ wr_a (pb_a 0) wr ++ wPb cI cZ cJ pb_a w_a lk_v pb ++ wBr cI cZ cJ w_a w_b w ++ wSy cI cZ cJ cu_a cu)) hD hS hA [1, 2, 3, 4, 5, 6, 7, 8, 9, 10, 11, 12, 13, 14, 15, 16] rfl
  refine va_callv (va_runV (As := [.ref (cu_a 0)]) (rest := []) ⟨hx, hb, hml, hown, hts⟩ (k_P_Writer_tell l dC dI cI cZ cJ wr_a pb_a w_a w_b cu_a lk_v H.size hf1) (cwV 1 hts (gV t_284 t_285 t_286 t_60 t_287) rfl rfl rfl hd_Writer_tell ⟨Nat.le_trans (Nat.le_of_ble_eq_true rfl) hRf, Nat.le_trans (Nat.le_of_ble_eq_true rfl) hRl⟩) ⟨kP_blind, va_recv hK hP (ci := 4) (q0 := 1) rfl rfl, kP_at hPc hK hDc hN⟩ rfl rfl hl.1 rfl (lv_room (Nat.le_of_ble_eq_true rfl)) d_SD_write_8 (g_room hg hm0 hm hRc)) hS (fun q _ h => hFc q h) hFc (fun w_q_4 t H1 locs ht hvm hw hB hz1 hk1 hS => ?_)
  have hg := g_step (L0 := Br_byL w) (L1 := Br_byL w_3) hg hm0 hm hRc
  generalize cells + (Br_byL w_3 - Br_byL w) = cells at hg ⊢
  generalize slots + 2 * (Br_byL w_3 - Br_byL w) = slots at hg ⊢
  obtain ⟨hP, hD⟩ := kQ_join (wr := (wSd cI cZ cJ sd_a w_a lk_v (wr_a 0) lk_rd (cu_a 0) lk_sp sd)) (w1 := (wWr cI cZ cJ wr_a (pb_a 0) wr_1 ++ wPb cI cZ cJ pb_a w_a lk_v pb_2 ++ wBr cI cZ cJ w_a w_q_4 w_3 ++ wSy cI cZ cJ cu_a cu)) hP hD [1, 2, 3, 4, 5, 6, 7, 8, 9, 10, 11, 12, 13, 14, 15, 16] [0] rfl rfl (by decide) (by decide) ht hk1 hFc hB
  generalize H1 = H at hP hS ⊢
  have hP : va_P (dC, dI) vwCl (wSd cI cZ cJ sd_a w_a lk_v (wr_a 0) lk_rd (cu_a 0) lk_sp sd ++ wWr cI cZ cJ wr_a (pb_a 0) wr_1 ++ wPb cI cZ cJ pb_a w_a lk_v pb_2 ++ wBr cI cZ cJ w_a w_q_4 w_3 ++ wSy cI cZ cJ cu_a cu) H := hP.sub [0, 1, 2, 3, 4, 5, 6, 7, 8, 9, 10, 11, 12, 13, 14, 15, 16] rfl
  have hD : va_D A (wSd cI cZ cJ sd_a w_a lk_v (wr_a 0) lk_rd (cu_a 0) lk_sp sd ++ wWr cI cZ cJ wr_a (pb_a 0) wr_1 ++ wPb cI cZ cJ pb_a w_a lk_v pb_2 ++ wBr cI cZ cJ w_a w_q_4 w_3 ++ wSy cI cZ cJ cu_a cu) := hD.sub [0, 1, 2, 3, 4, 5, 6, 7, 8, 9, 10, 11, 12, 13, 14, 15, 16] (by decide) rfl
  refine lv_aload_n hx hb d_SD_write_11 rfl (lv_at hl 0 rfl) ?_
  refine va_get (D := (dC, dI)) (ci := 6) (v := .ref w_a) (C := R_SD) (T := T_SD) (N := 7) hx hb hts in_SD hown hK hP 0 rfl rfl 1 (by decide) (hts _ t_259) (fun _ h9 => h9) rfl d_SD_write_12 ?_
  refine va_get (D := (dC, dI)) (ci := 1) (v := .int (Br_n w_3)) (C := R_ByteRow) (T := T_ByteRow) (N := 3) hx hb hts in_ByteRow hown hK hP 5 rfl rfl 1 (by decide) (hts _ t_97) (fun _ h9 => h9) rfl d_SD_write_15 ?_
  exact hr18 _ _ _ _ _ _ (Br_n w_3) wr_1 pb_2 w_3 hg hP hD hS hf
end
set_option maxHeartbeats 4000000 in
set_option maxRecDepth 100000 in
theorem k_P_SD_write (l : Launch) (dC : Nat → ClassId) (dI : Nat → Nat → Nat) (cI cZ cJ : ClassId) (sd_a : Nat → Nat) (wr_a : Nat → Nat) (pb_a : Nat → Nat) (w_a w_b : Nat) (cu_a : Nat → Nat) (lk_v : Nat) (lk_rd : Nat) (lk_sp : Nat) (sz : Nat) {sd : Sd} {wr : Wr} {pb : Pb} {w : Br} {cu : Sy} {r : Int32} {wr' : Wr} {pb' : Pb} {w' : Br} (hf : f_P_SD_write sd wr pb w cu = some (r, wr', pb', w')) :
    Met l y_SD_write ws_SD_write ({ frames := 8, cells := (Br_byL w' - Br_byL w), slots := (2 * (Br_byL w' - Br_byL w)), locals := 223 }) (va_Pc [.ref (sd_a 0)] (kP (dC, dI) vwCl (TYS cI cZ cJ) (wSd cI cZ cJ sd_a w_a lk_v (wr_a 0) lk_rd (cu_a 0) lk_sp sd ++ wWr cI cZ cJ wr_a (pb_a 0) wr ++ wPb cI cZ cJ pb_a w_a lk_v pb ++ wBr cI cZ cJ w_a w_b w ++ wSy cI cZ cJ cu_a cu) sz)) (va_Qi (fun (q : Int32) (_ : Nat) => q = r) (fun q9 t => kQ (dC, dI) vwCl (TYS cI cZ cJ) (wSd cI cZ cJ sd_a w_a lk_v (wr_a 0) lk_rd (cu_a 0) lk_sp sd ++ wWr cI cZ cJ wr_a (pb_a 0) wr ++ wPb cI cZ cJ pb_a w_a lk_v pb ++ wBr cI cZ cJ w_a w_b w ++ wSy cI cZ cJ cu_a cu) sz (wSd cI cZ cJ sd_a w_a lk_v (wr_a 0) lk_rd (cu_a 0) lk_sp sd ++ wWr cI cZ cJ wr_a (pb_a 0) wr' ++ wPb cI cZ cJ pb_a w_a lk_v pb' ++ wBr cI cZ cJ w_a q9 w' ++ wSy cI cZ cJ cu_a cu) t) (va_A (wSd cI cZ cJ sd_a w_a lk_v (wr_a 0) lk_rd (cu_a 0) lk_sp sd ++ wWr cI cZ cJ wr_a (pb_a 0) wr ++ wPb cI cZ cJ pb_a w_a lk_v pb ++ wBr cI cZ cJ w_a w_b w ++ wSy cI cZ cJ cu_a cu) sz)) (Br_byL w' - Br_byL w) (2 * (Br_byL w' - Br_byL w)) (va_A (wSd cI cZ cJ sd_a w_a lk_v (wr_a 0) lk_rd (cu_a 0) lk_sp sd ++ wWr cI cZ cJ wr_a (pb_a 0) wr ++ wPb cI cZ cJ pb_a w_a lk_v pb ++ wBr cI cZ cJ w_a w_b w ++ wSy cI cZ cJ cu_a cu) sz) := by
  refine Met.ofW (cc := c_SD_write) (maxL := 1) (ret := (some .int)) (by decide) rfl ?_
  intro p e s m args below meth c s₁ B hml hv
  obtain ⟨rfl, hsz, hP, hK, hD0, hN⟩ := hv
  have hr := B.returns
  have hlocks := B.notSynchronized
  subst hsz
  have hD := hD0.self (sz := s.heap.size)
  have hl := lv_entry ([.ref (sd_a 0)]) (n := 1) (Nat.le_of_ble_eq_true rfl)
  rw [lg_entry_eq]
  generalize (lg_sl ([.ref (sd_a 0)]) ++ List.replicate (1 - (lg_sl ([.ref (sd_a 0)])).length) Slot.unset).toArray = ls at hl ⊢
  refine B_P_SD_write (A := va_A (wSd cI cZ cJ sd_a w_a lk_v (wr_a 0) lk_rd (cu_a 0) lk_sp sd ++ wWr cI cZ cJ wr_a (pb_a 0) wr ++ wPb cI cZ cJ pb_a w_a lk_v pb ++ wBr cI cZ cJ w_a w_b w ++ wSy cI cZ cJ cu_a cu) s.heap.size) ⟨B.exec, B.bytes, hml, findClass_of_methodNamed B.named, fun w h => atoms_spec (ws := ws_SD_write) B.pre w (List.mem_cons_of_mem _ h), hK, fun q h => Or.inr h, Nat.le_of_ble_eq_true rfl, Nat.le_of_ble_eq_true rfl, hN, Nat.zero_le _, Nat.zero_le _⟩ ⟨Nat.le_refl _, Nat.le_refl _⟩ (fun H locs ls cells slots q9 v wr'1 pb'1 w'1 hg hP hD hS hf => ?_) ⟨Nat.le_refl _, Nat.zero_le _, Nat.zero_le _, Nat.zero_le _, Nat.zero_le _⟩ hP hD va_S.rf hl hf
  · cases hf
    refine W.widen (k := (Br_byL w' - Br_byL w)) (n := (2 * (Br_byL w' - Br_byL w))) hg.2.1 hg.2.2.1 ?_
    exact W.iret B.exec B.bytes hr (fun t ht hW => ⟨⟨_, q9, rfl, rfl, ⟨by rw [ht]; exact hP, va_K.moved hW.alike hK, hD⟩⟩, hS.F ht⟩) hS.2.2 d_SD_write_18

/-! C_SD_write -/
def f_C_SD_write (sd : Sd) (wr : Wr) (cb : Cb) (w : Br) (cu : Sy) : Option (Int32 × Wr × Cb × Br) := bd (f_C_Writer_tell wr cb w cu) <| fun (wr_1, cb_2, w_3) => some (Br_n w_3, wr_1, cb_2, w_3)
theorem mo_C_SD_write {sd : Sd} {wr : Wr} {cb : Cb} {w : Br} {cu : Sy} : mle (f_C_SD_write sd wr cb w cu) (Br_byL w) (fun r : Int32 × Wr × Cb × Br => Br_byL r.2.2.2) := by
  rw [f_C_SD_write]
  refine mle_bd (fun y9 hy9 => ?_)
  obtain ⟨wr_1, cb_2, w_3⟩ := y9
  try dsimp only
  refine mle_le (mo_C_Writer_tell _ hy9) ?_
  try dsimp only
  exact mle_some (Nat.le_refl _)
section
variable {p : Program} {l : Launch} {e : Env} {R : Room} {s : State} {m : MethodId} {args : Array Value} {below : List Frame} {meth : Method} {c : Code} {Q : State → Prop} {A : Nat → Prop}
set_option maxHeartbeats 4000000 in
set_option maxRecDepth 100000 in
theorem B_C_SD_write {cells slots : Nat} {l0 : Nat} {dC : Nat → ClassId} {dI : Nat → Nat → Nat} {cI cZ cJ : ClassId} {sd_a : Nat → Nat} {wr_a : Nat → Nat} {cb_a : Nat → Nat} {w_a : Nat} {cu_a : Nat → Nat} {lk_v : Nat} {lk_rd : Nat} {lk_sp : Nat} {w_b : Nat} {sd : Sd} {wr : Wr} {cb : Cb} {w : Br} {cu : Sy} {res : Int32 × Wr × Cb × Br} (C0 : cxt p c m s args R 0 0 R_SD c_SD_write tb 1 (dC, dI) vwCl (TYS cI cZ cJ) A 8 224) (hRc : gR l0 ((fun r : Int32 × Wr × Cb × Br => Br_byL r.2.2.2) res) R)
    (hr18 : ∀ (H : Heap) (locs : List Loc) (ls : Array Slot) (cells slots : Nat) (w_b : Nat) (v : Int32) (wr' : Wr) (cb' : Cb) (w' : Br), gok R l0 (Br_byL w') cells slots → va_P (dC, dI) vwCl (wSd cI cZ cJ sd_a w_a lk_v (wr_a 0) lk_rd (cu_a 0) lk_sp sd ++ wWr cI cZ cJ wr_a (cb_a 0) wr' ++ wCb cI cZ cJ cb_a w_a lk_v cb' ++ wBr cI cZ cJ w_a w_b w' ++ wSy cI cZ cJ cu_a cu) H → va_D A (wSd cI cZ cJ sd_a w_a lk_v (wr_a 0) lk_rd (cu_a 0) lk_sp sd ++ wWr cI cZ cJ wr_a (cb_a 0) wr' ++ wCb cI cZ cJ cb_a w_a lk_v cb' ++ wBr cI cZ cJ w_a w_b w' ++ wSy cI cZ cJ cu_a cu) → va_S A s.heap H locs → some (v, wr', cb', w') = some res → W p l e R s m args below meth c H locs cells slots Q (F0 m 18 ls [.int v]))
    {H : Heap} {locs : List Loc} {ls : Array Slot} (hg : gok R l0 (Br_byL w) cells slots) (hP : va_P (dC, dI) vwCl (wSd cI cZ cJ sd_a w_a lk_v (wr_a 0) lk_rd (cu_a 0) lk_sp sd ++ wWr cI cZ cJ wr_a (cb_a 0) wr ++ wCb cI cZ cJ cb_a w_a lk_v cb ++ wBr cI cZ cJ w_a w_b w ++ wSy cI cZ cJ cu_a cu) H) (hD : va_D A (wSd cI cZ cJ sd_a w_a lk_v (wr_a 0) lk_rd (cu_a 0) lk_sp sd ++ wWr cI cZ cJ wr_a (cb_a 0) wr ++ wCb cI cZ cJ cb_a w_a lk_v cb ++ wBr cI cZ cJ w_a w_b w ++ wSy cI cZ cJ cu_a cu)) (hS : va_S A s.heap H locs) (hl : lv_has ls 1 [(0, .ref (sd_a 0))]) (hf : f_C_SD_write sd wr cb w cu = some res) : W p l e R s m args below meth c H locs cells slots Q (F0 m 0 ls []) := by
  obtain ⟨hx, hb, hml, hown, hts, hK, hA, hRf, hRl, hN, _⟩ := id C0
  rw [f_C_SD_write] at hf
  refine lv_aload_n hx hb d_SD_write_0 rfl (lv_at hl 0 rfl) ?_
  refine va_get (D := (dC, dI)) (ci := 6) (v := .ref (wr_a 0)) (C := R_SD) (T := T_SD) (N := 7) hx hb hts in_SD hown hK hP 0 rfl rfl 3 (by decide) (hts _ t_261) (fun _ h9 => h9) rfl d_SD_write_1 ?_
  refine lv_aload_n hx hb d_SD_write_4 rfl (lv_at hl 0 rfl) ?_
  refine va_get (D := (dC, dI)) (ci := 6) (v := .ref (cu_a 0)) (C := R_SD) (T := T_SD) (N := 7) hx hb hts in_SD hown hK hP 0 rfl rfl 5 (by decide) (hts _ t_263) (fun _ h9 => h9) rfl d_SD_write_5 ?_
  obtain ⟨⟨wr_1, cb_2, w_3⟩, hf1, hf⟩ := bd_ex hf
  try dsimp only at hf
  have hm0 := mo_C_Writer_tell _ hf1
  try dsimp only at hm0
  have hm : Br_byL w_3 ≤ (fun r : Int32 × Wr × Cb × Br => Br_byL r.2.2.2) res := by
    refine mle_use (π := (fun r : Int32 × Wr × Cb × Br => Br_byL r.2.2.2)) hf ?_
    exact mle_some (Nat.le_refl _)
  have hPc := hP.sub (ws' := (wWr cI cZ cJ wr_a (cb_a 0) wr ++ wCb cI cZ cJ cb_a w_a lk_v cb ++ wBr cI cZ cJ w_a w_b w ++ wSy cI cZ cJ cu_a cu)) [1, 2, 3, 4, 5, 6, 7, 8, 9, 10, 11, 12, 13, 14, 15, 16, 17] rfl
  have hDc := hD.sub (ws' := (wWr cI cZ cJ wr_a (cb_a 0) wr ++ wCb cI cZ cJ cb_a w_a lk_v cb ++ wBr cI cZ cJ w_a w_b w ++ wSy cI cZ cJ cu_a cu)) [1, 2, 3, 4, 5, 6, 7, 8, 9, 10, 11, 12, 13, 14, 15, 16, 17] (by decide) rfl
  have hFc := va_free (wc := (wWr cI cZ cJ wr_a (cb_a 0) wr ++ wCb cI cZ cJ cb_a w_a lk_v cb ++ wBr cI cZ cJ w_a w_b w ++ wSy cI cZ cJ cu_a cu)) hD hS hA [1, 2, 3, 4, 5, 6, 7, 8, 9, 10, 11, 12, 13, 14, 15, 16, 17] rfl
  refine va_callv (va_runV (As := [.ref (cu_a 0)]) (rest := []) ⟨hx, hb, hml, hown, hts⟩ (k_C_Writer_tell l dC dI cI cZ cJ wr_a cb_a w_a w_b cu_a lk_v H.size hf1) (cwV 1 hts (gV t_284 t_285 t_286 t_60 t_287) rfl rfl rfl hd_Writer_tell ⟨Nat.le_trans (Nat.le_of_ble_eq_true rfl) hRf, Nat.le_trans (Nat.le_of_ble_eq_true rfl) hRl⟩) ⟨kP_blind, va_recv hK hP (ci := 4) (q0 := 1) rfl rfl, kP_at hPc hK hDc hN⟩ rfl rfl hl.1 rfl (lv_room (Nat.le_of_ble_eq_true rfl)) d_SD_write_8 (g_room hg hm0 hm hRc)) hS (fun q _ h => hFc q h) hFc (fun w_q_4 t H1 locs ht hvm hw hB hz1 hk1 hS => ?_)
  have hg := g_step (L0 := Br_byL w) (L1 := Br_byL w_3) hg hm0 hm hRc
  generalize cells + (Br_byL w_3 - Br_byL w) = cells at hg ⊢
  generalize slots + 2 * (Br_byL w_3 - Br_byL w) = slots at hg ⊢
  obtain ⟨hP, hD⟩ := kQ_join (wr := (wSd cI cZ cJ sd_a w_a lk_v (wr_a 0) lk_rd (cu_a 0) lk_sp sd)) (w1 := (wWr cI cZ cJ wr_a (cb_a 0) wr_1 ++ wCb cI cZ cJ cb_a w_a lk_v cb_2 ++ wBr cI cZ cJ w_a w_q_4 w_3 ++ wSy cI cZ cJ cu_a cu)) hP hD [1, 2, 3, 4, 5, 6, 7, 8, 9, 10, 11, 12, 13, 14, 15, 16, 17] [0] rfl rfl (by decide) (by decide) ht hk1 hFc hB
  generalize H1 = H at hP hS ⊢
  have hP : va_P (dC, dI) vwCl (wSd cI cZ cJ sd_a w_a lk_v (wr_a 0) lk_rd (cu_a 0) lk_sp sd ++ wWr cI cZ cJ wr_a (cb_a 0) wr_1 ++ wCb cI cZ cJ cb_a w_a lk_v cb_2 ++ wBr cI cZ cJ w_a w_q_4 w_3 ++ wSy cI cZ cJ cu_a cu) H := hP.sub [0, 1, 2, 3, 4, 5, 6, 7, 8, 9, 10, 11, 12, 13, 14, 15, 16, 17] rfl
  have hD : va_D A (wSd cI cZ cJ sd_a w_a lk_v (wr_a 0) lk_rd (cu_a 0) lk_sp sd ++ wWr cI cZ cJ wr_a (cb_a 0) wr_1 ++ wCb cI cZ cJ cb_a w_a lk_v cb_2 ++ wBr cI cZ cJ w_a w_q_4 w_3 ++ wSy cI cZ cJ cu_a cu) := hD.sub [0, 1, 2, 3, 4, 5, 6, 7, 8, 9, 10, 11, 12, 13, 14, 15, 16, 17] (by decide) rfl
  refine lv_aload_n hx hb d_SD_write_11 rfl (lv_at hl 0 rfl) ?_
  refine va_get (D := (dC, dI)) (ci := 6) (v := .ref w_a) (C := R_SD) (T := T_SD) (N := 7) hx hb hts in_SD hown hK hP 0 rfl rfl 1 (by decide) (hts _ t_259) (fun _ h9 => h9) rfl d_SD_write_12 ?_
  refine va_get (D := (dC, dI)) (ci := 1) (v := .int (Br_n w_3)) (C := R_ByteRow) (T := T_ByteRow) (N := 3) hx hb hts in_ByteRow hown hK hP 6 rfl rfl 1 (by decide) (hts _ t_97) (fun _ h9 => h9) rfl d_SD_write_15 ?_
  exact hr18 _ _ _ _ _ _ (Br_n w_3) wr_1 cb_2 w_3 hg hP hD hS hf
end
set_option maxHeartbeats 4000000 in
set_option maxRecDepth 100000 in
theorem k_C_SD_write (l : Launch) (dC : Nat → ClassId) (dI : Nat → Nat → Nat) (cI cZ cJ : ClassId) (sd_a : Nat → Nat) (wr_a : Nat → Nat) (cb_a : Nat → Nat) (w_a w_b : Nat) (cu_a : Nat → Nat) (lk_v : Nat) (lk_rd : Nat) (lk_sp : Nat) (sz : Nat) {sd : Sd} {wr : Wr} {cb : Cb} {w : Br} {cu : Sy} {r : Int32} {wr' : Wr} {cb' : Cb} {w' : Br} (hf : f_C_SD_write sd wr cb w cu = some (r, wr', cb', w')) :
    Met l y_SD_write ws_SD_write ({ frames := 8, cells := (Br_byL w' - Br_byL w), slots := (2 * (Br_byL w' - Br_byL w)), locals := 224 }) (va_Pc [.ref (sd_a 0)] (kP (dC, dI) vwCl (TYS cI cZ cJ) (wSd cI cZ cJ sd_a w_a lk_v (wr_a 0) lk_rd (cu_a 0) lk_sp sd ++ wWr cI cZ cJ wr_a (cb_a 0) wr ++ wCb cI cZ cJ cb_a w_a lk_v cb ++ wBr cI cZ cJ w_a w_b w ++ wSy cI cZ cJ cu_a cu) sz)) (va_Qi (fun (q : Int32) (_ : Nat) => q = r) (fun q9 t => kQ (dC, dI) vwCl (TYS cI cZ cJ) (wSd cI cZ cJ sd_a w_a lk_v (wr_a 0) lk_rd (cu_a 0) lk_sp sd ++ wWr cI cZ cJ wr_a (cb_a 0) wr ++ wCb cI cZ cJ cb_a w_a lk_v cb ++ wBr cI cZ cJ w_a w_b w ++ wSy cI cZ cJ cu_a cu) sz (wSd cI cZ cJ sd_a w_a lk_v (wr_a 0) lk_rd (cu_a 0) lk_sp sd ++ wWr cI cZ cJ wr_a (cb_a 0) wr' ++ wCb cI cZ cJ cb_a w_a lk_v cb' ++ wBr cI cZ cJ w_a q9 w' ++ wSy cI cZ cJ cu_a cu) t) (va_A (wSd cI cZ cJ sd_a w_a lk_v (wr_a 0) lk_rd (cu_a 0) lk_sp sd ++ wWr cI cZ cJ wr_a (cb_a 0) wr ++ wCb cI cZ cJ cb_a w_a lk_v cb ++ wBr cI cZ cJ w_a w_b w ++ wSy cI cZ cJ cu_a cu) sz)) (Br_byL w' - Br_byL w) (2 * (Br_byL w' - Br_byL w)) (va_A (wSd cI cZ cJ sd_a w_a lk_v (wr_a 0) lk_rd (cu_a 0) lk_sp sd ++ wWr cI cZ cJ wr_a (cb_a 0) wr ++ wCb cI cZ cJ cb_a w_a lk_v cb ++ wBr cI cZ cJ w_a w_b w ++ wSy cI cZ cJ cu_a cu) sz) := by
  refine Met.ofW (cc := c_SD_write) (maxL := 1) (ret := (some .int)) (by decide) rfl ?_
  intro p e s m args below meth c s₁ B hml hv
  obtain ⟨rfl, hsz, hP, hK, hD0, hN⟩ := hv
  have hr := B.returns
  have hlocks := B.notSynchronized
  subst hsz
  have hD := hD0.self (sz := s.heap.size)
  have hl := lv_entry ([.ref (sd_a 0)]) (n := 1) (Nat.le_of_ble_eq_true rfl)
  rw [lg_entry_eq]
  generalize (lg_sl ([.ref (sd_a 0)]) ++ List.replicate (1 - (lg_sl ([.ref (sd_a 0)])).length) Slot.unset).toArray = ls at hl ⊢
  refine B_C_SD_write (A := va_A (wSd cI cZ cJ sd_a w_a lk_v (wr_a 0) lk_rd (cu_a 0) lk_sp sd ++ wWr cI cZ cJ wr_a (cb_a 0) wr ++ wCb cI cZ cJ cb_a w_a lk_v cb ++ wBr cI cZ cJ w_a w_b w ++ wSy cI cZ cJ cu_a cu) s.heap.size) ⟨B.exec, B.bytes, hml, findClass_of_methodNamed B.named, fun w h => atoms_spec (ws := ws_SD_write) B.pre w (List.mem_cons_of_mem _ h), hK, fun q h => Or.inr h, Nat.le_of_ble_eq_true rfl, Nat.le_of_ble_eq_true rfl, hN, Nat.zero_le _, Nat.zero_le _⟩ ⟨Nat.le_refl _, Nat.le_refl _⟩ (fun H locs ls cells slots q9 v wr'1 cb'1 w'1 hg hP hD hS hf => ?_) ⟨Nat.le_refl _, Nat.zero_le _, Nat.zero_le _, Nat.zero_le _, Nat.zero_le _⟩ hP hD va_S.rf hl hf
  · cases hf
    refine W.widen (k := (Br_byL w' - Br_byL w)) (n := (2 * (Br_byL w' - Br_byL w))) hg.2.1 hg.2.2.1 ?_
    exact W.iret B.exec B.bytes hr (fun t ht hW => ⟨⟨_, q9, rfl, rfl, ⟨by rw [ht]; exact hP, va_K.moved hW.alike hK, hD⟩⟩, hS.F ht⟩) hS.2.2 d_SD_write_18

