theorem t_846 : (.fieldLink R_Model 92 "SymbolDictionariesModel" "low" "J" : Cond) ∈ tb := List.mem_filter.mpr ⟨List.mem_of_getElem? (i := 846) (by decide +kernel), by decide +kernel⟩
theorem t_847 : (.fieldLink R_Model 98 "SymbolDictionariesModel" "high" "J" : Cond) ∈ tb := List.mem_filter.mpr ⟨List.mem_of_getElem? (i := 847) (by decide +kernel), by decide +kernel⟩
theorem t_845 : (.fieldLink R_Model 50 "SymbolDictionariesModel" "chances" "[I" : Cond) ∈ tb := List.mem_filter.mpr ⟨List.mem_of_getElem? (i := 845) (by decide +kernel), by decide +kernel⟩
theorem t_841 : (.fieldLink R_Model 44 "SymbolDictionariesModel" "out" "[I" : Cond) ∈ tb := List.mem_filter.mpr ⟨List.mem_of_getElem? (i := 841) (by decide +kernel), by decide +kernel⟩
theorem t_839 : (.fieldLink R_Model 102 "SymbolDictionariesModel" "outSize" "I" : Cond) ∈ tb := List.mem_filter.mpr ⟨List.mem_of_getElem? (i := 839) (by decide +kernel), by decide +kernel⟩
theorem t_825 : (.fieldLink R_Model 56 "SymbolDictionariesModel" "kind" "I" : Cond) ∈ tb := List.mem_filter.mpr ⟨List.mem_of_getElem? (i := 825) (by decide +kernel), by decide +kernel⟩
theorem t_990 : (.methodLink R_Model 116 y_Model_splitBy : Cond) ∈ tb := List.mem_filter.mpr ⟨List.mem_of_getElem? (i := 990) (by decide +kernel), by decide +kernel⟩
theorem t_992 : (.instanceMethod y_Model_splitBy : Cond) ∈ tb := List.mem_filter.mpr ⟨List.mem_of_getElem? (i := 992) (by decide +kernel), by decide +kernel⟩
theorem t_34 : (.selects R_Model y_Model_splitBy y_Model_splitBy : Cond) ∈ tb := List.mem_filter.mpr ⟨List.mem_of_getElem? (i := 34) (by decide +kernel), by decide +kernel⟩
theorem t_993 : (.code y_Model_splitBy c_Model_splitBy 2 (some .long) : Cond) ∈ tb := List.mem_filter.mpr ⟨List.mem_of_getElem? (i := 993) (by decide +kernel), by decide +kernel⟩
theorem t_995 : (.methodLink R_Model 120 y_Model_isShared : Cond) ∈ tb := List.mem_filter.mpr ⟨List.mem_of_getElem? (i := 995) (by decide +kernel), by decide +kernel⟩
theorem t_997 : (.instanceMethod y_Model_isShared : Cond) ∈ tb := List.mem_filter.mpr ⟨List.mem_of_getElem? (i := 997) (by decide +kernel), by decide +kernel⟩
theorem t_35 : (.selects R_Model y_Model_isShared y_Model_isShared : Cond) ∈ tb := List.mem_filter.mpr ⟨List.mem_of_getElem? (i := 35) (by decide +kernel), by decide +kernel⟩
theorem t_998 : (.code y_Model_isShared c_Model_isShared 1 (some .boolean) : Cond) ∈ tb := List.mem_filter.mpr ⟨List.mem_of_getElem? (i := 998) (by decide +kernel), by decide +kernel⟩
theorem t_986 : (.methodLink R_Model 112 y_Model_outByte : Cond) ∈ tb := List.mem_filter.mpr ⟨List.mem_of_getElem? (i := 986) (by decide +kernel), by decide +kernel⟩
theorem t_988 : (.instanceMethod y_Model_outByte : Cond) ∈ tb := List.mem_filter.mpr ⟨List.mem_of_getElem? (i := 988) (by decide +kernel), by decide +kernel⟩
theorem t_33 : (.selects R_Model y_Model_outByte y_Model_outByte : Cond) ∈ tb := List.mem_filter.mpr ⟨List.mem_of_getElem? (i := 33) (by decide +kernel), by decide +kernel⟩
theorem t_989 : (.code y_Model_outByte c_Model_outByte 3 none : Cond) ∈ tb := List.mem_filter.mpr ⟨List.mem_of_getElem? (i := 989) (by decide +kernel), by decide +kernel⟩
theorem t_999 : (.methodLink R_Model 124 y_Model_shift : Cond) ∈ tb := List.mem_filter.mpr ⟨List.mem_of_getElem? (i := 999) (by decide +kernel), by decide +kernel⟩
theorem t_1001 : (.instanceMethod y_Model_shift : Cond) ∈ tb := List.mem_filter.mpr ⟨List.mem_of_getElem? (i := 1001) (by decide +kernel), by decide +kernel⟩
theorem t_36 : (.selects R_Model y_Model_shift y_Model_shift : Cond) ∈ tb := List.mem_filter.mpr ⟨List.mem_of_getElem? (i := 36) (by decide +kernel), by decide +kernel⟩
theorem t_1002 : (.code y_Model_shift c_Model_shift 1 none : Cond) ∈ tb := List.mem_filter.mpr ⟨List.mem_of_getElem? (i := 1002) (by decide +kernel), by decide +kernel⟩
theorem t_840 : (.fieldLink R_Model 109 "SymbolDictionariesModel" "outBits" "I" : Cond) ∈ tb := List.mem_filter.mpr ⟨List.mem_of_getElem? (i := 840) (by decide +kernel), by decide +kernel⟩
theorem t_843 : (.fieldLink R_Model 127 "SymbolDictionariesModel" "inAt" "I" : Cond) ∈ tb := List.mem_filter.mpr ⟨List.mem_of_getElem? (i := 843) (by decide +kernel), by decide +kernel⟩
theorem t_842 : (.fieldLink R_Model 130 "SymbolDictionariesModel" "inSize" "I" : Cond) ∈ tb := List.mem_filter.mpr ⟨List.mem_of_getElem? (i := 842) (by decide +kernel), by decide +kernel⟩
theorem t_844 : (.fieldLink R_Model 47 "SymbolDictionariesModel" "in" "[I" : Cond) ∈ tb := List.mem_filter.mpr ⟨List.mem_of_getElem? (i := 844) (by decide +kernel), by decide +kernel⟩
theorem t_848 : (.fieldLink R_Model 133 "SymbolDictionariesModel" "taken" "J" : Cond) ∈ tb := List.mem_filter.mpr ⟨List.mem_of_getElem? (i := 848) (by decide +kernel), by decide +kernel⟩
theorem t_1051 : (.methodLink R_Model 136 y_Model_inByte : Cond) ∈ tb := List.mem_filter.mpr ⟨List.mem_of_getElem? (i := 1051) (by decide +kernel), by decide +kernel⟩
theorem t_1053 : (.instanceMethod y_Model_inByte : Cond) ∈ tb := List.mem_filter.mpr ⟨List.mem_of_getElem? (i := 1053) (by decide +kernel), by decide +kernel⟩
theorem t_44 : (.selects R_Model y_Model_inByte y_Model_inByte : Cond) ∈ tb := List.mem_filter.mpr ⟨List.mem_of_getElem? (i := 44) (by decide +kernel), by decide +kernel⟩
theorem t_1054 : (.code y_Model_inByte c_Model_inByte 2 (some .int) : Cond) ∈ tb := List.mem_filter.mpr ⟨List.mem_of_getElem? (i := 1054) (by decide +kernel), by decide +kernel⟩
theorem t_982 : (.methodLink R_Model 140 y_Model_emit : Cond) ∈ tb := List.mem_filter.mpr ⟨List.mem_of_getElem? (i := 982) (by decide +kernel), by decide +kernel⟩
theorem t_984 : (.instanceMethod y_Model_emit : Cond) ∈ tb := List.mem_filter.mpr ⟨List.mem_of_getElem? (i := 984) (by decide +kernel), by decide +kernel⟩
theorem t_32 : (.selects R_Model y_Model_emit y_Model_emit : Cond) ∈ tb := List.mem_filter.mpr ⟨List.mem_of_getElem? (i := 32) (by decide +kernel), by decide +kernel⟩
theorem t_985 : (.code y_Model_emit c_Model_emit 5 none : Cond) ∈ tb := List.mem_filter.mpr ⟨List.mem_of_getElem? (i := 985) (by decide +kernel), by decide +kernel⟩
theorem t_1059 : (.methodLink R_Model 144 y_Model_take : Cond) ∈ tb := List.mem_filter.mpr ⟨List.mem_of_getElem? (i := 1059) (by decide +kernel), by decide +kernel⟩
theorem t_1061 : (.instanceMethod y_Model_take : Cond) ∈ tb := List.mem_filter.mpr ⟨List.mem_of_getElem? (i := 1061) (by decide +kernel), by decide +kernel⟩
theorem t_46 : (.selects R_Model y_Model_take y_Model_take : Cond) ∈ tb := List.mem_filter.mpr ⟨List.mem_of_getElem? (i := 46) (by decide +kernel), by decide +kernel⟩
theorem t_1062 : (.code y_Model_take c_Model_take 5 (some .int) : Cond) ∈ tb := List.mem_filter.mpr ⟨List.mem_of_getElem? (i := 1062) (by decide +kernel), by decide +kernel⟩
theorem t_978 : (.methodLink R_Model 147 y_Model_emitBits : Cond) ∈ tb := List.mem_filter.mpr ⟨List.mem_of_getElem? (i := 978) (by decide +kernel), by decide +kernel⟩
theorem t_980 : (.instanceMethod y_Model_emitBits : Cond) ∈ tb := List.mem_filter.mpr ⟨List.mem_of_getElem? (i := 980) (by decide +kernel), by decide +kernel⟩
theorem t_31 : (.selects R_Model y_Model_emitBits y_Model_emitBits : Cond) ∈ tb := List.mem_filter.mpr ⟨List.mem_of_getElem? (i := 31) (by decide +kernel), by decide +kernel⟩
theorem t_981 : (.code y_Model_emitBits c_Model_emitBits 4 none : Cond) ∈ tb := List.mem_filter.mpr ⟨List.mem_of_getElem? (i := 981) (by decide +kernel), by decide +kernel⟩
theorem t_1063 : (.methodLink R_Model 153 y_Model_takeBits : Cond) ∈ tb := List.mem_filter.mpr ⟨List.mem_of_getElem? (i := 1063) (by decide +kernel), by decide +kernel⟩
theorem t_1065 : (.instanceMethod y_Model_takeBits : Cond) ∈ tb := List.mem_filter.mpr ⟨List.mem_of_getElem? (i := 1065) (by decide +kernel), by decide +kernel⟩
theorem t_47 : (.selects R_Model y_Model_takeBits y_Model_takeBits : Cond) ∈ tb := List.mem_filter.mpr ⟨List.mem_of_getElem? (i := 47) (by decide +kernel), by decide +kernel⟩
theorem t_1066 : (.code y_Model_takeBits c_Model_takeBits 4 (some .int) : Cond) ∈ tb := List.mem_filter.mpr ⟨List.mem_of_getElem? (i := 1066) (by decide +kernel), by decide +kernel⟩
theorem t_850 : (.fieldLink R_Model 150 "SymbolDictionariesModel" "why" "I" : Cond) ∈ tb := List.mem_filter.mpr ⟨List.mem_of_getElem? (i := 850) (by decide +kernel), by decide +kernel⟩
theorem t_849 : (.fieldLink R_Model 53 "SymbolDictionariesModel" "plane" "[I" : Cond) ∈ tb := List.mem_filter.mpr ⟨List.mem_of_getElem? (i := 849) (by decide +kernel), by decide +kernel⟩
theorem t_1016 : (.methodLink R_Model 156 y_Model_planeAt : Cond) ∈ tb := List.mem_filter.mpr ⟨List.mem_of_getElem? (i := 1016) (by decide +kernel), by decide +kernel⟩
theorem t_1018 : (.instanceMethod y_Model_planeAt : Cond) ∈ tb := List.mem_filter.mpr ⟨List.mem_of_getElem? (i := 1018) (by decide +kernel), by decide +kernel⟩
theorem t_40 : (.selects R_Model y_Model_planeAt y_Model_planeAt : Cond) ∈ tb := List.mem_filter.mpr ⟨List.mem_of_getElem? (i := 40) (by decide +kernel), by decide +kernel⟩
theorem t_1019 : (.code y_Model_planeAt c_Model_planeAt 4 (some .int) : Cond) ∈ tb := List.mem_filter.mpr ⟨List.mem_of_getElem? (i := 1019) (by decide +kernel), by decide +kernel⟩
abbrev ws_Model_beginBits : List Cond := .code y_Model_beginBits c_Model_beginBits 2 none :: tb
theorem hd_Model_beginBits : y_Model_beginBits.cls = R_Model ∧ y_Model_beginBits.cls ≠ "java/lang/invoke/MethodHandle" ∧ y_Model_beginBits.cls ≠ "java/lang/invoke/VarHandle" ∧ (parseMethodDescriptor y_Model_beginBits.desc).map (fun d => d.parameters.length) = some 0 := by decide +kernel
theorem d_Model_beginBits_0 : decode c_Model_beginBits 0 = .ok (.aload_n 0, 1) := by decide +kernel
theorem d_Model_beginBits_1 : decode c_Model_beginBits 1 = .ok (.lconst 0, 1) := by decide +kernel
theorem d_Model_beginBits_2 : decode c_Model_beginBits 2 = .ok (.putfield 92, 3) := by decide +kernel
theorem d_Model_beginBits_5 : decode c_Model_beginBits 5 = .ok (.aload_n 0, 1) := by decide +kernel
theorem d_Model_beginBits_6 : decode c_Model_beginBits 6 = .ok (.ldc2_w 96, 3) := by decide +kernel
theorem d_Model_beginBits_9 : decode c_Model_beginBits 9 = .ok (.putfield 98, 3) := by decide +kernel
theorem d_Model_beginBits_12 : decode c_Model_beginBits 12 = .ok (.iconst 0, 1) := by decide +kernel
theorem d_Model_beginBits_13 : decode c_Model_beginBits 13 = .ok (.istore_n 1, 1) := by decide +kernel
theorem d_Model_beginBits_14 : decode c_Model_beginBits 14 = .ok (.iload_n 1, 1) := by decide +kernel
theorem d_Model_beginBits_15 : decode c_Model_beginBits 15 = .ok (.bipush 32, 2) := by decide +kernel
theorem d_Model_beginBits_17 : decode c_Model_beginBits 17 = .ok (.if_icmp .ge 17, 3) := by decide +kernel
theorem d_Model_beginBits_20 : decode c_Model_beginBits 20 = .ok (.aload_n 0, 1) := by decide +kernel
theorem d_Model_beginBits_21 : decode c_Model_beginBits 21 = .ok (.getfield 50, 3) := by decide +kernel
theorem d_Model_beginBits_24 : decode c_Model_beginBits 24 = .ok (.iload_n 1, 1) := by decide +kernel
theorem d_Model_beginBits_25 : decode c_Model_beginBits 25 = .ok (.ldc 101, 2) := by decide +kernel
theorem d_Model_beginBits_27 : decode c_Model_beginBits 27 = .ok (.iastore, 1) := by decide +kernel
theorem d_Model_beginBits_28 : decode c_Model_beginBits 28 = .ok (.iinc 1 1, 3) := by decide +kernel
theorem d_Model_beginBits_31 : decode c_Model_beginBits 31 = .ok (.goto (-17), 3) := by decide +kernel
theorem d_Model_beginBits_34 : decode c_Model_beginBits 34 = .ok (.return_, 1) := by decide +kernel
abbrev ws_Model_outByte : List Cond := .code y_Model_outByte c_Model_outByte 3 none :: tb
theorem hd_Model_outByte : y_Model_outByte.cls = R_Model ∧ y_Model_outByte.cls ≠ "java/lang/invoke/MethodHandle" ∧ y_Model_outByte.cls ≠ "java/lang/invoke/VarHandle" ∧ (parseMethodDescriptor y_Model_outByte.desc).map (fun d => d.parameters.length) = some 1 := by decide +kernel
theorem d_Model_outByte_0 : decode c_Model_outByte 0 = .ok (.aload_n 0, 1) := by decide +kernel
theorem d_Model_outByte_1 : decode c_Model_outByte 1 = .ok (.getfield 44, 3) := by decide +kernel
theorem d_Model_outByte_4 : decode c_Model_outByte 4 = .ok (.aload_n 0, 1) := by decide +kernel
theorem d_Model_outByte_5 : decode c_Model_outByte 5 = .ok (.getfield 102, 3) := by decide +kernel
theorem d_Model_outByte_8 : decode c_Model_outByte 8 = .ok (.lload_n 1, 1) := by decide +kernel
theorem d_Model_outByte_9 : decode c_Model_outByte 9 = .ok (.l2i, 1) := by decide +kernel
theorem d_Model_outByte_10 : decode c_Model_outByte 10 = .ok (.sipush 255, 3) := by decide +kernel
theorem d_Model_outByte_13 : decode c_Model_outByte 13 = .ok (.iand, 1) := by decide +kernel
theorem d_Model_outByte_14 : decode c_Model_outByte 14 = .ok (.iastore, 1) := by decide +kernel
theorem d_Model_outByte_15 : decode c_Model_outByte 15 = .ok (.aload_n 0, 1) := by decide +kernel
theorem d_Model_outByte_16 : decode c_Model_outByte 16 = .ok (.dup, 1) := by decide +kernel
theorem d_Model_outByte_17 : decode c_Model_outByte 17 = .ok (.getfield 102, 3) := by decide +kernel
theorem d_Model_outByte_20 : decode c_Model_outByte 20 = .ok (.iconst 1, 1) := by decide +kernel
theorem d_Model_outByte_21 : decode c_Model_outByte 21 = .ok (.iadd, 1) := by decide +kernel
theorem d_Model_outByte_22 : decode c_Model_outByte 22 = .ok (.putfield 102, 3) := by decide +kernel
theorem d_Model_outByte_25 : decode c_Model_outByte 25 = .ok (.return_, 1) := by decide +kernel
abbrev ws_Model_splitBy : List Cond := .code y_Model_splitBy c_Model_splitBy 2 (some .long) :: tb
theorem hd_Model_splitBy : y_Model_splitBy.cls = R_Model ∧ y_Model_splitBy.cls ≠ "java/lang/invoke/MethodHandle" ∧ y_Model_splitBy.cls ≠ "java/lang/invoke/VarHandle" ∧ (parseMethodDescriptor y_Model_splitBy.desc).map (fun d => d.parameters.length) = some 1 := by decide +kernel
theorem d_Model_splitBy_0 : decode c_Model_splitBy 0 = .ok (.aload_n 0, 1) := by decide +kernel
theorem d_Model_splitBy_1 : decode c_Model_splitBy 1 = .ok (.getfield 92, 3) := by decide +kernel
theorem d_Model_splitBy_4 : decode c_Model_splitBy 4 = .ok (.aload_n 0, 1) := by decide +kernel
theorem d_Model_splitBy_5 : decode c_Model_splitBy 5 = .ok (.getfield 98, 3) := by decide +kernel
theorem d_Model_splitBy_8 : decode c_Model_splitBy 8 = .ok (.aload_n 0, 1) := by decide +kernel
theorem d_Model_splitBy_9 : decode c_Model_splitBy 9 = .ok (.getfield 92, 3) := by decide +kernel
theorem d_Model_splitBy_12 : decode c_Model_splitBy 12 = .ok (.lsub, 1) := by decide +kernel
theorem d_Model_splitBy_13 : decode c_Model_splitBy 13 = .ok (.iload_n 1, 1) := by decide +kernel
theorem d_Model_splitBy_14 : decode c_Model_splitBy 14 = .ok (.i2l, 1) := by decide +kernel
theorem d_Model_splitBy_15 : decode c_Model_splitBy 15 = .ok (.lmul, 1) := by decide +kernel
theorem d_Model_splitBy_16 : decode c_Model_splitBy 16 = .ok (.ldc2_w 105, 3) := by decide +kernel
theorem d_Model_splitBy_19 : decode c_Model_splitBy 19 = .ok (.ldiv, 1) := by decide +kernel
theorem d_Model_splitBy_20 : decode c_Model_splitBy 20 = .ok (.ladd, 1) := by decide +kernel
theorem d_Model_splitBy_21 : decode c_Model_splitBy 21 = .ok (.lreturn, 1) := by decide +kernel
abbrev ws_Model_isShared : List Cond := .code y_Model_isShared c_Model_isShared 1 (some .boolean) :: tb
theorem hd_Model_isShared : y_Model_isShared.cls = R_Model ∧ y_Model_isShared.cls ≠ "java/lang/invoke/MethodHandle" ∧ y_Model_isShared.cls ≠ "java/lang/invoke/VarHandle" ∧ (parseMethodDescriptor y_Model_isShared.desc).map (fun d => d.parameters.length) = some 0 := by decide +kernel
theorem d_Model_isShared_0 : decode c_Model_isShared 0 = .ok (.aload_n 0, 1) := by decide +kernel
theorem d_Model_isShared_1 : decode c_Model_isShared 1 = .ok (.getfield 92, 3) := by decide +kernel
theorem d_Model_isShared_4 : decode c_Model_isShared 4 = .ok (.bipush 24, 2) := by decide +kernel
theorem d_Model_isShared_6 : decode c_Model_isShared 6 = .ok (.lshr, 1) := by decide +kernel
theorem d_Model_isShared_7 : decode c_Model_isShared 7 = .ok (.aload_n 0, 1) := by decide +kernel
theorem d_Model_isShared_8 : decode c_Model_isShared 8 = .ok (.getfield 98, 3) := by decide +kernel
theorem d_Model_isShared_11 : decode c_Model_isShared 11 = .ok (.bipush 24, 2) := by decide +kernel
theorem d_Model_isShared_13 : decode c_Model_isShared 13 = .ok (.lshr, 1) := by decide +kernel
theorem d_Model_isShared_14 : decode c_Model_isShared 14 = .ok (.lcmp, 1) := by decide +kernel
theorem d_Model_isShared_15 : decode c_Model_isShared 15 = .ok (.ifCond .ne 7, 3) := by decide +kernel
theorem d_Model_isShared_18 : decode c_Model_isShared 18 = .ok (.iconst 1, 1) := by decide +kernel
theorem d_Model_isShared_19 : decode c_Model_isShared 19 = .ok (.goto 4, 3) := by decide +kernel
theorem d_Model_isShared_22 : decode c_Model_isShared 22 = .ok (.iconst 0, 1) := by decide +kernel
theorem d_Model_isShared_23 : decode c_Model_isShared 23 = .ok (.ireturn, 1) := by decide +kernel
abbrev ws_Model_shift : List Cond := .code y_Model_shift c_Model_shift 1 none :: tb
theorem hd_Model_shift : y_Model_shift.cls = R_Model ∧ y_Model_shift.cls ≠ "java/lang/invoke/MethodHandle" ∧ y_Model_shift.cls ≠ "java/lang/invoke/VarHandle" ∧ (parseMethodDescriptor y_Model_shift.desc).map (fun d => d.parameters.length) = some 0 := by decide +kernel
theorem d_Model_shift_0 : decode c_Model_shift 0 = .ok (.aload_n 0, 1) := by decide +kernel
theorem d_Model_shift_1 : decode c_Model_shift 1 = .ok (.aload_n 0, 1) := by decide +kernel
theorem d_Model_shift_2 : decode c_Model_shift 2 = .ok (.getfield 92, 3) := by decide +kernel
theorem d_Model_shift_5 : decode c_Model_shift 5 = .ok (.bipush 8, 2) := by decide +kernel
theorem d_Model_shift_7 : decode c_Model_shift 7 = .ok (.lshl, 1) := by decide +kernel
theorem d_Model_shift_8 : decode c_Model_shift 8 = .ok (.ldc2_w 96, 3) := by decide +kernel
theorem d_Model_shift_11 : decode c_Model_shift 11 = .ok (.land, 1) := by decide +kernel
theorem d_Model_shift_12 : decode c_Model_shift 12 = .ok (.putfield 92, 3) := by decide +kernel
theorem d_Model_shift_15 : decode c_Model_shift 15 = .ok (.aload_n 0, 1) := by decide +kernel
theorem d_Model_shift_16 : decode c_Model_shift 16 = .ok (.aload_n 0, 1) := by decide +kernel
theorem d_Model_shift_17 : decode c_Model_shift 17 = .ok (.getfield 98, 3) := by decide +kernel
theorem d_Model_shift_20 : decode c_Model_shift 20 = .ok (.bipush 8, 2) := by decide +kernel
theorem d_Model_shift_22 : decode c_Model_shift 22 = .ok (.lshl, 1) := by decide +kernel
theorem d_Model_shift_23 : decode c_Model_shift 23 = .ok (.ldc2_w 96, 3) := by decide +kernel
theorem d_Model_shift_26 : decode c_Model_shift 26 = .ok (.land, 1) := by decide +kernel
theorem d_Model_shift_27 : decode c_Model_shift 27 = .ok (.ldc2_w 107, 3) := by decide +kernel
theorem d_Model_shift_30 : decode c_Model_shift 30 = .ok (.lor, 1) := by decide +kernel
theorem d_Model_shift_31 : decode c_Model_shift 31 = .ok (.putfield 98, 3) := by decide +kernel
theorem d_Model_shift_34 : decode c_Model_shift 34 = .ok (.return_, 1) := by decide +kernel
abbrev ws_Model_emit : List Cond := .code y_Model_emit c_Model_emit 5 none :: tb
theorem hd_Model_emit : y_Model_emit.cls = R_Model ∧ y_Model_emit.cls ≠ "java/lang/invoke/MethodHandle" ∧ y_Model_emit.cls ≠ "java/lang/invoke/VarHandle" ∧ (parseMethodDescriptor y_Model_emit.desc).map (fun d => d.parameters.length) = some 2 := by decide +kernel
theorem d_Model_emit_0 : decode c_Model_emit 0 = .ok (.aload_n 0, 1) := by decide +kernel
theorem d_Model_emit_1 : decode c_Model_emit 1 = .ok (.getfield 56, 3) := by decide +kernel
theorem d_Model_emit_4 : decode c_Model_emit 4 = .ok (.iconst 2, 1) := by decide +kernel
theorem d_Model_emit_5 : decode c_Model_emit 5 = .ok (.if_icmp .ge 55, 3) := by decide +kernel
theorem d_Model_emit_8 : decode c_Model_emit 8 = .ok (.aload_n 0, 1) := by decide +kernel
theorem d_Model_emit_9 : decode c_Model_emit 9 = .ok (.getfield 109, 3) := by decide +kernel
theorem d_Model_emit_12 : decode c_Model_emit 12 = .ok (.bipush 8, 2) := by decide +kernel
theorem d_Model_emit_14 : decode c_Model_emit 14 = .ok (.irem, 1) := by decide +kernel
theorem d_Model_emit_15 : decode c_Model_emit 15 = .ok (.ifCond .ne 8, 3) := by decide +kernel
theorem d_Model_emit_18 : decode c_Model_emit 18 = .ok (.aload_n 0, 1) := by decide +kernel
theorem d_Model_emit_19 : decode c_Model_emit 19 = .ok (.lconst 0, 1) := by decide +kernel
theorem d_Model_emit_20 : decode c_Model_emit 20 = .ok (.invokevirtual 112, 3) := by decide +kernel
theorem d_Model_emit_23 : decode c_Model_emit 23 = .ok (.aload_n 0, 1) := by decide +kernel
theorem d_Model_emit_24 : decode c_Model_emit 24 = .ok (.getfield 44, 3) := by decide +kernel
theorem d_Model_emit_27 : decode c_Model_emit 27 = .ok (.aload_n 0, 1) := by decide +kernel
theorem d_Model_emit_28 : decode c_Model_emit 28 = .ok (.getfield 102, 3) := by decide +kernel
theorem d_Model_emit_31 : decode c_Model_emit 31 = .ok (.iconst 1, 1) := by decide +kernel
theorem d_Model_emit_32 : decode c_Model_emit 32 = .ok (.isub, 1) := by decide +kernel
theorem d_Model_emit_33 : decode c_Model_emit 33 = .ok (.dup2, 1) := by decide +kernel
theorem d_Model_emit_34 : decode c_Model_emit 34 = .ok (.iaload, 1) := by decide +kernel
theorem d_Model_emit_35 : decode c_Model_emit 35 = .ok (.iload_n 1, 1) := by decide +kernel
theorem d_Model_emit_36 : decode c_Model_emit 36 = .ok (.bipush 7, 2) := by decide +kernel
theorem d_Model_emit_38 : decode c_Model_emit 38 = .ok (.aload_n 0, 1) := by decide +kernel
theorem d_Model_emit_39 : decode c_Model_emit 39 = .ok (.getfield 109, 3) := by decide +kernel
theorem d_Model_emit_42 : decode c_Model_emit 42 = .ok (.bipush 8, 2) := by decide +kernel
theorem d_Model_emit_44 : decode c_Model_emit 44 = .ok (.irem, 1) := by decide +kernel
theorem d_Model_emit_45 : decode c_Model_emit 45 = .ok (.isub, 1) := by decide +kernel
theorem d_Model_emit_46 : decode c_Model_emit 46 = .ok (.ishl, 1) := by decide +kernel
theorem d_Model_emit_47 : decode c_Model_emit 47 = .ok (.ior, 1) := by decide +kernel
theorem d_Model_emit_48 : decode c_Model_emit 48 = .ok (.iastore, 1) := by decide +kernel
theorem d_Model_emit_49 : decode c_Model_emit 49 = .ok (.aload_n 0, 1) := by decide +kernel
theorem d_Model_emit_50 : decode c_Model_emit 50 = .ok (.dup, 1) := by decide +kernel
theorem d_Model_emit_51 : decode c_Model_emit 51 = .ok (.getfield 109, 3) := by decide +kernel
theorem d_Model_emit_54 : decode c_Model_emit 54 = .ok (.iconst 1, 1) := by decide +kernel
theorem d_Model_emit_55 : decode c_Model_emit 55 = .ok (.iadd, 1) := by decide +kernel
theorem d_Model_emit_56 : decode c_Model_emit 56 = .ok (.putfield 109, 3) := by decide +kernel
theorem d_Model_emit_59 : decode c_Model_emit 59 = .ok (.return_, 1) := by decide +kernel
theorem d_Model_emit_60 : decode c_Model_emit 60 = .ok (.aload_n 0, 1) := by decide +kernel
theorem d_Model_emit_61 : decode c_Model_emit 61 = .ok (.iload_n 2, 1) := by decide +kernel
theorem d_Model_emit_62 : decode c_Model_emit 62 = .ok (.invokevirtual 116, 3) := by decide +kernel
theorem d_Model_emit_65 : decode c_Model_emit 65 = .ok (.lstore_n 3, 1) := by decide +kernel
theorem d_Model_emit_66 : decode c_Model_emit 66 = .ok (.aload_n 0, 1) := by decide +kernel
theorem d_Model_emit_67 : decode c_Model_emit 67 = .ok (.iload_n 1, 1) := by decide +kernel
theorem d_Model_emit_68 : decode c_Model_emit 68 = .ok (.iconst 1, 1) := by decide +kernel
theorem d_Model_emit_69 : decode c_Model_emit 69 = .ok (.if_icmp .ne 7, 3) := by decide +kernel
theorem d_Model_emit_72 : decode c_Model_emit 72 = .ok (.lload_n 3, 1) := by decide +kernel
theorem d_Model_emit_73 : decode c_Model_emit 73 = .ok (.goto 7, 3) := by decide +kernel
theorem d_Model_emit_76 : decode c_Model_emit 76 = .ok (.aload_n 0, 1) := by decide +kernel
theorem d_Model_emit_77 : decode c_Model_emit 77 = .ok (.getfield 98, 3) := by decide +kernel
theorem d_Model_emit_80 : decode c_Model_emit 80 = .ok (.putfield 98, 3) := by decide +kernel
theorem d_Model_emit_83 : decode c_Model_emit 83 = .ok (.aload_n 0, 1) := by decide +kernel
theorem d_Model_emit_84 : decode c_Model_emit 84 = .ok (.iload_n 1, 1) := by decide +kernel
theorem d_Model_emit_85 : decode c_Model_emit 85 = .ok (.iconst 1, 1) := by decide +kernel
theorem d_Model_emit_86 : decode c_Model_emit 86 = .ok (.if_icmp .ne 10, 3) := by decide +kernel
theorem d_Model_emit_89 : decode c_Model_emit 89 = .ok (.aload_n 0, 1) := by decide +kernel
theorem d_Model_emit_90 : decode c_Model_emit 90 = .ok (.getfield 92, 3) := by decide +kernel
theorem d_Model_emit_93 : decode c_Model_emit 93 = .ok (.goto 6, 3) := by decide +kernel
theorem d_Model_emit_96 : decode c_Model_emit 96 = .ok (.lload_n 3, 1) := by decide +kernel
theorem d_Model_emit_97 : decode c_Model_emit 97 = .ok (.lconst 1, 1) := by decide +kernel
theorem d_Model_emit_98 : decode c_Model_emit 98 = .ok (.ladd, 1) := by decide +kernel
theorem d_Model_emit_99 : decode c_Model_emit 99 = .ok (.putfield 92, 3) := by decide +kernel
theorem d_Model_emit_102 : decode c_Model_emit 102 = .ok (.aload_n 0, 1) := by decide +kernel
theorem d_Model_emit_103 : decode c_Model_emit 103 = .ok (.invokevirtual 120, 3) := by decide +kernel
theorem d_Model_emit_106 : decode c_Model_emit 106 = .ok (.ifCond .eq 21, 3) := by decide +kernel
theorem d_Model_emit_109 : decode c_Model_emit 109 = .ok (.aload_n 0, 1) := by decide +kernel
theorem d_Model_emit_110 : decode c_Model_emit 110 = .ok (.aload_n 0, 1) := by decide +kernel
theorem d_Model_emit_111 : decode c_Model_emit 111 = .ok (.getfield 92, 3) := by decide +kernel
theorem d_Model_emit_114 : decode c_Model_emit 114 = .ok (.bipush 24, 2) := by decide +kernel
theorem d_Model_emit_116 : decode c_Model_emit 116 = .ok (.lshr, 1) := by decide +kernel
theorem d_Model_emit_117 : decode c_Model_emit 117 = .ok (.invokevirtual 112, 3) := by decide +kernel
theorem d_Model_emit_120 : decode c_Model_emit 120 = .ok (.aload_n 0, 1) := by decide +kernel
theorem d_Model_emit_121 : decode c_Model_emit 121 = .ok (.invokevirtual 124, 3) := by decide +kernel
theorem d_Model_emit_124 : decode c_Model_emit 124 = .ok (.goto (-22), 3) := by decide +kernel
theorem d_Model_emit_127 : decode c_Model_emit 127 = .ok (.return_, 1) := by decide +kernel
abbrev ws_Model_inByte : List Cond := .code y_Model_inByte c_Model_inByte 2 (some .int) :: tb
theorem hd_Model_inByte : y_Model_inByte.cls = R_Model ∧ y_Model_inByte.cls ≠ "java/lang/invoke/MethodHandle" ∧ y_Model_inByte.cls ≠ "java/lang/invoke/VarHandle" ∧ (parseMethodDescriptor y_Model_inByte.desc).map (fun d => d.parameters.length) = some 0 := by decide +kernel
theorem d_Model_inByte_0 : decode c_Model_inByte 0 = .ok (.aload_n 0, 1) := by decide +kernel
theorem d_Model_inByte_1 : decode c_Model_inByte 1 = .ok (.getfield 127, 3) := by decide +kernel
theorem d_Model_inByte_4 : decode c_Model_inByte 4 = .ok (.aload_n 0, 1) := by decide +kernel
theorem d_Model_inByte_5 : decode c_Model_inByte 5 = .ok (.getfield 130, 3) := by decide +kernel
theorem d_Model_inByte_8 : decode c_Model_inByte 8 = .ok (.if_icmp .ge 15, 3) := by decide +kernel
theorem d_Model_inByte_11 : decode c_Model_inByte 11 = .ok (.aload_n 0, 1) := by decide +kernel
theorem d_Model_inByte_12 : decode c_Model_inByte 12 = .ok (.getfield 47, 3) := by decide +kernel
theorem d_Model_inByte_15 : decode c_Model_inByte 15 = .ok (.aload_n 0, 1) := by decide +kernel
theorem d_Model_inByte_16 : decode c_Model_inByte 16 = .ok (.getfield 127, 3) := by decide +kernel
theorem d_Model_inByte_19 : decode c_Model_inByte 19 = .ok (.iaload, 1) := by decide +kernel
theorem d_Model_inByte_20 : decode c_Model_inByte 20 = .ok (.goto 4, 3) := by decide +kernel
theorem d_Model_inByte_23 : decode c_Model_inByte 23 = .ok (.iconst 0, 1) := by decide +kernel
theorem d_Model_inByte_24 : decode c_Model_inByte 24 = .ok (.istore_n 1, 1) := by decide +kernel
theorem d_Model_inByte_25 : decode c_Model_inByte 25 = .ok (.aload_n 0, 1) := by decide +kernel
theorem d_Model_inByte_26 : decode c_Model_inByte 26 = .ok (.dup, 1) := by decide +kernel
theorem d_Model_inByte_27 : decode c_Model_inByte 27 = .ok (.getfield 127, 3) := by decide +kernel
theorem d_Model_inByte_30 : decode c_Model_inByte 30 = .ok (.iconst 1, 1) := by decide +kernel
theorem d_Model_inByte_31 : decode c_Model_inByte 31 = .ok (.iadd, 1) := by decide +kernel
theorem d_Model_inByte_32 : decode c_Model_inByte 32 = .ok (.putfield 127, 3) := by decide +kernel
theorem d_Model_inByte_35 : decode c_Model_inByte 35 = .ok (.iload_n 1, 1) := by decide +kernel
theorem d_Model_inByte_36 : decode c_Model_inByte 36 = .ok (.ireturn, 1) := by decide +kernel
abbrev ws_Model_take : List Cond := .code y_Model_take c_Model_take 5 (some .int) :: tb
theorem hd_Model_take : y_Model_take.cls = R_Model ∧ y_Model_take.cls ≠ "java/lang/invoke/MethodHandle" ∧ y_Model_take.cls ≠ "java/lang/invoke/VarHandle" ∧ (parseMethodDescriptor y_Model_take.desc).map (fun d => d.parameters.length) = some 1 := by decide +kernel
theorem d_Model_take_0 : decode c_Model_take 0 = .ok (.aload_n 0, 1) := by decide +kernel
theorem d_Model_take_1 : decode c_Model_take 1 = .ok (.getfield 56, 3) := by decide +kernel
theorem d_Model_take_4 : decode c_Model_take 4 = .ok (.iconst 2, 1) := by decide +kernel
theorem d_Model_take_5 : decode c_Model_take 5 = .ok (.if_icmp .ge 59, 3) := by decide +kernel
theorem d_Model_take_8 : decode c_Model_take 8 = .ok (.aload_n 0, 1) := by decide +kernel
theorem d_Model_take_9 : decode c_Model_take 9 = .ok (.getfield 127, 3) := by decide +kernel
theorem d_Model_take_12 : decode c_Model_take 12 = .ok (.bipush 8, 2) := by decide +kernel
theorem d_Model_take_14 : decode c_Model_take 14 = .ok (.idiv, 1) := by decide +kernel
theorem d_Model_take_15 : decode c_Model_take 15 = .ok (.aload_n 0, 1) := by decide +kernel
theorem d_Model_take_16 : decode c_Model_take 16 = .ok (.getfield 130, 3) := by decide +kernel
theorem d_Model_take_19 : decode c_Model_take 19 = .ok (.if_icmp .ge 31, 3) := by decide +kernel
theorem d_Model_take_22 : decode c_Model_take 22 = .ok (.aload_n 0, 1) := by decide +kernel
theorem d_Model_take_23 : decode c_Model_take 23 = .ok (.getfield 47, 3) := by decide +kernel
theorem d_Model_take_26 : decode c_Model_take 26 = .ok (.aload_n 0, 1) := by decide +kernel
theorem d_Model_take_27 : decode c_Model_take 27 = .ok (.getfield 127, 3) := by decide +kernel
theorem d_Model_take_30 : decode c_Model_take 30 = .ok (.bipush 8, 2) := by decide +kernel
theorem d_Model_take_32 : decode c_Model_take 32 = .ok (.idiv, 1) := by decide +kernel
theorem d_Model_take_33 : decode c_Model_take 33 = .ok (.iaload, 1) := by decide +kernel
theorem d_Model_take_34 : decode c_Model_take 34 = .ok (.bipush 7, 2) := by decide +kernel
theorem d_Model_take_36 : decode c_Model_take 36 = .ok (.aload_n 0, 1) := by decide +kernel
theorem d_Model_take_37 : decode c_Model_take 37 = .ok (.getfield 127, 3) := by decide +kernel
theorem d_Model_take_40 : decode c_Model_take 40 = .ok (.bipush 8, 2) := by decide +kernel
theorem d_Model_take_42 : decode c_Model_take 42 = .ok (.irem, 1) := by decide +kernel
theorem d_Model_take_43 : decode c_Model_take 43 = .ok (.isub, 1) := by decide +kernel
theorem d_Model_take_44 : decode c_Model_take 44 = .ok (.ishr, 1) := by decide +kernel
theorem d_Model_take_45 : decode c_Model_take 45 = .ok (.iconst 1, 1) := by decide +kernel
theorem d_Model_take_46 : decode c_Model_take 46 = .ok (.iand, 1) := by decide +kernel
theorem d_Model_take_47 : decode c_Model_take 47 = .ok (.goto 4, 3) := by decide +kernel
theorem d_Model_take_50 : decode c_Model_take 50 = .ok (.iconst 0, 1) := by decide +kernel
theorem d_Model_take_51 : decode c_Model_take 51 = .ok (.istore_n 2, 1) := by decide +kernel
theorem d_Model_take_52 : decode c_Model_take 52 = .ok (.aload_n 0, 1) := by decide +kernel
theorem d_Model_take_53 : decode c_Model_take 53 = .ok (.dup, 1) := by decide +kernel
theorem d_Model_take_54 : decode c_Model_take 54 = .ok (.getfield 127, 3) := by decide +kernel
theorem d_Model_take_57 : decode c_Model_take 57 = .ok (.iconst 1, 1) := by decide +kernel
theorem d_Model_take_58 : decode c_Model_take 58 = .ok (.iadd, 1) := by decide +kernel
theorem d_Model_take_59 : decode c_Model_take 59 = .ok (.putfield 127, 3) := by decide +kernel
theorem d_Model_take_62 : decode c_Model_take 62 = .ok (.iload_n 2, 1) := by decide +kernel
theorem d_Model_take_63 : decode c_Model_take 63 = .ok (.ireturn, 1) := by decide +kernel
theorem d_Model_take_64 : decode c_Model_take 64 = .ok (.aload_n 0, 1) := by decide +kernel
theorem d_Model_take_65 : decode c_Model_take 65 = .ok (.iload_n 1, 1) := by decide +kernel
theorem d_Model_take_66 : decode c_Model_take 66 = .ok (.invokevirtual 116, 3) := by decide +kernel
theorem d_Model_take_69 : decode c_Model_take 69 = .ok (.lstore_n 2, 1) := by decide +kernel
theorem d_Model_take_70 : decode c_Model_take 70 = .ok (.aload_n 0, 1) := by decide +kernel
theorem d_Model_take_71 : decode c_Model_take 71 = .ok (.getfield 133, 3) := by decide +kernel
theorem d_Model_take_74 : decode c_Model_take 74 = .ok (.lload_n 2, 1) := by decide +kernel
theorem d_Model_take_75 : decode c_Model_take 75 = .ok (.lcmp, 1) := by decide +kernel
theorem d_Model_take_76 : decode c_Model_take 76 = .ok (.ifCond .gt 7, 3) := by decide +kernel
theorem d_Model_take_79 : decode c_Model_take 79 = .ok (.iconst 1, 1) := by decide +kernel
theorem d_Model_take_80 : decode c_Model_take 80 = .ok (.goto 4, 3) := by decide +kernel
theorem d_Model_take_83 : decode c_Model_take 83 = .ok (.iconst 0, 1) := by decide +kernel
theorem d_Model_take_84 : decode c_Model_take 84 = .ok (.istore 4, 2) := by decide +kernel
theorem d_Model_take_86 : decode c_Model_take 86 = .ok (.aload_n 0, 1) := by decide +kernel
theorem d_Model_take_87 : decode c_Model_take 87 = .ok (.iload 4, 2) := by decide +kernel
theorem d_Model_take_89 : decode c_Model_take 89 = .ok (.iconst 1, 1) := by decide +kernel
theorem d_Model_take_90 : decode c_Model_take 90 = .ok (.if_icmp .ne 7, 3) := by decide +kernel
theorem d_Model_take_93 : decode c_Model_take 93 = .ok (.lload_n 2, 1) := by decide +kernel
theorem d_Model_take_94 : decode c_Model_take 94 = .ok (.goto 7, 3) := by decide +kernel
theorem d_Model_take_97 : decode c_Model_take 97 = .ok (.aload_n 0, 1) := by decide +kernel
theorem d_Model_take_98 : decode c_Model_take 98 = .ok (.getfield 98, 3) := by decide +kernel
theorem d_Model_take_101 : decode c_Model_take 101 = .ok (.putfield 98, 3) := by decide +kernel
theorem d_Model_take_104 : decode c_Model_take 104 = .ok (.aload_n 0, 1) := by decide +kernel
theorem d_Model_take_105 : decode c_Model_take 105 = .ok (.iload 4, 2) := by decide +kernel
theorem d_Model_take_107 : decode c_Model_take 107 = .ok (.iconst 1, 1) := by decide +kernel
theorem d_Model_take_108 : decode c_Model_take 108 = .ok (.if_icmp .ne 10, 3) := by decide +kernel
theorem d_Model_take_111 : decode c_Model_take 111 = .ok (.aload_n 0, 1) := by decide +kernel
theorem d_Model_take_112 : decode c_Model_take 112 = .ok (.getfield 92, 3) := by decide +kernel
theorem d_Model_take_115 : decode c_Model_take 115 = .ok (.goto 6, 3) := by decide +kernel
theorem d_Model_take_118 : decode c_Model_take 118 = .ok (.lload_n 2, 1) := by decide +kernel
theorem d_Model_take_119 : decode c_Model_take 119 = .ok (.lconst 1, 1) := by decide +kernel
theorem d_Model_take_120 : decode c_Model_take 120 = .ok (.ladd, 1) := by decide +kernel
theorem d_Model_take_121 : decode c_Model_take 121 = .ok (.putfield 92, 3) := by decide +kernel
theorem d_Model_take_124 : decode c_Model_take 124 = .ok (.aload_n 0, 1) := by decide +kernel
theorem d_Model_take_125 : decode c_Model_take 125 = .ok (.invokevirtual 120, 3) := by decide +kernel
theorem d_Model_take_128 : decode c_Model_take 128 = .ok (.ifCond .eq 31, 3) := by decide +kernel
theorem d_Model_take_131 : decode c_Model_take 131 = .ok (.aload_n 0, 1) := by decide +kernel
theorem d_Model_take_132 : decode c_Model_take 132 = .ok (.invokevirtual 124, 3) := by decide +kernel
theorem d_Model_take_135 : decode c_Model_take 135 = .ok (.aload_n 0, 1) := by decide +kernel
theorem d_Model_take_136 : decode c_Model_take 136 = .ok (.aload_n 0, 1) := by decide +kernel
theorem d_Model_take_137 : decode c_Model_take 137 = .ok (.getfield 133, 3) := by decide +kernel
theorem d_Model_take_140 : decode c_Model_take 140 = .ok (.bipush 8, 2) := by decide +kernel
theorem d_Model_take_142 : decode c_Model_take 142 = .ok (.lshl, 1) := by decide +kernel
theorem d_Model_take_143 : decode c_Model_take 143 = .ok (.ldc2_w 96, 3) := by decide +kernel
theorem d_Model_take_146 : decode c_Model_take 146 = .ok (.land, 1) := by decide +kernel
theorem d_Model_take_147 : decode c_Model_take 147 = .ok (.aload_n 0, 1) := by decide +kernel
theorem d_Model_take_148 : decode c_Model_take 148 = .ok (.invokevirtual 136, 3) := by decide +kernel
theorem d_Model_take_151 : decode c_Model_take 151 = .ok (.i2l, 1) := by decide +kernel
theorem d_Model_take_152 : decode c_Model_take 152 = .ok (.lor, 1) := by decide +kernel
theorem d_Model_take_153 : decode c_Model_take 153 = .ok (.putfield 133, 3) := by decide +kernel
theorem d_Model_take_156 : decode c_Model_take 156 = .ok (.goto (-32), 3) := by decide +kernel
theorem d_Model_take_159 : decode c_Model_take 159 = .ok (.iload 4, 2) := by decide +kernel
theorem d_Model_take_161 : decode c_Model_take 161 = .ok (.ireturn, 1) := by decide +kernel
abbrev ws_Model_emitBits : List Cond := .code y_Model_emitBits c_Model_emitBits 4 none :: tb
theorem hd_Model_emitBits : y_Model_emitBits.cls = R_Model ∧ y_Model_emitBits.cls ≠ "java/lang/invoke/MethodHandle" ∧ y_Model_emitBits.cls ≠ "java/lang/invoke/VarHandle" ∧ (parseMethodDescriptor y_Model_emitBits.desc).map (fun d => d.parameters.length) = some 2 := by decide +kernel
theorem d_Model_emitBits_0 : decode c_Model_emitBits 0 = .ok (.iload_n 2, 1) := by decide +kernel
theorem d_Model_emitBits_1 : decode c_Model_emitBits 1 = .ok (.iconst 1, 1) := by decide +kernel
theorem d_Model_emitBits_2 : decode c_Model_emitBits 2 = .ok (.isub, 1) := by decide +kernel
theorem d_Model_emitBits_3 : decode c_Model_emitBits 3 = .ok (.istore_n 3, 1) := by decide +kernel
theorem d_Model_emitBits_4 : decode c_Model_emitBits 4 = .ok (.iload_n 3, 1) := by decide +kernel
theorem d_Model_emitBits_5 : decode c_Model_emitBits 5 = .ok (.ifCond .lt 20, 3) := by decide +kernel
theorem d_Model_emitBits_8 : decode c_Model_emitBits 8 = .ok (.aload_n 0, 1) := by decide +kernel
theorem d_Model_emitBits_9 : decode c_Model_emitBits 9 = .ok (.iload_n 1, 1) := by decide +kernel
theorem d_Model_emitBits_10 : decode c_Model_emitBits 10 = .ok (.iload_n 3, 1) := by decide +kernel
theorem d_Model_emitBits_11 : decode c_Model_emitBits 11 = .ok (.ishr, 1) := by decide +kernel
theorem d_Model_emitBits_12 : decode c_Model_emitBits 12 = .ok (.iconst 1, 1) := by decide +kernel
theorem d_Model_emitBits_13 : decode c_Model_emitBits 13 = .ok (.iand, 1) := by decide +kernel
theorem d_Model_emitBits_14 : decode c_Model_emitBits 14 = .ok (.ldc 101, 2) := by decide +kernel
theorem d_Model_emitBits_16 : decode c_Model_emitBits 16 = .ok (.invokevirtual 140, 3) := by decide +kernel
theorem d_Model_emitBits_19 : decode c_Model_emitBits 19 = .ok (.iinc 3 (-1), 3) := by decide +kernel
theorem d_Model_emitBits_22 : decode c_Model_emitBits 22 = .ok (.goto (-18), 3) := by decide +kernel
theorem d_Model_emitBits_25 : decode c_Model_emitBits 25 = .ok (.return_, 1) := by decide +kernel
abbrev ws_Model_takeBits : List Cond := .code y_Model_takeBits c_Model_takeBits 4 (some .int) :: tb
theorem hd_Model_takeBits : y_Model_takeBits.cls = R_Model ∧ y_Model_takeBits.cls ≠ "java/lang/invoke/MethodHandle" ∧ y_Model_takeBits.cls ≠ "java/lang/invoke/VarHandle" ∧ (parseMethodDescriptor y_Model_takeBits.desc).map (fun d => d.parameters.length) = some 1 := by decide +kernel
theorem d_Model_takeBits_0 : decode c_Model_takeBits 0 = .ok (.iconst 0, 1) := by decide +kernel
theorem d_Model_takeBits_1 : decode c_Model_takeBits 1 = .ok (.istore_n 2, 1) := by decide +kernel
theorem d_Model_takeBits_2 : decode c_Model_takeBits 2 = .ok (.iconst 0, 1) := by decide +kernel
theorem d_Model_takeBits_3 : decode c_Model_takeBits 3 = .ok (.istore_n 3, 1) := by decide +kernel
theorem d_Model_takeBits_4 : decode c_Model_takeBits 4 = .ok (.iload_n 3, 1) := by decide +kernel
theorem d_Model_takeBits_5 : decode c_Model_takeBits 5 = .ok (.iload_n 1, 1) := by decide +kernel
theorem d_Model_takeBits_6 : decode c_Model_takeBits 6 = .ok (.if_icmp .ge 20, 3) := by decide +kernel
theorem d_Model_takeBits_9 : decode c_Model_takeBits 9 = .ok (.iconst 2, 1) := by decide +kernel
theorem d_Model_takeBits_10 : decode c_Model_takeBits 10 = .ok (.iload_n 2, 1) := by decide +kernel
theorem d_Model_takeBits_11 : decode c_Model_takeBits 11 = .ok (.imul, 1) := by decide +kernel
theorem d_Model_takeBits_12 : decode c_Model_takeBits 12 = .ok (.aload_n 0, 1) := by decide +kernel
theorem d_Model_takeBits_13 : decode c_Model_takeBits 13 = .ok (.ldc 101, 2) := by decide +kernel
theorem d_Model_takeBits_15 : decode c_Model_takeBits 15 = .ok (.invokevirtual 144, 3) := by decide +kernel
theorem d_Model_takeBits_18 : decode c_Model_takeBits 18 = .ok (.iadd, 1) := by decide +kernel
theorem d_Model_takeBits_19 : decode c_Model_takeBits 19 = .ok (.istore_n 2, 1) := by decide +kernel
theorem d_Model_takeBits_20 : decode c_Model_takeBits 20 = .ok (.iinc 3 1, 3) := by decide +kernel
theorem d_Model_takeBits_23 : decode c_Model_takeBits 23 = .ok (.goto (-19), 3) := by decide +kernel
theorem d_Model_takeBits_26 : decode c_Model_takeBits 26 = .ok (.iload_n 2, 1) := by decide +kernel
theorem d_Model_takeBits_27 : decode c_Model_takeBits 27 = .ok (.ireturn, 1) := by decide +kernel
abbrev ws_Model_emitNumber : List Cond := .code y_Model_emitNumber c_Model_emitNumber 3 none :: tb
theorem hd_Model_emitNumber : y_Model_emitNumber.cls = R_Model ∧ y_Model_emitNumber.cls ≠ "java/lang/invoke/MethodHandle" ∧ y_Model_emitNumber.cls ≠ "java/lang/invoke/VarHandle" ∧ (parseMethodDescriptor y_Model_emitNumber.desc).map (fun d => d.parameters.length) = some 1 := by decide +kernel
theorem d_Model_emitNumber_0 : decode c_Model_emitNumber 0 = .ok (.iconst 0, 1) := by decide +kernel
theorem d_Model_emitNumber_1 : decode c_Model_emitNumber 1 = .ok (.istore_n 2, 1) := by decide +kernel
theorem d_Model_emitNumber_2 : decode c_Model_emitNumber 2 = .ok (.iload_n 1, 1) := by decide +kernel
theorem d_Model_emitNumber_3 : decode c_Model_emitNumber 3 = .ok (.iconst 1, 1) := by decide +kernel
theorem d_Model_emitNumber_4 : decode c_Model_emitNumber 4 = .ok (.iadd, 1) := by decide +kernel
theorem d_Model_emitNumber_5 : decode c_Model_emitNumber 5 = .ok (.iload_n 2, 1) := by decide +kernel
theorem d_Model_emitNumber_6 : decode c_Model_emitNumber 6 = .ok (.iconst 1, 1) := by decide +kernel
theorem d_Model_emitNumber_7 : decode c_Model_emitNumber 7 = .ok (.iadd, 1) := by decide +kernel
theorem d_Model_emitNumber_8 : decode c_Model_emitNumber 8 = .ok (.ishr, 1) := by decide +kernel
theorem d_Model_emitNumber_9 : decode c_Model_emitNumber 9 = .ok (.ifCond .le 9, 3) := by decide +kernel
theorem d_Model_emitNumber_12 : decode c_Model_emitNumber 12 = .ok (.iinc 2 1, 3) := by decide +kernel
theorem d_Model_emitNumber_15 : decode c_Model_emitNumber 15 = .ok (.goto (-13), 3) := by decide +kernel
theorem d_Model_emitNumber_18 : decode c_Model_emitNumber 18 = .ok (.aload_n 0, 1) := by decide +kernel
theorem d_Model_emitNumber_19 : decode c_Model_emitNumber 19 = .ok (.iconst 0, 1) := by decide +kernel
theorem d_Model_emitNumber_20 : decode c_Model_emitNumber 20 = .ok (.iload_n 2, 1) := by decide +kernel
theorem d_Model_emitNumber_21 : decode c_Model_emitNumber 21 = .ok (.invokevirtual 147, 3) := by decide +kernel
theorem d_Model_emitNumber_24 : decode c_Model_emitNumber 24 = .ok (.aload_n 0, 1) := by decide +kernel
theorem d_Model_emitNumber_25 : decode c_Model_emitNumber 25 = .ok (.iconst 1, 1) := by decide +kernel
theorem d_Model_emitNumber_26 : decode c_Model_emitNumber 26 = .ok (.ldc 101, 2) := by decide +kernel
theorem d_Model_emitNumber_28 : decode c_Model_emitNumber 28 = .ok (.invokevirtual 140, 3) := by decide +kernel
theorem d_Model_emitNumber_31 : decode c_Model_emitNumber 31 = .ok (.aload_n 0, 1) := by decide +kernel
theorem d_Model_emitNumber_32 : decode c_Model_emitNumber 32 = .ok (.iload_n 1, 1) := by decide +kernel
theorem d_Model_emitNumber_33 : decode c_Model_emitNumber 33 = .ok (.iconst 1, 1) := by decide +kernel
theorem d_Model_emitNumber_34 : decode c_Model_emitNumber 34 = .ok (.iadd, 1) := by decide +kernel
theorem d_Model_emitNumber_35 : decode c_Model_emitNumber 35 = .ok (.iconst 1, 1) := by decide +kernel
theorem d_Model_emitNumber_36 : decode c_Model_emitNumber 36 = .ok (.iload_n 2, 1) := by decide +kernel
theorem d_Model_emitNumber_37 : decode c_Model_emitNumber 37 = .ok (.ishl, 1) := by decide +kernel
theorem d_Model_emitNumber_38 : decode c_Model_emitNumber 38 = .ok (.isub, 1) := by decide +kernel
theorem d_Model_emitNumber_39 : decode c_Model_emitNumber 39 = .ok (.iload_n 2, 1) := by decide +kernel
theorem d_Model_emitNumber_40 : decode c_Model_emitNumber 40 = .ok (.invokevirtual 147, 3) := by decide +kernel
theorem d_Model_emitNumber_43 : decode c_Model_emitNumber 43 = .ok (.return_, 1) := by decide +kernel
abbrev ws_Model_takeNumber : List Cond := .code y_Model_takeNumber c_Model_takeNumber 2 (some .int) :: tb
theorem hd_Model_takeNumber : y_Model_takeNumber.cls = R_Model ∧ y_Model_takeNumber.cls ≠ "java/lang/invoke/MethodHandle" ∧ y_Model_takeNumber.cls ≠ "java/lang/invoke/VarHandle" ∧ (parseMethodDescriptor y_Model_takeNumber.desc).map (fun d => d.parameters.length) = some 0 := by decide +kernel
theorem d_Model_takeNumber_0 : decode c_Model_takeNumber 0 = .ok (.iconst 0, 1) := by decide +kernel
theorem d_Model_takeNumber_1 : decode c_Model_takeNumber 1 = .ok (.istore_n 1, 1) := by decide +kernel
theorem d_Model_takeNumber_2 : decode c_Model_takeNumber 2 = .ok (.iload_n 1, 1) := by decide +kernel
theorem d_Model_takeNumber_3 : decode c_Model_takeNumber 3 = .ok (.bipush 9, 2) := by decide +kernel
theorem d_Model_takeNumber_5 : decode c_Model_takeNumber 5 = .ok (.if_icmp .ge 18, 3) := by decide +kernel
theorem d_Model_takeNumber_8 : decode c_Model_takeNumber 8 = .ok (.aload_n 0, 1) := by decide +kernel
theorem d_Model_takeNumber_9 : decode c_Model_takeNumber 9 = .ok (.ldc 101, 2) := by decide +kernel
theorem d_Model_takeNumber_11 : decode c_Model_takeNumber 11 = .ok (.invokevirtual 144, 3) := by decide +kernel
theorem d_Model_takeNumber_14 : decode c_Model_takeNumber 14 = .ok (.ifCond .ne 9, 3) := by decide +kernel
theorem d_Model_takeNumber_17 : decode c_Model_takeNumber 17 = .ok (.iinc 1 1, 3) := by decide +kernel
theorem d_Model_takeNumber_20 : decode c_Model_takeNumber 20 = .ok (.goto (-18), 3) := by decide +kernel
theorem d_Model_takeNumber_23 : decode c_Model_takeNumber 23 = .ok (.iload_n 1, 1) := by decide +kernel
theorem d_Model_takeNumber_24 : decode c_Model_takeNumber 24 = .ok (.bipush 8, 2) := by decide +kernel
theorem d_Model_takeNumber_26 : decode c_Model_takeNumber 26 = .ok (.if_icmp .le 11, 3) := by decide +kernel
theorem d_Model_takeNumber_29 : decode c_Model_takeNumber 29 = .ok (.aload_n 0, 1) := by decide +kernel
theorem d_Model_takeNumber_30 : decode c_Model_takeNumber 30 = .ok (.bipush 7, 2) := by decide +kernel
theorem d_Model_takeNumber_32 : decode c_Model_takeNumber 32 = .ok (.putfield 150, 3) := by decide +kernel
theorem d_Model_takeNumber_35 : decode c_Model_takeNumber 35 = .ok (.iconst 0, 1) := by decide +kernel
theorem d_Model_takeNumber_36 : decode c_Model_takeNumber 36 = .ok (.ireturn, 1) := by decide +kernel
theorem d_Model_takeNumber_37 : decode c_Model_takeNumber 37 = .ok (.iconst 1, 1) := by decide +kernel
theorem d_Model_takeNumber_38 : decode c_Model_takeNumber 38 = .ok (.iload_n 1, 1) := by decide +kernel
theorem d_Model_takeNumber_39 : decode c_Model_takeNumber 39 = .ok (.ishl, 1) := by decide +kernel
theorem d_Model_takeNumber_40 : decode c_Model_takeNumber 40 = .ok (.aload_n 0, 1) := by decide +kernel
theorem d_Model_takeNumber_41 : decode c_Model_takeNumber 41 = .ok (.iload_n 1, 1) := by decide +kernel
theorem d_Model_takeNumber_42 : decode c_Model_takeNumber 42 = .ok (.invokevirtual 153, 3) := by decide +kernel
theorem d_Model_takeNumber_45 : decode c_Model_takeNumber 45 = .ok (.iadd, 1) := by decide +kernel
theorem d_Model_takeNumber_46 : decode c_Model_takeNumber 46 = .ok (.iconst 1, 1) := by decide +kernel
theorem d_Model_takeNumber_47 : decode c_Model_takeNumber 47 = .ok (.isub, 1) := by decide +kernel
theorem d_Model_takeNumber_48 : decode c_Model_takeNumber 48 = .ok (.ireturn, 1) := by decide +kernel
abbrev ws_Model_planeAt : List Cond := .code y_Model_planeAt c_Model_planeAt 4 (some .int) :: tb
theorem hd_Model_planeAt : y_Model_planeAt.cls = R_Model ∧ y_Model_planeAt.cls ≠ "java/lang/invoke/MethodHandle" ∧ y_Model_planeAt.cls ≠ "java/lang/invoke/VarHandle" ∧ (parseMethodDescriptor y_Model_planeAt.desc).map (fun d => d.parameters.length) = some 3 := by decide +kernel
theorem d_Model_planeAt_0 : decode c_Model_planeAt 0 = .ok (.iload_n 1, 1) := by decide +kernel
theorem d_Model_planeAt_1 : decode c_Model_planeAt 1 = .ok (.ifCond .lt 25, 3) := by decide +kernel
theorem d_Model_planeAt_4 : decode c_Model_planeAt 4 = .ok (.iload_n 2, 1) := by decide +kernel
theorem d_Model_planeAt_5 : decode c_Model_planeAt 5 = .ok (.ifCond .lt 21, 3) := by decide +kernel
theorem d_Model_planeAt_8 : decode c_Model_planeAt 8 = .ok (.iload_n 1, 1) := by decide +kernel
theorem d_Model_planeAt_9 : decode c_Model_planeAt 9 = .ok (.iload_n 3, 1) := by decide +kernel
theorem d_Model_planeAt_10 : decode c_Model_planeAt 10 = .ok (.if_icmp .ge 16, 3) := by decide +kernel
theorem d_Model_planeAt_13 : decode c_Model_planeAt 13 = .ok (.aload_n 0, 1) := by decide +kernel
theorem d_Model_planeAt_14 : decode c_Model_planeAt 14 = .ok (.getfield 53, 3) := by decide +kernel
theorem d_Model_planeAt_17 : decode c_Model_planeAt 17 = .ok (.iload_n 2, 1) := by decide +kernel
theorem d_Model_planeAt_18 : decode c_Model_planeAt 18 = .ok (.iaload, 1) := by decide +kernel
theorem d_Model_planeAt_19 : decode c_Model_planeAt 19 = .ok (.iload_n 1, 1) := by decide +kernel
theorem d_Model_planeAt_20 : decode c_Model_planeAt 20 = .ok (.ishr, 1) := by decide +kernel
theorem d_Model_planeAt_21 : decode c_Model_planeAt 21 = .ok (.iconst 1, 1) := by decide +kernel
theorem d_Model_planeAt_22 : decode c_Model_planeAt 22 = .ok (.iand, 1) := by decide +kernel
theorem d_Model_planeAt_23 : decode c_Model_planeAt 23 = .ok (.goto 4, 3) := by decide +kernel
theorem d_Model_planeAt_26 : decode c_Model_planeAt 26 = .ok (.iconst 0, 1) := by decide +kernel
theorem d_Model_planeAt_27 : decode c_Model_planeAt 27 = .ok (.ireturn, 1) := by decide +kernel
abbrev ws_Model_context : List Cond := .code y_Model_context c_Model_context 5 (some .int) :: tb
theorem hd_Model_context : y_Model_context.cls = R_Model ∧ y_Model_context.cls ≠ "java/lang/invoke/MethodHandle" ∧ y_Model_context.cls ≠ "java/lang/invoke/VarHandle" ∧ (parseMethodDescriptor y_Model_context.desc).map (fun d => d.parameters.length) = some 4 := by decide +kernel
theorem d_Model_context_0 : decode c_Model_context 0 = .ok (.iload 4, 2) := by decide +kernel
theorem d_Model_context_2 : decode c_Model_context 2 = .ok (.ifCond .eq 8, 3) := by decide +kernel
theorem d_Model_context_5 : decode c_Model_context 5 = .ok (.bipush 16, 2) := by decide +kernel
theorem d_Model_context_7 : decode c_Model_context 7 = .ok (.goto 4, 3) := by decide +kernel
theorem d_Model_context_10 : decode c_Model_context 10 = .ok (.iconst 0, 1) := by decide +kernel
theorem d_Model_context_11 : decode c_Model_context 11 = .ok (.bipush 8, 2) := by decide +kernel
theorem d_Model_context_13 : decode c_Model_context 13 = .ok (.aload_n 0, 1) := by decide +kernel
theorem d_Model_context_14 : decode c_Model_context 14 = .ok (.iload_n 1, 1) := by decide +kernel
theorem d_Model_context_15 : decode c_Model_context 15 = .ok (.iconst 1, 1) := by decide +kernel
theorem d_Model_context_16 : decode c_Model_context 16 = .ok (.isub, 1) := by decide +kernel
theorem d_Model_context_17 : decode c_Model_context 17 = .ok (.iload_n 2, 1) := by decide +kernel
theorem d_Model_context_18 : decode c_Model_context 18 = .ok (.iload_n 3, 1) := by decide +kernel
theorem d_Model_context_19 : decode c_Model_context 19 = .ok (.invokevirtual 156, 3) := by decide +kernel
theorem d_Model_context_22 : decode c_Model_context 22 = .ok (.imul, 1) := by decide +kernel
theorem d_Model_context_23 : decode c_Model_context 23 = .ok (.iadd, 1) := by decide +kernel
theorem d_Model_context_24 : decode c_Model_context 24 = .ok (.iconst 4, 1) := by decide +kernel
theorem d_Model_context_25 : decode c_Model_context 25 = .ok (.aload_n 0, 1) := by decide +kernel
theorem d_Model_context_26 : decode c_Model_context 26 = .ok (.iload_n 1, 1) := by decide +kernel
theorem d_Model_context_27 : decode c_Model_context 27 = .ok (.iconst 1, 1) := by decide +kernel
theorem d_Model_context_28 : decode c_Model_context 28 = .ok (.isub, 1) := by decide +kernel
theorem d_Model_context_29 : decode c_Model_context 29 = .ok (.iload_n 2, 1) := by decide +kernel
theorem d_Model_context_30 : decode c_Model_context 30 = .ok (.iconst 1, 1) := by decide +kernel
theorem d_Model_context_31 : decode c_Model_context 31 = .ok (.isub, 1) := by decide +kernel
theorem d_Model_context_32 : decode c_Model_context 32 = .ok (.iload_n 3, 1) := by decide +kernel
theorem d_Model_context_33 : decode c_Model_context 33 = .ok (.invokevirtual 156, 3) := by decide +kernel
theorem d_Model_context_36 : decode c_Model_context 36 = .ok (.imul, 1) := by decide +kernel
theorem d_Model_context_37 : decode c_Model_context 37 = .ok (.iadd, 1) := by decide +kernel
theorem d_Model_context_38 : decode c_Model_context 38 = .ok (.iconst 2, 1) := by decide +kernel
theorem d_Model_context_39 : decode c_Model_context 39 = .ok (.aload_n 0, 1) := by decide +kernel
theorem d_Model_context_40 : decode c_Model_context 40 = .ok (.iload_n 1, 1) := by decide +kernel
theorem d_Model_context_41 : decode c_Model_context 41 = .ok (.iload_n 2, 1) := by decide +kernel
theorem d_Model_context_42 : decode c_Model_context 42 = .ok (.iconst 1, 1) := by decide +kernel
theorem d_Model_context_43 : decode c_Model_context 43 = .ok (.isub, 1) := by decide +kernel
theorem d_Model_context_44 : decode c_Model_context 44 = .ok (.iload_n 3, 1) := by decide +kernel
theorem d_Model_context_45 : decode c_Model_context 45 = .ok (.invokevirtual 156, 3) := by decide +kernel
theorem d_Model_context_48 : decode c_Model_context 48 = .ok (.imul, 1) := by decide +kernel
theorem d_Model_context_49 : decode c_Model_context 49 = .ok (.iadd, 1) := by decide +kernel
theorem d_Model_context_50 : decode c_Model_context 50 = .ok (.aload_n 0, 1) := by decide +kernel
theorem d_Model_context_51 : decode c_Model_context 51 = .ok (.iload_n 1, 1) := by decide +kernel
theorem d_Model_context_52 : decode c_Model_context 52 = .ok (.iconst 1, 1) := by decide +kernel
theorem d_Model_context_53 : decode c_Model_context 53 = .ok (.iadd, 1) := by decide +kernel
theorem d_Model_context_54 : decode c_Model_context 54 = .ok (.iload_n 2, 1) := by decide +kernel
theorem d_Model_context_55 : decode c_Model_context 55 = .ok (.iconst 1, 1) := by decide +kernel
theorem d_Model_context_56 : decode c_Model_context 56 = .ok (.isub, 1) := by decide +kernel
theorem d_Model_context_57 : decode c_Model_context 57 = .ok (.iload_n 3, 1) := by decide +kernel
theorem d_Model_context_58 : decode c_Model_context 58 = .ok (.invokevirtual 156, 3) := by decide +kernel
theorem d_Model_context_61 : decode c_Model_context 61 = .ok (.iadd, 1) := by decide +kernel
theorem d_Model_context_62 : decode c_Model_context 62 = .ok (.ireturn, 1) := by decide +kernel
abbrev ws_Model_chanceOf : List Cond := .code y_Model_chanceOf c_Model_chanceOf 2 (some .int) :: tb
theorem hd_Model_chanceOf : y_Model_chanceOf.cls = R_Model ∧ y_Model_chanceOf.cls ≠ "java/lang/invoke/MethodHandle" ∧ y_Model_chanceOf.cls ≠ "java/lang/invoke/VarHandle" ∧ (parseMethodDescriptor y_Model_chanceOf.desc).map (fun d => d.parameters.length) = some 1 := by decide +kernel
theorem d_Model_chanceOf_0 : decode c_Model_chanceOf 0 = .ok (.aload_n 0, 1) := by decide +kernel
theorem d_Model_chanceOf_1 : decode c_Model_chanceOf 1 = .ok (.getfield 50, 3) := by decide +kernel
theorem d_Model_chanceOf_4 : decode c_Model_chanceOf 4 = .ok (.iload_n 1, 1) := by decide +kernel
theorem d_Model_chanceOf_5 : decode c_Model_chanceOf 5 = .ok (.iaload, 1) := by decide +kernel
theorem d_Model_chanceOf_6 : decode c_Model_chanceOf 6 = .ok (.bipush 64, 2) := by decide +kernel
theorem d_Model_chanceOf_8 : decode c_Model_chanceOf 8 = .ok (.if_icmp .ge 8, 3) := by decide +kernel
theorem d_Model_chanceOf_11 : decode c_Model_chanceOf 11 = .ok (.bipush 64, 2) := by decide +kernel
theorem d_Model_chanceOf_13 : decode c_Model_chanceOf 13 = .ok (.goto 25, 3) := by decide +kernel
theorem d_Model_chanceOf_16 : decode c_Model_chanceOf 16 = .ok (.aload_n 0, 1) := by decide +kernel
theorem d_Model_chanceOf_17 : decode c_Model_chanceOf 17 = .ok (.getfield 50, 3) := by decide +kernel
theorem d_Model_chanceOf_20 : decode c_Model_chanceOf 20 = .ok (.iload_n 1, 1) := by decide +kernel
theorem d_Model_chanceOf_21 : decode c_Model_chanceOf 21 = .ok (.iaload, 1) := by decide +kernel
theorem d_Model_chanceOf_22 : decode c_Model_chanceOf 22 = .ok (.ldc 159, 2) := by decide +kernel
theorem d_Model_chanceOf_24 : decode c_Model_chanceOf 24 = .ok (.if_icmp .le 8, 3) := by decide +kernel
theorem d_Model_chanceOf_27 : decode c_Model_chanceOf 27 = .ok (.ldc 159, 2) := by decide +kernel
theorem d_Model_chanceOf_29 : decode c_Model_chanceOf 29 = .ok (.goto 9, 3) := by decide +kernel
theorem d_Model_chanceOf_32 : decode c_Model_chanceOf 32 = .ok (.aload_n 0, 1) := by decide +kernel
theorem d_Model_chanceOf_33 : decode c_Model_chanceOf 33 = .ok (.getfield 50, 3) := by decide +kernel
theorem d_Model_chanceOf_36 : decode c_Model_chanceOf 36 = .ok (.iload_n 1, 1) := by decide +kernel
theorem d_Model_chanceOf_37 : decode c_Model_chanceOf 37 = .ok (.iaload, 1) := by decide +kernel
theorem d_Model_chanceOf_38 : decode c_Model_chanceOf 38 = .ok (.ireturn, 1) := by decide +kernel
abbrev ws_Model_learn : List Cond := .code y_Model_learn c_Model_learn 3 none :: tb
theorem hd_Model_learn : y_Model_learn.cls = R_Model ∧ y_Model_learn.cls ≠ "java/lang/invoke/MethodHandle" ∧ y_Model_learn.cls ≠ "java/lang/invoke/VarHandle" ∧ (parseMethodDescriptor y_Model_learn.desc).map (fun d => d.parameters.length) = some 2 := by decide +kernel
theorem d_Model_learn_0 : decode c_Model_learn 0 = .ok (.aload_n 0, 1) := by decide +kernel
theorem d_Model_learn_1 : decode c_Model_learn 1 = .ok (.getfield 50, 3) := by decide +kernel
theorem d_Model_learn_4 : decode c_Model_learn 4 = .ok (.iload_n 1, 1) := by decide +kernel
theorem d_Model_learn_5 : decode c_Model_learn 5 = .ok (.dup2, 1) := by decide +kernel
theorem d_Model_learn_6 : decode c_Model_learn 6 = .ok (.iaload, 1) := by decide +kernel
theorem d_Model_learn_7 : decode c_Model_learn 7 = .ok (.iload_n 2, 1) := by decide +kernel
theorem d_Model_learn_8 : decode c_Model_learn 8 = .ok (.iconst 1, 1) := by decide +kernel
theorem d_Model_learn_9 : decode c_Model_learn 9 = .ok (.if_icmp .ne 18, 3) := by decide +kernel
theorem d_Model_learn_12 : decode c_Model_learn 12 = .ok (.ldc 160, 2) := by decide +kernel
theorem d_Model_learn_14 : decode c_Model_learn 14 = .ok (.aload_n 0, 1) := by decide +kernel
theorem d_Model_learn_15 : decode c_Model_learn 15 = .ok (.getfield 50, 3) := by decide +kernel
theorem d_Model_learn_18 : decode c_Model_learn 18 = .ok (.iload_n 1, 1) := by decide +kernel
theorem d_Model_learn_19 : decode c_Model_learn 19 = .ok (.iaload, 1) := by decide +kernel
theorem d_Model_learn_20 : decode c_Model_learn 20 = .ok (.isub, 1) := by decide +kernel
theorem d_Model_learn_21 : decode c_Model_learn 21 = .ok (.bipush 16, 2) := by decide +kernel
theorem d_Model_learn_23 : decode c_Model_learn 23 = .ok (.idiv, 1) := by decide +kernel
theorem d_Model_learn_24 : decode c_Model_learn 24 = .ok (.goto 13, 3) := by decide +kernel
theorem d_Model_learn_27 : decode c_Model_learn 27 = .ok (.aload_n 0, 1) := by decide +kernel
theorem d_Model_learn_28 : decode c_Model_learn 28 = .ok (.getfield 50, 3) := by decide +kernel
theorem d_Model_learn_31 : decode c_Model_learn 31 = .ok (.iload_n 1, 1) := by decide +kernel
theorem d_Model_learn_32 : decode c_Model_learn 32 = .ok (.iaload, 1) := by decide +kernel
theorem d_Model_learn_33 : decode c_Model_learn 33 = .ok (.bipush 16, 2) := by decide +kernel
theorem d_Model_learn_35 : decode c_Model_learn 35 = .ok (.idiv, 1) := by decide +kernel
theorem d_Model_learn_36 : decode c_Model_learn 36 = .ok (.ineg, 1) := by decide +kernel
theorem d_Model_learn_37 : decode c_Model_learn 37 = .ok (.iadd, 1) := by decide +kernel
theorem d_Model_learn_38 : decode c_Model_learn 38 = .ok (.iastore, 1) := by decide +kernel
theorem d_Model_learn_39 : decode c_Model_learn 39 = .ok (.return_, 1) := by decide +kernel
abbrev ws_Model_under : List Cond := .code y_Model_under c_Model_under 5 (some .int) :: tb
theorem hd_Model_under : y_Model_under.cls = R_Model ∧ y_Model_under.cls ≠ "java/lang/invoke/MethodHandle" ∧ y_Model_under.cls ≠ "java/lang/invoke/VarHandle" ∧ (parseMethodDescriptor y_Model_under.desc).map (fun d => d.parameters.length) = some 4 := by decide +kernel
theorem d_Model_under_0 : decode c_Model_under 0 = .ok (.iload_n 2, 1) := by decide +kernel
theorem d_Model_under_1 : decode c_Model_under 1 = .ok (.ifCond .ge 7, 3) := by decide +kernel
theorem d_Model_under_4 : decode c_Model_under 4 = .ok (.iconst 0, 1) := by decide +kernel
theorem d_Model_under_5 : decode c_Model_under 5 = .ok (.goto 25, 3) := by decide +kernel
theorem d_Model_under_8 : decode c_Model_under 8 = .ok (.aload_n 0, 1) := by decide +kernel
theorem d_Model_under_9 : decode c_Model_under 9 = .ok (.iload_n 2, 1) := by decide +kernel
theorem d_Model_under_10 : decode c_Model_under 10 = .ok (.iload_n 3, 1) := by decide +kernel
theorem d_Model_under_11 : decode c_Model_under 11 = .ok (.aload_n 0, 1) := by decide +kernel
theorem d_Model_under_12 : decode c_Model_under 12 = .ok (.getfield 26, 3) := by decide +kernel
theorem d_Model_under_15 : decode c_Model_under 15 = .ok (.iload_n 1, 1) := by decide +kernel
theorem d_Model_under_16 : decode c_Model_under 16 = .ok (.iaload, 1) := by decide +kernel
theorem d_Model_under_17 : decode c_Model_under 17 = .ok (.isub, 1) := by decide +kernel
theorem d_Model_under_18 : decode c_Model_under 18 = .ok (.iload 4, 2) := by decide +kernel
theorem d_Model_under_20 : decode c_Model_under 20 = .ok (.aload_n 0, 1) := by decide +kernel
theorem d_Model_under_21 : decode c_Model_under 21 = .ok (.getfield 29, 3) := by decide +kernel
theorem d_Model_under_24 : decode c_Model_under 24 = .ok (.iload_n 1, 1) := by decide +kernel
theorem d_Model_under_25 : decode c_Model_under 25 = .ok (.iaload, 1) := by decide +kernel
theorem d_Model_under_26 : decode c_Model_under 26 = .ok (.isub, 1) := by decide +kernel
theorem d_Model_under_27 : decode c_Model_under 27 = .ok (.invokevirtual 77, 3) := by decide +kernel
theorem d_Model_under_30 : decode c_Model_under 30 = .ok (.ireturn, 1) := by decide +kernel
/-! Model_beginBits -/
def l_Model_beginBits_14 (k34 : Mo → Option (Mo)) : Nat → Mo → Int32 → Option (Mo)
  | 0, _, _ => none
  | n + 1, mo, x1 => (if 32 ≤ x1 then k34 mo else gd (inb x1 32) <| lt' (Mo_s_ch mo (upd (Mo_ch mo) x1.toNatClampNeg 32768)) <| fun mo_8 => lt' (x1 + 1) <| fun x1_10 => (l_Model_beginBits_14 k34 n) mo_8 x1_10)
def f_Model_beginBits (mo : Mo) : Option (Mo) := lt' (Mo_s_lo mo 0) <| fun mo_1 => lt' (Mo_s_hi mo_1 4294967295) <| fun mo_3 => l_Model_beginBits_14 (fun mo_11 => some mo_11) 100000 mo_3 0
section
variable {p : Program} {l : Launch} {e : Env} {R : Room} {s : State} {m : MethodId} {args : Array Value} {below : List Frame} {meth : Method} {c : Code} {Q : State → Prop} {A : Nat → Prop}
set_option maxHeartbeats 4000000 in
set_option maxRecDepth 100000 in
theorem L_Model_beginBits_14 {cells slots : Nat} {dC : Nat → ClassId} {dI : Nat → Nat → Nat} {cI cZ cJ : ClassId} {mo_a : Nat → Nat} {k34 : Mo → Option (Mo)} {res : Mo} (C0 : cxt p c m s args R cells slots R_Model c_Model_beginBits tb 2 (dC, dI) vwCl (TYS cI cZ cJ) A 0 0)
    (hk34 : ∀ (H : Heap) (locs : List Loc) (ls : Array Slot) (mo_5 : Mo), va_P (dC, dI) vwCl (wMo cI cZ cJ mo_a mo_5) H → va_D A (wMo cI cZ cJ mo_a mo_5) → va_S A s.heap H locs → lv_has ls 2 [] → k34 mo_5 = some res → W p l e R s m args below meth c H locs cells slots Q (F0 m 34 ls [])) :
    ∀ (n : Nat) (H : Heap) (locs : List Loc) (ls : Array Slot) (mo : Mo) (x1 : Int32), va_P (dC, dI) vwCl (wMo cI cZ cJ mo_a mo) H → va_D A (wMo cI cZ cJ mo_a mo) → va_S A s.heap H locs → lv_has ls 2 [(0, .ref (mo_a 0)), (1, .int x1)] → l_Model_beginBits_14 k34 n mo x1 = some res → W p l e R s m args below meth c H locs cells slots Q (F0 m 14 ls []) := by
  obtain ⟨hx, hb, hml, hown, hts, hK, hA, hRf, hRl, hN, hRc⟩ := id C0
  intro n
  induction n with
  | zero =>
    intro H locs ls mo x1 hP hD hS hl hf
    exact absurd hf (by simp [l_Model_beginBits_14])
  | succ n ih =>
    intro H locs ls mo x1 hP hD hS hl hf
    rw [l_Model_beginBits_14] at hf
    refine lv_iload_n hx hb d_Model_beginBits_14 rfl (lv_at hl 1 rfl) ?_
    refine lv_bipush (v := 32) hx hb d_Model_beginBits_15 (by decide) ?_
    refine lv_icmp_ge (tgt := 34) hx hb d_Model_beginBits_17 (by decide) (fun c_6 => ?_) (fun c_6 => ?_)
    · rw [if_pos c_6] at hf
      exact hk34 _ _ _ mo hP hD hS (lv_sub hl [] rfl) hf
    · rw [if_neg c_6] at hf
      refine lv_aload_n hx hb d_Model_beginBits_20 rfl (lv_at hl 0 rfl) ?_
      refine va_get (D := (dC, dI)) (ci := 7) (v := .ref (mo_a 14)) (C := R_Model) (T := T_Model) (N := 27) hx hb hts in_Model hown hK hP 0 rfl rfl 21 (by decide) (hts _ t_845) (fun _ h9 => h9) rfl d_Model_beginBits_21 ?_
      refine lv_iload_n hx hb d_Model_beginBits_24 rfl (lv_at hl 1 rfl) ?_
      refine lv_ldc (v := 32768) hx hb hown (hts (.constant R_Model 101 32768) (by decide +kernel)) d_Model_beginBits_25 ?_
      obtain ⟨h_7, hf⟩ := gd_ex hf
      refine va_iast (f := Mo_ch mo) hx hb hK hP hD hS 14 0 rfl rfl (inb_in h_7) d_Model_beginBits_27 (fun H locs hP hD hS => ?_)
      obtain ⟨mo_8, emo_8, hf⟩ := lt_ex hf
      try dsimp only at hf
      have hP : va_P (dC, dI) vwCl (wMo cI cZ cJ mo_a mo_8) H := by rw [emo_8]; exact hP
      have hD : va_D A (wMo cI cZ cJ mo_a mo_8) := by rw [emo_8]; exact hD
      obtain ⟨x1_10, ex1_10, hf⟩ := lt_ex hf
      try dsimp only at hf
      refine lv_iinc (v := x1_10) (lv' := [(1, .int x1_10), (0, .ref (mo_a 0))]) hx hb d_Model_beginBits_28 hl (k := 1) rfl (by rw [ex1_10]; rfl) (by decide) rfl (fun ls hl => ?_)
      refine lv_goto (tgt := 14) hx hb d_Model_beginBits_31 (by decide) ?_
      exact ih _ _ _ mo_8 x1_10 hP hD hS (lv_sub hl [1, 0] rfl) hf
set_option maxHeartbeats 4000000 in
set_option maxRecDepth 100000 in
theorem B_Model_beginBits {cells slots : Nat} {dC : Nat → ClassId} {dI : Nat → Nat → Nat} {cI cZ cJ : ClassId} {mo_a : Nat → Nat} {mo : Mo} {res : Mo} (C0 : cxt p c m s args R cells slots R_Model c_Model_beginBits tb 2 (dC, dI) vwCl (TYS cI cZ cJ) A 0 0)
    (hr34 : ∀ (H : Heap) (locs : List Loc) (ls : Array Slot) (mo' : Mo), va_P (dC, dI) vwCl (wMo cI cZ cJ mo_a mo') H → va_D A (wMo cI cZ cJ mo_a mo') → va_S A s.heap H locs → some mo' = some res → W p l e R s m args below meth c H locs cells slots Q (F0 m 34 ls []))
    {H : Heap} {locs : List Loc} {ls : Array Slot} (hP : va_P (dC, dI) vwCl (wMo cI cZ cJ mo_a mo) H) (hD : va_D A (wMo cI cZ cJ mo_a mo)) (hS : va_S A s.heap H locs) (hl : lv_has ls 2 [(0, .ref (mo_a 0))]) (hf : f_Model_beginBits mo = some res) : W p l e R s m args below meth c H locs cells slots Q (F0 m 0 ls []) := by
  obtain ⟨hx, hb, hml, hown, hts, hK, hA, hRf, hRl, hN, hRc⟩ := id C0
  rw [f_Model_beginBits] at hf
  refine lv_aload_n hx hb d_Model_beginBits_0 rfl (lv_at hl 0 rfl) ?_
  refine lv_lconst (v := 0) hx hb d_Model_beginBits_1 (by decide) ?_
  refine va_put (D := (dC, dI)) (ci := 7) (v := .long 0) (ty := .long) (C := R_Model) (T := T_Model) (N := 27) hx hb hts in_Model ty_Model tyok_Model nm_Model hown hK hP hD hS 0 rfl rfl 22 (by decide) (hts _ t_846) (fun _ h9 => h9) rfl (by decide +kernel) rfl rfl (Nat.le_of_ble_eq_true rfl) d_Model_beginBits_2 (fun H locs hP hD hS => ?_)
  obtain ⟨mo_1, emo_1, hf⟩ := lt_ex hf
  try dsimp only at hf
  have hP : va_P (dC, dI) vwCl (wMo cI cZ cJ mo_a mo_1) H := by rw [emo_1]; exact hP
  have hD : va_D A (wMo cI cZ cJ mo_a mo_1) := by rw [emo_1]; exact hD
  refine lv_aload_n hx hb d_Model_beginBits_5 rfl (lv_at hl 0 rfl) ?_
  refine lv_ldc2 (v := 4294967295) hx hb hown (hts (.constantLong R_Model 96 4294967295) (by decide +kernel)) d_Model_beginBits_6 ?_
  refine va_put (D := (dC, dI)) (ci := 7) (v := .long 4294967295) (ty := .long) (C := R_Model) (T := T_Model) (N := 27) hx hb hts in_Model ty_Model tyok_Model nm_Model hown hK hP hD hS 0 rfl rfl 23 (by decide) (hts _ t_847) (fun _ h9 => h9) rfl (by decide +kernel) rfl rfl (Nat.le_of_ble_eq_true rfl) d_Model_beginBits_9 (fun H locs hP hD hS => ?_)
  obtain ⟨mo_3, emo_3, hf⟩ := lt_ex hf
  try dsimp only at hf
  have hP : va_P (dC, dI) vwCl (wMo cI cZ cJ mo_a mo_3) H := by rw [emo_3]; exact hP
  have hD : va_D A (wMo cI cZ cJ mo_a mo_3) := by rw [emo_3]; exact hD
  refine lv_iconst (v := 0) hx hb d_Model_beginBits_12 (by decide) ?_
  refine lv_istore_n (lv' := [(1, .int 0), (0, .ref (mo_a 0))]) hx hb d_Model_beginBits_13 rfl hl (by decide) rfl (fun ls hl => ?_)
  refine L_Model_beginBits_14 C0 (fun H locs ls mo_11 hP hD hS hl hf => ?_) 100000 _ _ _ mo_3 0 hP hD hS (lv_sub hl [1, 0] rfl) hf
  try dsimp only at hf
  exact hr34 _ _ _ mo_11 hP hD hS hf
end
set_option maxHeartbeats 4000000 in
set_option maxRecDepth 100000 in
theorem k_Model_beginBits (l : Launch) (dC : Nat → ClassId) (dI : Nat → Nat → Nat) (cI cZ cJ : ClassId) (mo_a : Nat → Nat) (sz : Nat) {mo : Mo} {mo' : Mo} (hf : f_Model_beginBits mo = some mo') :
    Met l y_Model_beginBits ws_Model_beginBits ({ frames := 0, cells := 0, slots := 0, locals := 0 }) (va_Pc [.ref (mo_a 0)] (kP (dC, dI) vwCl (TYS cI cZ cJ) (wMo cI cZ cJ mo_a mo) sz)) (va_Qv (fun (_ : Unit) => True) (fun _ t => kQ (dC, dI) vwCl (TYS cI cZ cJ) (wMo cI cZ cJ mo_a mo) sz (wMo cI cZ cJ mo_a mo') t) (va_A (wMo cI cZ cJ mo_a mo) sz)) 0 0 (va_A (wMo cI cZ cJ mo_a mo) sz) := by
  refine Met.ofW (cc := c_Model_beginBits) (maxL := 2) (ret := none) (by decide) rfl ?_
  intro p e s m args below meth c s₁ B hml hv
  obtain ⟨rfl, hsz, hP, hK, hD0, hN⟩ := hv
  have hr := B.returns
  have hlocks := B.notSynchronized
  subst hsz
  have hD := hD0.self (sz := s.heap.size)
  have hl := lv_entry ([.ref (mo_a 0)]) (n := 2) (Nat.le_of_ble_eq_true rfl)
  rw [lg_entry_eq]
  generalize (lg_sl ([.ref (mo_a 0)]) ++ List.replicate (2 - (lg_sl ([.ref (mo_a 0)])).length) Slot.unset).toArray = ls at hl ⊢
  refine B_Model_beginBits (A := va_A (wMo cI cZ cJ mo_a mo) s.heap.size) ⟨B.exec, B.bytes, hml, findClass_of_methodNamed B.named, fun w h => atoms_spec (ws := ws_Model_beginBits) B.pre w (List.mem_cons_of_mem _ h), hK, fun q h => Or.inr h, Nat.le_of_ble_eq_true rfl, Nat.le_of_ble_eq_true rfl, hN, Nat.le_of_ble_eq_true rfl, Nat.le_of_ble_eq_true rfl⟩ (fun H locs ls mo'1 hP hD hS hf => ?_) hP hD va_S.rf hl hf
  · cases hf
    exact W.vret B.exec B.bytes hr (fun t ht hW => ⟨⟨(), rfl, trivial, ⟨by rw [ht]; exact hP, va_K.moved hW.alike hK, hD⟩⟩, hS.F ht⟩) hS.2.2 d_Model_beginBits_34

/-! Model_outByte -/
def f_Model_outByte (mo : Mo) (x1 : Int64) : Option (Mo) := gd (inb (Mo_on mo) 16000) <| lt' (Mo_s_out mo (upd (Mo_out mo) (Mo_on mo).toNatClampNeg (x1.toInt32 &&& 255))) <| fun mo_2 => lt' (Mo_s_on mo_2 ((Mo_on mo_2) + 1)) <| fun mo_4 => some mo_4
section
variable {p : Program} {l : Launch} {e : Env} {R : Room} {s : State} {m : MethodId} {args : Array Value} {below : List Frame} {meth : Method} {c : Code} {Q : State → Prop} {A : Nat → Prop}
set_option maxHeartbeats 4000000 in
set_option maxRecDepth 100000 in
theorem B_Model_outByte {cells slots : Nat} {dC : Nat → ClassId} {dI : Nat → Nat → Nat} {cI cZ cJ : ClassId} {mo_a : Nat → Nat} {mo : Mo} {x1 : Int64} {res : Mo} (C0 : cxt p c m s args R cells slots R_Model c_Model_outByte tb 3 (dC, dI) vwCl (TYS cI cZ cJ) A 0 0)
    (hr25 : ∀ (H : Heap) (locs : List Loc) (ls : Array Slot) (mo' : Mo), va_P (dC, dI) vwCl (wMo cI cZ cJ mo_a mo') H → va_D A (wMo cI cZ cJ mo_a mo') → va_S A s.heap H locs → some mo' = some res → W p l e R s m args below meth c H locs cells slots Q (F0 m 25 ls []))
    {H : Heap} {locs : List Loc} {ls : Array Slot} (hP : va_P (dC, dI) vwCl (wMo cI cZ cJ mo_a mo) H) (hD : va_D A (wMo cI cZ cJ mo_a mo)) (hS : va_S A s.heap H locs) (hl : lv_has ls 3 [(0, .ref (mo_a 0)), (1, .long x1)]) (hf : f_Model_outByte mo x1 = some res) : W p l e R s m args below meth c H locs cells slots Q (F0 m 0 ls []) := by
  obtain ⟨hx, hb, hml, hown, hts, hK, hA, hRf, hRl, hN, hRc⟩ := id C0
  rw [f_Model_outByte] at hf
  refine lv_aload_n hx hb d_Model_outByte_0 rfl (lv_at hl 0 rfl) ?_
  refine va_get (D := (dC, dI)) (ci := 7) (v := .ref (mo_a 12)) (C := R_Model) (T := T_Model) (N := 27) hx hb hts in_Model hown hK hP 0 rfl rfl 17 (by decide) (hts _ t_841) (fun _ h9 => h9) rfl d_Model_outByte_1 ?_
  refine lv_aload_n hx hb d_Model_outByte_4 rfl (lv_at hl 0 rfl) ?_
  refine va_get (D := (dC, dI)) (ci := 7) (v := .int (Mo_on mo)) (C := R_Model) (T := T_Model) (N := 27) hx hb hts in_Model hown hK hP 0 rfl rfl 15 (by decide) (hts _ t_839) (fun _ h9 => h9) rfl d_Model_outByte_5 ?_
  refine lv_lload_n hx hb d_Model_outByte_8 rfl (lv_at hl 1 rfl) ?_
  refine lv_l2i (v := x1.toInt32) hx hb d_Model_outByte_9 rfl ?_
  refine lv_sipush (v := 255) hx hb d_Model_outByte_10 (by decide) ?_
  refine lv_iand hx hb d_Model_outByte_13 ?_
  obtain ⟨h_1, hf⟩ := gd_ex hf
  refine va_iast (f := Mo_out mo) hx hb hK hP hD hS 12 0 rfl rfl (inb_in h_1) d_Model_outByte_14 (fun H locs hP hD hS => ?_)
  obtain ⟨mo_2, emo_2, hf⟩ := lt_ex hf
  try dsimp only at hf
  have hP : va_P (dC, dI) vwCl (wMo cI cZ cJ mo_a mo_2) H := by rw [emo_2]; exact hP
  have hD : va_D A (wMo cI cZ cJ mo_a mo_2) := by rw [emo_2]; exact hD
  refine lv_aload_n hx hb d_Model_outByte_15 rfl (lv_at hl 0 rfl) ?_
  refine lv_dup hx hb d_Model_outByte_16 rfl ?_
  refine va_get (D := (dC, dI)) (ci := 7) (v := .int (Mo_on mo_2)) (C := R_Model) (T := T_Model) (N := 27) hx hb hts in_Model hown hK hP 0 rfl rfl 15 (by decide) (hts _ t_839) (fun _ h9 => h9) rfl d_Model_outByte_17 ?_
  refine lv_iconst (v := 1) hx hb d_Model_outByte_20 (by decide) ?_
  refine lv_iadd hx hb d_Model_outByte_21 ?_
  refine va_put (D := (dC, dI)) (ci := 7) (v := .int ((Mo_on mo_2) + 1)) (ty := .int) (C := R_Model) (T := T_Model) (N := 27) hx hb hts in_Model ty_Model tyok_Model nm_Model hown hK hP hD hS 0 rfl rfl 15 (by decide) (hts _ t_839) (fun _ h9 => h9) rfl (by decide +kernel) rfl rfl (Nat.le_of_ble_eq_true rfl) d_Model_outByte_22 (fun H locs hP hD hS => ?_)
  obtain ⟨mo_4, emo_4, hf⟩ := lt_ex hf
  try dsimp only at hf
  have hP : va_P (dC, dI) vwCl (wMo cI cZ cJ mo_a mo_4) H := by rw [emo_4]; exact hP
  have hD : va_D A (wMo cI cZ cJ mo_a mo_4) := by rw [emo_4]; exact hD
  exact hr25 _ _ _ mo_4 hP hD hS hf
end
set_option maxHeartbeats 4000000 in
set_option maxRecDepth 100000 in
theorem k_Model_outByte (l : Launch) (dC : Nat → ClassId) (dI : Nat → Nat → Nat) (cI cZ cJ : ClassId) (mo_a : Nat → Nat) (sz : Nat) {mo : Mo} {x1 : Int64} {mo' : Mo} (hf : f_Model_outByte mo x1 = some mo') :
    Met l y_Model_outByte ws_Model_outByte ({ frames := 0, cells := 0, slots := 0, locals := 0 }) (va_Pc [.ref (mo_a 0), .long x1] (kP (dC, dI) vwCl (TYS cI cZ cJ) (wMo cI cZ cJ mo_a mo) sz)) (va_Qv (fun (_ : Unit) => True) (fun _ t => kQ (dC, dI) vwCl (TYS cI cZ cJ) (wMo cI cZ cJ mo_a mo) sz (wMo cI cZ cJ mo_a mo') t) (va_A (wMo cI cZ cJ mo_a mo) sz)) 0 0 (va_A (wMo cI cZ cJ mo_a mo) sz) := by
  refine Met.ofW (cc := c_Model_outByte) (maxL := 3) (ret := none) (by decide) rfl ?_
  intro p e s m args below meth c s₁ B hml hv
  obtain ⟨rfl, hsz, hP, hK, hD0, hN⟩ := hv
  have hr := B.returns
  have hlocks := B.notSynchronized
  subst hsz
  have hD := hD0.self (sz := s.heap.size)
  have hl := lv_entry ([.ref (mo_a 0), .long x1]) (n := 3) (Nat.le_of_ble_eq_true rfl)
  rw [lg_entry_eq]
  generalize (lg_sl ([.ref (mo_a 0), .long x1]) ++ List.replicate (3 - (lg_sl ([.ref (mo_a 0), .long x1])).length) Slot.unset).toArray = ls at hl ⊢
  refine B_Model_outByte (A := va_A (wMo cI cZ cJ mo_a mo) s.heap.size) ⟨B.exec, B.bytes, hml, findClass_of_methodNamed B.named, fun w h => atoms_spec (ws := ws_Model_outByte) B.pre w (List.mem_cons_of_mem _ h), hK, fun q h => Or.inr h, Nat.le_of_ble_eq_true rfl, Nat.le_of_ble_eq_true rfl, hN, Nat.le_of_ble_eq_true rfl, Nat.le_of_ble_eq_true rfl⟩ (fun H locs ls mo'1 hP hD hS hf => ?_) hP hD va_S.rf hl hf
  · cases hf
    exact W.vret B.exec B.bytes hr (fun t ht hW => ⟨⟨(), rfl, trivial, ⟨by rw [ht]; exact hP, va_K.moved hW.alike hK, hD⟩⟩, hS.F ht⟩) hS.2.2 d_Model_outByte_25

/-! Model_splitBy -/
def f_Model_splitBy (mo : Mo) (x1 : Int32) : Option (Int64) := some ((Mo_lo mo) + ((((Mo_hi mo) - (Mo_lo mo)) * x1.toInt64) / 65536))
section
variable {p : Program} {l : Launch} {e : Env} {R : Room} {s : State} {m : MethodId} {args : Array Value} {below : List Frame} {meth : Method} {c : Code} {Q : State → Prop} {A : Nat → Prop}
set_option maxHeartbeats 4000000 in
set_option maxRecDepth 100000 in
theorem B_Model_splitBy {cells slots : Nat} {dC : Nat → ClassId} {dI : Nat → Nat → Nat} {cI cZ cJ : ClassId} {mo_a : Nat → Nat} {mo : Mo} {x1 : Int32} {res : Int64} (C0 : cxt p c m s args R cells slots R_Model c_Model_splitBy tb 2 (dC, dI) vwCl (TYS cI cZ cJ) A 0 0)
    (hr21 : ∀ (H : Heap) (locs : List Loc) (ls : Array Slot) (v : Int64), va_P (dC, dI) vwCl (wMo cI cZ cJ mo_a mo) H → va_D A (wMo cI cZ cJ mo_a mo) → va_S A s.heap H locs → some v = some res → W p l e R s m args below meth c H locs cells slots Q (F0 m 21 ls [.long v]))
    {H : Heap} {locs : List Loc} {ls : Array Slot} (hP : va_P (dC, dI) vwCl (wMo cI cZ cJ mo_a mo) H) (hD : va_D A (wMo cI cZ cJ mo_a mo)) (hS : va_S A s.heap H locs) (hl : lv_has ls 2 [(0, .ref (mo_a 0)), (1, .int x1)]) (hf : f_Model_splitBy mo x1 = some res) : W p l e R s m args below meth c H locs cells slots Q (F0 m 0 ls []) := by
  obtain ⟨hx, hb, hml, hown, hts, hK, hA, hRf, hRl, hN, hRc⟩ := id C0
  rw [f_Model_splitBy] at hf
  refine lv_aload_n hx hb d_Model_splitBy_0 rfl (lv_at hl 0 rfl) ?_
  refine va_get (D := (dC, dI)) (ci := 7) (v := .long (Mo_lo mo)) (C := R_Model) (T := T_Model) (N := 27) hx hb hts in_Model hown hK hP 0 rfl rfl 22 (by decide) (hts _ t_846) (fun _ h9 => h9) rfl d_Model_splitBy_1 ?_
  refine lv_aload_n hx hb d_Model_splitBy_4 rfl (lv_at hl 0 rfl) ?_
  refine va_get (D := (dC, dI)) (ci := 7) (v := .long (Mo_hi mo)) (C := R_Model) (T := T_Model) (N := 27) hx hb hts in_Model hown hK hP 0 rfl rfl 23 (by decide) (hts _ t_847) (fun _ h9 => h9) rfl d_Model_splitBy_5 ?_
  refine lv_aload_n hx hb d_Model_splitBy_8 rfl (lv_at hl 0 rfl) ?_
  refine va_get (D := (dC, dI)) (ci := 7) (v := .long (Mo_lo mo)) (C := R_Model) (T := T_Model) (N := 27) hx hb hts in_Model hown hK hP 0 rfl rfl 22 (by decide) (hts _ t_846) (fun _ h9 => h9) rfl d_Model_splitBy_9 ?_
  refine lv_lsub hx hb d_Model_splitBy_12 ?_
  refine lv_iload_n hx hb d_Model_splitBy_13 rfl (lv_at hl 1 rfl) ?_
  refine lv_i2l (v := x1.toInt64) hx hb d_Model_splitBy_14 rfl ?_
  refine lv_lmul hx hb d_Model_splitBy_15 ?_
  refine lv_ldc2 (v := 65536) hx hb hown (hts (.constantLong R_Model 105 65536) (by decide +kernel)) d_Model_splitBy_16 ?_
  refine lv_ldiv hx hb d_Model_splitBy_19 (by decide) ?_
  refine lv_ladd hx hb d_Model_splitBy_20 ?_
  exact hr21 _ _ _ ((Mo_lo mo) + ((((Mo_hi mo) - (Mo_lo mo)) * x1.toInt64) / 65536)) hP hD hS hf
end
set_option maxHeartbeats 4000000 in
set_option maxRecDepth 100000 in
theorem k_Model_splitBy (l : Launch) (dC : Nat → ClassId) (dI : Nat → Nat → Nat) (cI cZ cJ : ClassId) (mo_a : Nat → Nat) (sz : Nat) {mo : Mo} {x1 : Int32} {r : Int64} (hf : f_Model_splitBy mo x1 = some r) :
    Met l y_Model_splitBy ws_Model_splitBy ({ frames := 0, cells := 0, slots := 0, locals := 0 }) (va_Pc [.ref (mo_a 0), .int x1] (kP (dC, dI) vwCl (TYS cI cZ cJ) (wMo cI cZ cJ mo_a mo) sz)) (va_Ql (fun (q : Int64) (_ : Unit) => q = r) (fun _ t => kQ (dC, dI) vwCl (TYS cI cZ cJ) (wMo cI cZ cJ mo_a mo) sz (wMo cI cZ cJ mo_a mo) t) (va_A (wMo cI cZ cJ mo_a mo) sz)) 0 0 (va_A (wMo cI cZ cJ mo_a mo) sz) := by
  refine Met.ofW (cc := c_Model_splitBy) (maxL := 2) (ret := (some .long)) (by decide) rfl ?_
  intro p e s m args below meth c s₁ B hml hv
  obtain ⟨rfl, hsz, hP, hK, hD0, hN⟩ := hv
  have hr := B.returns
  have hlocks := B.notSynchronized
  subst hsz
  have hD := hD0.self (sz := s.heap.size)
  have hl := lv_entry ([.ref (mo_a 0), .int x1]) (n := 2) (Nat.le_of_ble_eq_true rfl)
  rw [lg_entry_eq]
  generalize (lg_sl ([.ref (mo_a 0), .int x1]) ++ List.replicate (2 - (lg_sl ([.ref (mo_a 0), .int x1])).length) Slot.unset).toArray = ls at hl ⊢
  refine B_Model_splitBy (A := va_A (wMo cI cZ cJ mo_a mo) s.heap.size) ⟨B.exec, B.bytes, hml, findClass_of_methodNamed B.named, fun w h => atoms_spec (ws := ws_Model_splitBy) B.pre w (List.mem_cons_of_mem _ h), hK, fun q h => Or.inr h, Nat.le_of_ble_eq_true rfl, Nat.le_of_ble_eq_true rfl, hN, Nat.le_of_ble_eq_true rfl, Nat.le_of_ble_eq_true rfl⟩ (fun H locs ls v hP hD hS hf => ?_) hP hD va_S.rf hl hf
  · cases hf
    exact W.lret B.exec B.bytes hr (fun t ht hW => ⟨⟨_, (), rfl, rfl, ⟨by rw [ht]; exact hP, va_K.moved hW.alike hK, hD⟩⟩, hS.F ht⟩) hS.2.2 d_Model_splitBy_21

/-! Model_isShared -/
def f_Model_isShared (mo : Mo) : Option (Int32) := (if (lg_cmp ((Mo_lo mo) >>> ((24 : Int32).toInt64 &&& 63)) ((Mo_hi mo) >>> ((24 : Int32).toInt64 &&& 63))) = 0 then some 1 else some 0)
section
variable {p : Program} {l : Launch} {e : Env} {R : Room} {s : State} {m : MethodId} {args : Array Value} {below : List Frame} {meth : Method} {c : Code} {Q : State → Prop} {A : Nat → Prop}
set_option maxHeartbeats 4000000 in
set_option maxRecDepth 100000 in
theorem B_Model_isShared {cells slots : Nat} {dC : Nat → ClassId} {dI : Nat → Nat → Nat} {cI cZ cJ : ClassId} {mo_a : Nat → Nat} {mo : Mo} {res : Int32} (C0 : cxt p c m s args R cells slots R_Model c_Model_isShared tb 1 (dC, dI) vwCl (TYS cI cZ cJ) A 0 0)
    (hr23 : ∀ (H : Heap) (locs : List Loc) (ls : Array Slot) (v : Int32), vp_nar .boolean v = v → va_P (dC, dI) vwCl (wMo cI cZ cJ mo_a mo) H → va_D A (wMo cI cZ cJ mo_a mo) → va_S A s.heap H locs → some v = some res → W p l e R s m args below meth c H locs cells slots Q (F0 m 23 ls [.int v]))
    {H : Heap} {locs : List Loc} {ls : Array Slot} (hP : va_P (dC, dI) vwCl (wMo cI cZ cJ mo_a mo) H) (hD : va_D A (wMo cI cZ cJ mo_a mo)) (hS : va_S A s.heap H locs) (hl : lv_has ls 1 [(0, .ref (mo_a 0))]) (hf : f_Model_isShared mo = some res) : W p l e R s m args below meth c H locs cells slots Q (F0 m 0 ls []) := by
  obtain ⟨hx, hb, hml, hown, hts, hK, hA, hRf, hRl, hN, hRc⟩ := id C0
  rw [f_Model_isShared] at hf
  refine lv_aload_n hx hb d_Model_isShared_0 rfl (lv_at hl 0 rfl) ?_
  refine va_get (D := (dC, dI)) (ci := 7) (v := .long (Mo_lo mo)) (C := R_Model) (T := T_Model) (N := 27) hx hb hts in_Model hown hK hP 0 rfl rfl 22 (by decide) (hts _ t_846) (fun _ h9 => h9) rfl d_Model_isShared_1 ?_
  refine lv_bipush (v := 24) hx hb d_Model_isShared_4 (by decide) ?_
  refine lv_lshr (v := (Mo_lo mo) >>> ((24 : Int32).toInt64 &&& 63)) hx hb d_Model_isShared_6 rfl ?_
  refine lv_aload_n hx hb d_Model_isShared_7 rfl (lv_at hl 0 rfl) ?_
  refine va_get (D := (dC, dI)) (ci := 7) (v := .long (Mo_hi mo)) (C := R_Model) (T := T_Model) (N := 27) hx hb hts in_Model hown hK hP 0 rfl rfl 23 (by decide) (hts _ t_847) (fun _ h9 => h9) rfl d_Model_isShared_8 ?_
  refine lv_bipush (v := 24) hx hb d_Model_isShared_11 (by decide) ?_
  refine lv_lshr (v := (Mo_hi mo) >>> ((24 : Int32).toInt64 &&& 63)) hx hb d_Model_isShared_13 rfl ?_
  refine W.lcmp hx hb d_Model_isShared_14 ?_
  refine lv_if_ne (tgt := 22) hx hb d_Model_isShared_15 (by decide) (fun c_1 => ?_) (fun c_1 => ?_)
  · rw [if_neg c_1] at hf
    refine lv_iconst (v := 0) hx hb d_Model_isShared_22 (by decide) ?_
    exact hr23 _ _ _ 0 (by decide) hP hD hS hf
  · rw [if_pos c_1] at hf
    refine lv_iconst (v := 1) hx hb d_Model_isShared_18 (by decide) ?_
    refine lv_goto (tgt := 23) hx hb d_Model_isShared_19 (by decide) ?_
    exact hr23 _ _ _ 1 (by decide) hP hD hS hf
end
set_option maxHeartbeats 4000000 in
set_option maxRecDepth 100000 in
theorem k_Model_isShared (l : Launch) (dC : Nat → ClassId) (dI : Nat → Nat → Nat) (cI cZ cJ : ClassId) (mo_a : Nat → Nat) (sz : Nat) {mo : Mo} {r : Int32} (hf : f_Model_isShared mo = some r) :
    Met l y_Model_isShared ws_Model_isShared ({ frames := 0, cells := 0, slots := 0, locals := 0 }) (va_Pc [.ref (mo_a 0)] (kP (dC, dI) vwCl (TYS cI cZ cJ) (wMo cI cZ cJ mo_a mo) sz)) (va_Qi (fun (q : Int32) (_ : Unit) => q = r ∧ vp_nar .boolean r = r) (fun _ t => kQ (dC, dI) vwCl (TYS cI cZ cJ) (wMo cI cZ cJ mo_a mo) sz (wMo cI cZ cJ mo_a mo) t) (va_A (wMo cI cZ cJ mo_a mo) sz)) 0 0 (va_A (wMo cI cZ cJ mo_a mo) sz) := by
  refine Met.ofW (cc := c_Model_isShared) (maxL := 1) (ret := (some .boolean)) (by decide) rfl ?_
  intro p e s m args below meth c s₁ B hml hv
  obtain ⟨rfl, hsz, hP, hK, hD0, hN⟩ := hv
  have hr := B.returns
  have hlocks := B.notSynchronized
  subst hsz
  have hD := hD0.self (sz := s.heap.size)
  have hl := lv_entry ([.ref (mo_a 0)]) (n := 1) (Nat.le_of_ble_eq_true rfl)
  rw [lg_entry_eq]
  generalize (lg_sl ([.ref (mo_a 0)]) ++ List.replicate (1 - (lg_sl ([.ref (mo_a 0)])).length) Slot.unset).toArray = ls at hl ⊢
  refine B_Model_isShared (A := va_A (wMo cI cZ cJ mo_a mo) s.heap.size) ⟨B.exec, B.bytes, hml, findClass_of_methodNamed B.named, fun w h => atoms_spec (ws := ws_Model_isShared) B.pre w (List.mem_cons_of_mem _ h), hK, fun q h => Or.inr h, Nat.le_of_ble_eq_true rfl, Nat.le_of_ble_eq_true rfl, hN, Nat.le_of_ble_eq_true rfl, Nat.le_of_ble_eq_true rfl⟩ (fun H locs ls v hz hP hD hS hf => ?_) hP hD va_S.rf hl hf
  · cases hf
    exact W.zret B.exec B.bytes hr (nz_n hz) (fun t ht hW => ⟨⟨_, (), rfl, ⟨rfl, hz⟩, ⟨by rw [ht]; exact hP, va_K.moved hW.alike hK, hD⟩⟩, hS.F ht⟩) hS.2.2 d_Model_isShared_23

/-! Model_shift -/
def f_Model_shift (mo : Mo) : Option (Mo) := lt' (Mo_s_lo mo (((Mo_lo mo) <<< ((8 : Int32).toInt64 &&& 63)) &&& 4294967295)) <| fun mo_1 => lt' (Mo_s_hi mo_1 ((((Mo_hi mo_1) <<< ((8 : Int32).toInt64 &&& 63)) &&& 4294967295) ||| 255)) <| fun mo_3 => some mo_3
section
variable {p : Program} {l : Launch} {e : Env} {R : Room} {s : State} {m : MethodId} {args : Array Value} {below : List Frame} {meth : Method} {c : Code} {Q : State → Prop} {A : Nat → Prop}
set_option maxHeartbeats 4000000 in
set_option maxRecDepth 100000 in
theorem B_Model_shift {cells slots : Nat} {dC : Nat → ClassId} {dI : Nat → Nat → Nat} {cI cZ cJ : ClassId} {mo_a : Nat → Nat} {mo : Mo} {res : Mo} (C0 : cxt p c m s args R cells slots R_Model c_Model_shift tb 1 (dC, dI) vwCl (TYS cI cZ cJ) A 0 0)
    (hr34 : ∀ (H : Heap) (locs : List Loc) (ls : Array Slot) (mo' : Mo), va_P (dC, dI) vwCl (wMo cI cZ cJ mo_a mo') H → va_D A (wMo cI cZ cJ mo_a mo') → va_S A s.heap H locs → some mo' = some res → W p l e R s m args below meth c H locs cells slots Q (F0 m 34 ls []))
    {H : Heap} {locs : List Loc} {ls : Array Slot} (hP : va_P (dC, dI) vwCl (wMo cI cZ cJ mo_a mo) H) (hD : va_D A (wMo cI cZ cJ mo_a mo)) (hS : va_S A s.heap H locs) (hl : lv_has ls 1 [(0, .ref (mo_a 0))]) (hf : f_Model_shift mo = some res) : W p l e R s m args below meth c H locs cells slots Q (F0 m 0 ls []) := by
  obtain ⟨hx, hb, hml, hown, hts, hK, hA, hRf, hRl, hN, hRc⟩ := id C0
  rw [f_Model_shift] at hf
  refine lv_aload_n hx hb d_Model_shift_0 rfl (lv_at hl 0 rfl) ?_
  refine lv_aload_n hx hb d_Model_shift_1 rfl (lv_at hl 0 rfl) ?_
  refine va_get (D := (dC, dI)) (ci := 7) (v := .long (Mo_lo mo)) (C := R_Model) (T := T_Model) (N := 27) hx hb hts in_Model hown hK hP 0 rfl rfl 22 (by decide) (hts _ t_846) (fun _ h9 => h9) rfl d_Model_shift_2 ?_
  refine lv_bipush (v := 8) hx hb d_Model_shift_5 (by decide) ?_
  refine lv_lshl (v := (Mo_lo mo) <<< ((8 : Int32).toInt64 &&& 63)) hx hb d_Model_shift_7 rfl ?_
  refine lv_ldc2 (v := 4294967295) hx hb hown (hts (.constantLong R_Model 96 4294967295) (by decide +kernel)) d_Model_shift_8 ?_
  refine lv_land hx hb d_Model_shift_11 ?_
  refine va_put (D := (dC, dI)) (ci := 7) (v := .long (((Mo_lo mo) <<< ((8 : Int32).toInt64 &&& 63)) &&& 4294967295)) (ty := .long) (C := R_Model) (T := T_Model) (N := 27) hx hb hts in_Model ty_Model tyok_Model nm_Model hown hK hP hD hS 0 rfl rfl 22 (by decide) (hts _ t_846) (fun _ h9 => h9) rfl (by decide +kernel) rfl rfl (Nat.le_of_ble_eq_true rfl) d_Model_shift_12 (fun H locs hP hD hS => ?_)
  obtain ⟨mo_1, emo_1, hf⟩ := lt_ex hf
  try dsimp only at hf
  have hP : va_P (dC, dI) vwCl (wMo cI cZ cJ mo_a mo_1) H := by rw [emo_1]; exact hP
  have hD : va_D A (wMo cI cZ cJ mo_a mo_1) := by rw [emo_1]; exact hD
  refine lv_aload_n hx hb d_Model_shift_15 rfl (lv_at hl 0 rfl) ?_
  refine lv_aload_n hx hb d_Model_shift_16 rfl (lv_at hl 0 rfl) ?_
  refine va_get (D := (dC, dI)) (ci := 7) (v := .long (Mo_hi mo_1)) (C := R_Model) (T := T_Model) (N := 27) hx hb hts in_Model hown hK hP 0 rfl rfl 23 (by decide) (hts _ t_847) (fun _ h9 => h9) rfl d_Model_shift_17 ?_
  refine lv_bipush (v := 8) hx hb d_Model_shift_20 (by decide) ?_
  refine lv_lshl (v := (Mo_hi mo_1) <<< ((8 : Int32).toInt64 &&& 63)) hx hb d_Model_shift_22 rfl ?_
  refine lv_ldc2 (v := 4294967295) hx hb hown (hts (.constantLong R_Model 96 4294967295) (by decide +kernel)) d_Model_shift_23 ?_
  refine lv_land hx hb d_Model_shift_26 ?_
  refine lv_ldc2 (v := 255) hx hb hown (hts (.constantLong R_Model 107 255) (by decide +kernel)) d_Model_shift_27 ?_
  refine lv_lor hx hb d_Model_shift_30 ?_
  refine va_put (D := (dC, dI)) (ci := 7) (v := .long ((((Mo_hi mo_1) <<< ((8 : Int32).toInt64 &&& 63)) &&& 4294967295) ||| 255)) (ty := .long) (C := R_Model) (T := T_Model) (N := 27) hx hb hts in_Model ty_Model tyok_Model nm_Model hown hK hP hD hS 0 rfl rfl 23 (by decide) (hts _ t_847) (fun _ h9 => h9) rfl (by decide +kernel) rfl rfl (Nat.le_of_ble_eq_true rfl) d_Model_shift_31 (fun H locs hP hD hS => ?_)
  obtain ⟨mo_3, emo_3, hf⟩ := lt_ex hf
  try dsimp only at hf
  have hP : va_P (dC, dI) vwCl (wMo cI cZ cJ mo_a mo_3) H := by rw [emo_3]; exact hP
  have hD : va_D A (wMo cI cZ cJ mo_a mo_3) := by rw [emo_3]; exact hD
  exact hr34 _ _ _ mo_3 hP hD hS hf
end
set_option maxHeartbeats 4000000 in
set_option maxRecDepth 100000 in
theorem k_Model_shift (l : Launch) (dC : Nat → ClassId) (dI : Nat → Nat → Nat) (cI cZ cJ : ClassId) (mo_a : Nat → Nat) (sz : Nat) {mo : Mo} {mo' : Mo} (hf : f_Model_shift mo = some mo') :
    Met l y_Model_shift ws_Model_shift ({ frames := 0, cells := 0, slots := 0, locals := 0 }) (va_Pc [.ref (mo_a 0)] (kP (dC, dI) vwCl (TYS cI cZ cJ) (wMo cI cZ cJ mo_a mo) sz)) (va_Qv (fun (_ : Unit) => True) (fun _ t => kQ (dC, dI) vwCl (TYS cI cZ cJ) (wMo cI cZ cJ mo_a mo) sz (wMo cI cZ cJ mo_a mo') t) (va_A (wMo cI cZ cJ mo_a mo) sz)) 0 0 (va_A (wMo cI cZ cJ mo_a mo) sz) := by
  refine Met.ofW (cc := c_Model_shift) (maxL := 1) (ret := none) (by decide) rfl ?_
  intro p e s m args below meth c s₁ B hml hv
  obtain ⟨rfl, hsz, hP, hK, hD0, hN⟩ := hv
  have hr := B.returns
  have hlocks := B.notSynchronized
  subst hsz
  have hD := hD0.self (sz := s.heap.size)
  have hl := lv_entry ([.ref (mo_a 0)]) (n := 1) (Nat.le_of_ble_eq_true rfl)
  rw [lg_entry_eq]
  generalize (lg_sl ([.ref (mo_a 0)]) ++ List.replicate (1 - (lg_sl ([.ref (mo_a 0)])).length) Slot.unset).toArray = ls at hl ⊢
  refine B_Model_shift (A := va_A (wMo cI cZ cJ mo_a mo) s.heap.size) ⟨B.exec, B.bytes, hml, findClass_of_methodNamed B.named, fun w h => atoms_spec (ws := ws_Model_shift) B.pre w (List.mem_cons_of_mem _ h), hK, fun q h => Or.inr h, Nat.le_of_ble_eq_true rfl, Nat.le_of_ble_eq_true rfl, hN, Nat.le_of_ble_eq_true rfl, Nat.le_of_ble_eq_true rfl⟩ (fun H locs ls mo'1 hP hD hS hf => ?_) hP hD va_S.rf hl hf
  · cases hf
    exact W.vret B.exec B.bytes hr (fun t ht hW => ⟨⟨(), rfl, trivial, ⟨by rw [ht]; exact hP, va_K.moved hW.alike hK, hD⟩⟩, hS.F ht⟩) hS.2.2 d_Model_shift_34

/-! Model_emit -/
def l_Model_emit_102 (k127 : Mo → Option (Mo)) : Nat → Mo → Option (Mo)
  | 0, _ => none
  | n + 1, mo => bd (f_Model_isShared mo) <| fun r_12 => (if r_12 = 0 then k127 mo else bd (f_Model_outByte mo ((Mo_lo mo) >>> ((24 : Int32).toInt64 &&& 63))) <| fun mo_14 => bd (f_Model_shift mo_14) <| fun mo_15 => (l_Model_emit_102 k127 n) mo_15)
def j_Model_emit_99_8 (mo_5 : Mo) (z0_7 : Int64) : Option (Mo) := lt' (Mo_s_lo mo_5 z0_7) <| fun mo_9 => l_Model_emit_102 (fun mo_16 => some mo_16) 100000 mo_9
def j_Model_emit_80_4 (mo : Mo) (x1 : Int32) (r_2 : Int64) (z0_3 : Int64) : Option (Mo) := lt' (Mo_s_hi mo z0_3) <| fun mo_5 => (if x1 = 1 then j_Model_emit_99_8 mo_5 (Mo_lo mo_5) else j_Model_emit_99_8 mo_5 (r_2 + 1))
def j_Model_emit_23_20 (x1 : Int32) (mo_19 : Mo) : Option (Mo) := gd (inb ((Mo_on mo_19) - 1) 16000) <| gd (inb ((Mo_on mo_19) - 1) 16000) <| lt' (Mo_s_out mo_19 (upd (Mo_out mo_19) ((Mo_on mo_19) - 1).toNatClampNeg ((Mo_out mo_19 ((Mo_on mo_19) - 1).toNatClampNeg) ||| (x1 <<< ((7 - ((Mo_ob mo_19) - (Mo_ob mo_19) / 8 * 8)) &&& 31))))) <| fun mo_23 => lt' (Mo_s_ob mo_23 ((Mo_ob mo_23) + 1)) <| fun mo_25 => some mo_25
def f_Model_emit (mo : Mo) (x1 : Int32) (x2 : Int32) : Option (Mo) := (if 2 ≤ (Mo_kind mo) then bd (f_Model_splitBy mo x2) <| fun r_2 => (if x1 = 1 then j_Model_emit_80_4 mo x1 r_2 r_2 else j_Model_emit_80_4 mo x1 r_2 (Mo_hi mo)) else (if ((Mo_ob mo) - (Mo_ob mo) / 8 * 8) = 0 then bd (f_Model_outByte mo 0) <| fun mo_28 => j_Model_emit_23_20 x1 mo_28 else j_Model_emit_23_20 x1 mo))
section
variable {p : Program} {l : Launch} {e : Env} {R : Room} {s : State} {m : MethodId} {args : Array Value} {below : List Frame} {meth : Method} {c : Code} {Q : State → Prop} {A : Nat → Prop}
set_option maxHeartbeats 4000000 in
set_option maxRecDepth 100000 in
theorem L_Model_emit_102 {cells slots : Nat} {dC : Nat → ClassId} {dI : Nat → Nat → Nat} {cI cZ cJ : ClassId} {mo_a : Nat → Nat} {k127 : Mo → Option (Mo)} {res : Mo} (C0 : cxt p c m s args R cells slots R_Model c_Model_emit tb 5 (dC, dI) vwCl (TYS cI cZ cJ) A 1 22)
    (hk127 : ∀ (H : Heap) (locs : List Loc) (ls : Array Slot) (mo_11 : Mo), va_P (dC, dI) vwCl (wMo cI cZ cJ mo_a mo_11) H → va_D A (wMo cI cZ cJ mo_a mo_11) → va_S A s.heap H locs → lv_has ls 5 [] → k127 mo_11 = some res → W p l e R s m args below meth c H locs cells slots Q (F0 m 127 ls [])) :
    ∀ (n : Nat) (H : Heap) (locs : List Loc) (ls : Array Slot) (mo : Mo), va_P (dC, dI) vwCl (wMo cI cZ cJ mo_a mo) H → va_D A (wMo cI cZ cJ mo_a mo) → va_S A s.heap H locs → lv_has ls 5 [(0, .ref (mo_a 0))] → l_Model_emit_102 k127 n mo = some res → W p l e R s m args below meth c H locs cells slots Q (F0 m 102 ls []) := by
  obtain ⟨hx, hb, hml, hown, hts, hK, hA, hRf, hRl, hN, hRc⟩ := id C0
  intro n
  induction n with
  | zero =>
    intro H locs ls mo hP hD hS hl hf
    exact absurd hf (by simp [l_Model_emit_102])
  | succ n ih =>
    intro H locs ls mo hP hD hS hl hf
    rw [l_Model_emit_102] at hf
    refine lv_aload_n hx hb d_Model_emit_102 rfl (lv_at hl 0 rfl) ?_
    obtain ⟨r_12, hf1, hf⟩ := bd_ex hf
    try dsimp only at hf
    have hPc := hP.sub (ws' := (wMo cI cZ cJ mo_a mo)) [0, 1, 2, 3, 4, 5, 6, 7, 8, 9, 10, 11, 12, 13, 14, 15] rfl
    have hDc := hD.sub (ws' := (wMo cI cZ cJ mo_a mo)) [0, 1, 2, 3, 4, 5, 6, 7, 8, 9, 10, 11, 12, 13, 14, 15] (by decide) rfl
    have hFc := va_free (wc := (wMo cI cZ cJ mo_a mo)) hD hS hA [0, 1, 2, 3, 4, 5, 6, 7, 8, 9, 10, 11, 12, 13, 14, 15] rfl
    refine va_calli (va_runV (As := []) (rest := []) ⟨hx, hb, hml, hown, hts⟩ (k_Model_isShared l dC dI cI cZ cJ mo_a H.size hf1) (cwV 0 hts (gV t_995 t_997 t_35 t_63 t_998) rfl rfl rfl hd_Model_isShared ⟨Nat.le_trans (Nat.le_of_ble_eq_true rfl) hRf, Nat.le_trans (Nat.le_of_ble_eq_true rfl) hRl⟩) ⟨kP_blind, va_recv hK hP (ci := 7) (q0 := 0) rfl rfl, kP_at hPc hK hDc hN⟩ rfl rfl hl.1 rfl (lv_room (Nat.le_of_ble_eq_true rfl)) d_Model_emit_103 hRc) hS (fun q _ h => hFc q h) hFc (fun r9 u t H1 locs ht hvm hw hB hz1 hk1 hS => ?_)
    rw [hw.1]
    obtain ⟨hP, hD⟩ := kQ_join (wr := ([] : va_W)) (w1 := (wMo cI cZ cJ mo_a mo)) hP hD [0, 1, 2, 3, 4, 5, 6, 7, 8, 9, 10, 11, 12, 13, 14, 15] [] rfl rfl (by decide) (by decide) ht hk1 hFc hB
    generalize H1 = H at hP hS ⊢
    have hP : va_P (dC, dI) vwCl (wMo cI cZ cJ mo_a mo) H := hP.sub [0, 1, 2, 3, 4, 5, 6, 7, 8, 9, 10, 11, 12, 13, 14, 15] rfl
    have hD : va_D A (wMo cI cZ cJ mo_a mo) := hD.sub [0, 1, 2, 3, 4, 5, 6, 7, 8, 9, 10, 11, 12, 13, 14, 15] (by decide) rfl
    refine lv_if_eq (tgt := 127) hx hb d_Model_emit_106 (by decide) (fun c_13 => ?_) (fun c_13 => ?_)
    · rw [if_pos c_13] at hf
      exact hk127 _ _ _ mo hP hD hS (lv_sub hl [] rfl) hf
    · rw [if_neg c_13] at hf
      refine lv_aload_n hx hb d_Model_emit_109 rfl (lv_at hl 0 rfl) ?_
      refine lv_aload_n hx hb d_Model_emit_110 rfl (lv_at hl 0 rfl) ?_
      refine va_get (D := (dC, dI)) (ci := 7) (v := .long (Mo_lo mo)) (C := R_Model) (T := T_Model) (N := 27) hx hb hts in_Model hown hK hP 0 rfl rfl 22 (by decide) (hts _ t_846) (fun _ h9 => h9) rfl d_Model_emit_111 ?_
      refine lv_bipush (v := 24) hx hb d_Model_emit_114 (by decide) ?_
      refine lv_lshr (v := (Mo_lo mo) >>> ((24 : Int32).toInt64 &&& 63)) hx hb d_Model_emit_116 rfl ?_
      obtain ⟨mo_14, hf1, hf⟩ := bd_ex hf
      try dsimp only at hf
      have hPc := hP.sub (ws' := (wMo cI cZ cJ mo_a mo)) [0, 1, 2, 3, 4, 5, 6, 7, 8, 9, 10, 11, 12, 13, 14, 15] rfl
      have hDc := hD.sub (ws' := (wMo cI cZ cJ mo_a mo)) [0, 1, 2, 3, 4, 5, 6, 7, 8, 9, 10, 11, 12, 13, 14, 15] (by decide) rfl
      have hFc := va_free (wc := (wMo cI cZ cJ mo_a mo)) hD hS hA [0, 1, 2, 3, 4, 5, 6, 7, 8, 9, 10, 11, 12, 13, 14, 15] rfl
      refine va_callv (va_runV (As := [.long ((Mo_lo mo) >>> ((24 : Int32).toInt64 &&& 63))]) (rest := []) ⟨hx, hb, hml, hown, hts⟩ (k_Model_outByte l dC dI cI cZ cJ mo_a H.size hf1) (cwV 1 hts (gV t_986 t_988 t_33 t_63 t_989) rfl rfl rfl hd_Model_outByte ⟨Nat.le_trans (Nat.le_of_ble_eq_true rfl) hRf, Nat.le_trans (Nat.le_of_ble_eq_true rfl) hRl⟩) ⟨kP_blind, va_recv hK hP (ci := 7) (q0 := 0) rfl rfl, kP_at hPc hK hDc hN⟩ rfl rfl hl.1 rfl (lv_room (Nat.le_of_ble_eq_true rfl)) d_Model_emit_117 hRc) hS (fun q _ h => hFc q h) hFc (fun u t H1 locs ht hvm hw hB hz1 hk1 hS => ?_)
      obtain ⟨hP, hD⟩ := kQ_join (wr := ([] : va_W)) (w1 := (wMo cI cZ cJ mo_a mo_14)) hP hD [0, 1, 2, 3, 4, 5, 6, 7, 8, 9, 10, 11, 12, 13, 14, 15] [] rfl rfl (by decide) (by decide) ht hk1 hFc hB
      generalize H1 = H at hP hS ⊢
      have hP : va_P (dC, dI) vwCl (wMo cI cZ cJ mo_a mo_14) H := hP.sub [0, 1, 2, 3, 4, 5, 6, 7, 8, 9, 10, 11, 12, 13, 14, 15] rfl
      have hD : va_D A (wMo cI cZ cJ mo_a mo_14) := hD.sub [0, 1, 2, 3, 4, 5, 6, 7, 8, 9, 10, 11, 12, 13, 14, 15] (by decide) rfl
      refine lv_aload_n hx hb d_Model_emit_120 rfl (lv_at hl 0 rfl) ?_
      obtain ⟨mo_15, hf1, hf⟩ := bd_ex hf
      try dsimp only at hf
      have hPc := hP.sub (ws' := (wMo cI cZ cJ mo_a mo_14)) [0, 1, 2, 3, 4, 5, 6, 7, 8, 9, 10, 11, 12, 13, 14, 15] rfl
      have hDc := hD.sub (ws' := (wMo cI cZ cJ mo_a mo_14)) [0, 1, 2, 3, 4, 5, 6, 7, 8, 9, 10, 11, 12, 13, 14, 15] (by decide) rfl
      have hFc := va_free (wc := (wMo cI cZ cJ mo_a mo_14)) hD hS hA [0, 1, 2, 3, 4, 5, 6, 7, 8, 9, 10, 11, 12, 13, 14, 15] rfl
      refine va_callv (va_runV (As := []) (rest := []) ⟨hx, hb, hml, hown, hts⟩ (k_Model_shift l dC dI cI cZ cJ mo_a H.size hf1) (cwV 0 hts (gV t_999 t_1001 t_36 t_63 t_1002) rfl rfl rfl hd_Model_shift ⟨Nat.le_trans (Nat.le_of_ble_eq_true rfl) hRf, Nat.le_trans (Nat.le_of_ble_eq_true rfl) hRl⟩) ⟨kP_blind, va_recv hK hP (ci := 7) (q0 := 0) rfl rfl, kP_at hPc hK hDc hN⟩ rfl rfl hl.1 rfl (lv_room (Nat.le_of_ble_eq_true rfl)) d_Model_emit_121 hRc) hS (fun q _ h => hFc q h) hFc (fun u t H1 locs ht hvm hw hB hz1 hk1 hS => ?_)
      obtain ⟨hP, hD⟩ := kQ_join (wr := ([] : va_W)) (w1 := (wMo cI cZ cJ mo_a mo_15)) hP hD [0, 1, 2, 3, 4, 5, 6, 7, 8, 9, 10, 11, 12, 13, 14, 15] [] rfl rfl (by decide) (by decide) ht hk1 hFc hB
      generalize H1 = H at hP hS ⊢
      have hP : va_P (dC, dI) vwCl (wMo cI cZ cJ mo_a mo_15) H := hP.sub [0, 1, 2, 3, 4, 5, 6, 7, 8, 9, 10, 11, 12, 13, 14, 15] rfl
      have hD : va_D A (wMo cI cZ cJ mo_a mo_15) := hD.sub [0, 1, 2, 3, 4, 5, 6, 7, 8, 9, 10, 11, 12, 13, 14, 15] (by decide) rfl
      refine lv_goto (tgt := 102) hx hb d_Model_emit_124 (by decide) ?_
      exact ih _ _ _ mo_15 hP hD hS (lv_sub hl [0] rfl) hf
set_option maxHeartbeats 4000000 in
set_option maxRecDepth 100000 in
theorem B_Model_emit {cells slots : Nat} {dC : Nat → ClassId} {dI : Nat → Nat → Nat} {cI cZ cJ : ClassId} {mo_a : Nat → Nat} {mo : Mo} {x1 : Int32} {x2 : Int32} {res : Mo} (C0 : cxt p c m s args R cells slots R_Model c_Model_emit tb 5 (dC, dI) vwCl (TYS cI cZ cJ) A 1 22)
    (hr59 : ∀ (H : Heap) (locs : List Loc) (ls : Array Slot) (mo' : Mo), va_P (dC, dI) vwCl (wMo cI cZ cJ mo_a mo') H → va_D A (wMo cI cZ cJ mo_a mo') → va_S A s.heap H locs → some mo' = some res → W p l e R s m args below meth c H locs cells slots Q (F0 m 59 ls []))
    (hr127 : ∀ (H : Heap) (locs : List Loc) (ls : Array Slot) (mo' : Mo), va_P (dC, dI) vwCl (wMo cI cZ cJ mo_a mo') H → va_D A (wMo cI cZ cJ mo_a mo') → va_S A s.heap H locs → some mo' = some res → W p l e R s m args below meth c H locs cells slots Q (F0 m 127 ls []))
    {H : Heap} {locs : List Loc} {ls : Array Slot} (hP : va_P (dC, dI) vwCl (wMo cI cZ cJ mo_a mo) H) (hD : va_D A (wMo cI cZ cJ mo_a mo)) (hS : va_S A s.heap H locs) (hl : lv_has ls 5 [(0, .ref (mo_a 0)), (1, .int x1), (2, .int x2)]) (hf : f_Model_emit mo x1 x2 = some res) : W p l e R s m args below meth c H locs cells slots Q (F0 m 0 ls []) := by
  obtain ⟨hx, hb, hml, hown, hts, hK, hA, hRf, hRl, hN, hRc⟩ := id C0
  rw [f_Model_emit] at hf
  refine lv_aload_n hx hb d_Model_emit_0 rfl (lv_at hl 0 rfl) ?_
  refine va_get (D := (dC, dI)) (ci := 7) (v := .int (Mo_kind mo)) (C := R_Model) (T := T_Model) (N := 27) hx hb hts in_Model hown hK hP 0 rfl rfl 1 (by decide) (hts _ t_825) (fun _ h9 => h9) rfl d_Model_emit_1 ?_
  refine lv_iconst (v := 2) hx hb d_Model_emit_4 (by decide) ?_
  refine lv_icmp_ge (tgt := 60) hx hb d_Model_emit_5 (by decide) (fun c_1 => ?_) (fun c_1 => ?_)
  · rw [if_pos c_1] at hf
    refine lv_aload_n hx hb d_Model_emit_60 rfl (lv_at hl 0 rfl) ?_
    refine lv_iload_n hx hb d_Model_emit_61 rfl (lv_at hl 2 rfl) ?_
    obtain ⟨r_2, hf1, hf⟩ := bd_ex hf
    try dsimp only at hf
    have hPc := hP.sub (ws' := (wMo cI cZ cJ mo_a mo)) [0, 1, 2, 3, 4, 5, 6, 7, 8, 9, 10, 11, 12, 13, 14, 15] rfl
    have hDc := hD.sub (ws' := (wMo cI cZ cJ mo_a mo)) [0, 1, 2, 3, 4, 5, 6, 7, 8, 9, 10, 11, 12, 13, 14, 15] (by decide) rfl
    have hFc := va_free (wc := (wMo cI cZ cJ mo_a mo)) hD hS hA [0, 1, 2, 3, 4, 5, 6, 7, 8, 9, 10, 11, 12, 13, 14, 15] rfl
    refine va_calll (va_runV (As := [.int x2]) (rest := []) ⟨hx, hb, hml, hown, hts⟩ (k_Model_splitBy l dC dI cI cZ cJ mo_a H.size hf1) (cwV 1 hts (gV t_990 t_992 t_34 t_63 t_993) rfl rfl rfl hd_Model_splitBy ⟨Nat.le_trans (Nat.le_of_ble_eq_true rfl) hRf, Nat.le_trans (Nat.le_of_ble_eq_true rfl) hRl⟩) ⟨kP_blind, va_recv hK hP (ci := 7) (q0 := 0) rfl rfl, kP_at hPc hK hDc hN⟩ rfl rfl hl.1 rfl (lv_room (Nat.le_of_ble_eq_true rfl)) d_Model_emit_62 hRc) hS (fun q _ h => hFc q h) hFc (fun r9 u t H1 locs ht hvm hw hB hz1 hk1 hS => ?_)
    rw [hw]
    obtain ⟨hP, hD⟩ := kQ_join (wr := ([] : va_W)) (w1 := (wMo cI cZ cJ mo_a mo)) hP hD [0, 1, 2, 3, 4, 5, 6, 7, 8, 9, 10, 11, 12, 13, 14, 15] [] rfl rfl (by decide) (by decide) ht hk1 hFc hB
    generalize H1 = H at hP hS ⊢
    have hP : va_P (dC, dI) vwCl (wMo cI cZ cJ mo_a mo) H := hP.sub [0, 1, 2, 3, 4, 5, 6, 7, 8, 9, 10, 11, 12, 13, 14, 15] rfl
    have hD : va_D A (wMo cI cZ cJ mo_a mo) := hD.sub [0, 1, 2, 3, 4, 5, 6, 7, 8, 9, 10, 11, 12, 13, 14, 15] (by decide) rfl
    refine lv_lstore_n (lv' := [(3, .long r_2), (0, .ref (mo_a 0)), (1, .int x1), (2, .int x2)]) hx hb d_Model_emit_65 rfl hl (by decide) rfl (fun ls hl => ?_)
    refine lv_aload_n hx hb d_Model_emit_66 rfl (lv_at hl 1 rfl) ?_
    refine lv_iload_n hx hb d_Model_emit_67 rfl (lv_at hl 2 rfl) ?_
    refine lv_iconst (v := 1) hx hb d_Model_emit_68 (by decide) ?_
    have J80_3 : ∀ (H : Heap) (locs : List Loc) (ls : Array Slot) (z0_3 : Int64), va_P (dC, dI) vwCl (wMo cI cZ cJ mo_a mo) H → va_D A (wMo cI cZ cJ mo_a mo) → va_S A s.heap H locs → lv_has ls 5 [(0, .ref (mo_a 0)), (1, .int x1), (3, .long r_2)] → j_Model_emit_80_4 mo x1 r_2 z0_3 = some res → W p l e R s m args below meth c H locs cells slots Q (F0 m 80 ls [.long z0_3, .ref (mo_a 0)]) := by
      intro H locs ls z0_3 hP hD hS hl hf
      rw [j_Model_emit_80_4] at hf
      refine va_put (D := (dC, dI)) (ci := 7) (v := .long z0_3) (ty := .long) (C := R_Model) (T := T_Model) (N := 27) hx hb hts in_Model ty_Model tyok_Model nm_Model hown hK hP hD hS 0 rfl rfl 23 (by decide) (hts _ t_847) (fun _ h9 => h9) rfl (by decide +kernel) rfl rfl (Nat.le_of_ble_eq_true rfl) d_Model_emit_80 (fun H locs hP hD hS => ?_)
      obtain ⟨mo_5, emo_5, hf⟩ := lt_ex hf
      try dsimp only at hf
      have hP : va_P (dC, dI) vwCl (wMo cI cZ cJ mo_a mo_5) H := by rw [emo_5]; exact hP
      have hD : va_D A (wMo cI cZ cJ mo_a mo_5) := by rw [emo_5]; exact hD
      refine lv_aload_n hx hb d_Model_emit_83 rfl (lv_at hl 0 rfl) ?_
      refine lv_iload_n hx hb d_Model_emit_84 rfl (lv_at hl 1 rfl) ?_
      refine lv_iconst (v := 1) hx hb d_Model_emit_85 (by decide) ?_
      have J99_7 : ∀ (H : Heap) (locs : List Loc) (ls : Array Slot) (z0_7 : Int64), va_P (dC, dI) vwCl (wMo cI cZ cJ mo_a mo_5) H → va_D A (wMo cI cZ cJ mo_a mo_5) → va_S A s.heap H locs → lv_has ls 5 [(0, .ref (mo_a 0))] → j_Model_emit_99_8 mo_5 z0_7 = some res → W p l e R s m args below meth c H locs cells slots Q (F0 m 99 ls [.long z0_7, .ref (mo_a 0)]) := by
        intro H locs ls z0_7 hP hD hS hl hf
        rw [j_Model_emit_99_8] at hf
        refine va_put (D := (dC, dI)) (ci := 7) (v := .long z0_7) (ty := .long) (C := R_Model) (T := T_Model) (N := 27) hx hb hts in_Model ty_Model tyok_Model nm_Model hown hK hP hD hS 0 rfl rfl 22 (by decide) (hts _ t_846) (fun _ h9 => h9) rfl (by decide +kernel) rfl rfl (Nat.le_of_ble_eq_true rfl) d_Model_emit_99 (fun H locs hP hD hS => ?_)
        obtain ⟨mo_9, emo_9, hf⟩ := lt_ex hf
        try dsimp only at hf
        have hP : va_P (dC, dI) vwCl (wMo cI cZ cJ mo_a mo_9) H := by rw [emo_9]; exact hP
        have hD : va_D A (wMo cI cZ cJ mo_a mo_9) := by rw [emo_9]; exact hD
        refine L_Model_emit_102 C0 (fun H locs ls mo_16 hP hD hS hl hf => ?_) 100000 _ _ _ mo_9 hP hD hS (lv_sub hl [0] rfl) hf
        try dsimp only at hf
        exact hr127 _ _ _ mo_16 hP hD hS hf
      refine lv_icmp_ne (tgt := 96) hx hb d_Model_emit_86 (by decide) (fun c_17 => ?_) (fun c_17 => ?_)
      · rw [if_neg c_17] at hf
        refine lv_lload_n hx hb d_Model_emit_96 rfl (lv_at hl 2 rfl) ?_
        refine lv_lconst (v := 1) hx hb d_Model_emit_97 (by decide) ?_
        refine lv_ladd hx hb d_Model_emit_98 ?_
        exact J99_7 _ _ _ (r_2 + 1) hP hD hS (lv_sub hl [0] rfl) hf
      · rw [if_pos c_17] at hf
        refine lv_aload_n hx hb d_Model_emit_89 rfl (lv_at hl 0 rfl) ?_
        refine va_get (D := (dC, dI)) (ci := 7) (v := .long (Mo_lo mo_5)) (C := R_Model) (T := T_Model) (N := 27) hx hb hts in_Model hown hK hP 0 rfl rfl 22 (by decide) (hts _ t_846) (fun _ h9 => h9) rfl d_Model_emit_90 ?_
        refine lv_goto (tgt := 99) hx hb d_Model_emit_93 (by decide) ?_
        exact J99_7 _ _ _ (Mo_lo mo_5) hP hD hS (lv_sub hl [0] rfl) hf
    refine lv_icmp_ne (tgt := 76) hx hb d_Model_emit_69 (by decide) (fun c_18 => ?_) (fun c_18 => ?_)
    · rw [if_neg c_18] at hf
      refine lv_aload_n hx hb d_Model_emit_76 rfl (lv_at hl 1 rfl) ?_
      refine va_get (D := (dC, dI)) (ci := 7) (v := .long (Mo_hi mo)) (C := R_Model) (T := T_Model) (N := 27) hx hb hts in_Model hown hK hP 0 rfl rfl 23 (by decide) (hts _ t_847) (fun _ h9 => h9) rfl d_Model_emit_77 ?_
      exact J80_3 _ _ _ (Mo_hi mo) hP hD hS (lv_sub hl [1, 2, 0] rfl) hf
    · rw [if_pos c_18] at hf
      refine lv_lload_n hx hb d_Model_emit_72 rfl (lv_at hl 0 rfl) ?_
      refine lv_goto (tgt := 80) hx hb d_Model_emit_73 (by decide) ?_
      exact J80_3 _ _ _ r_2 hP hD hS (lv_sub hl [1, 2, 0] rfl) hf
  · rw [if_neg c_1] at hf
    refine lv_aload_n hx hb d_Model_emit_8 rfl (lv_at hl 0 rfl) ?_
    refine va_get (D := (dC, dI)) (ci := 7) (v := .int (Mo_ob mo)) (C := R_Model) (T := T_Model) (N := 27) hx hb hts in_Model hown hK hP 0 rfl rfl 16 (by decide) (hts _ t_840) (fun _ h9 => h9) rfl d_Model_emit_9 ?_
    refine lv_bipush (v := 8) hx hb d_Model_emit_12 (by decide) ?_
    refine lv_irem hx hb d_Model_emit_14 (by decide) ?_
    have J23_19 : ∀ (H : Heap) (locs : List Loc) (ls : Array Slot) (mo_19 : Mo), va_P (dC, dI) vwCl (wMo cI cZ cJ mo_a mo_19) H → va_D A (wMo cI cZ cJ mo_a mo_19) → va_S A s.heap H locs → lv_has ls 5 [(0, .ref (mo_a 0)), (1, .int x1)] → j_Model_emit_23_20 x1 mo_19 = some res → W p l e R s m args below meth c H locs cells slots Q (F0 m 23 ls []) := by
      intro H locs ls mo_19 hP hD hS hl hf
      rw [j_Model_emit_23_20] at hf
      refine lv_aload_n hx hb d_Model_emit_23 rfl (lv_at hl 0 rfl) ?_
      refine va_get (D := (dC, dI)) (ci := 7) (v := .ref (mo_a 12)) (C := R_Model) (T := T_Model) (N := 27) hx hb hts in_Model hown hK hP 0 rfl rfl 17 (by decide) (hts _ t_841) (fun _ h9 => h9) rfl d_Model_emit_24 ?_
      refine lv_aload_n hx hb d_Model_emit_27 rfl (lv_at hl 0 rfl) ?_
      refine va_get (D := (dC, dI)) (ci := 7) (v := .int (Mo_on mo_19)) (C := R_Model) (T := T_Model) (N := 27) hx hb hts in_Model hown hK hP 0 rfl rfl 15 (by decide) (hts _ t_839) (fun _ h9 => h9) rfl d_Model_emit_28 ?_
      refine lv_iconst (v := 1) hx hb d_Model_emit_31 (by decide) ?_
      refine lv_isub hx hb d_Model_emit_32 ?_
      refine lv_dup2_11 hx hb d_Model_emit_33 rfl rfl ?_
      obtain ⟨h_21, hf⟩ := gd_ex hf
      refine va_iald (f := Mo_out mo_19) hx hb hK hP 12 0 rfl rfl (inb_in h_21) d_Model_emit_34 ?_
      refine lv_iload_n hx hb d_Model_emit_35 rfl (lv_at hl 1 rfl) ?_
      refine lv_bipush (v := 7) hx hb d_Model_emit_36 (by decide) ?_
      refine lv_aload_n hx hb d_Model_emit_38 rfl (lv_at hl 0 rfl) ?_
      refine va_get (D := (dC, dI)) (ci := 7) (v := .int (Mo_ob mo_19)) (C := R_Model) (T := T_Model) (N := 27) hx hb hts in_Model hown hK hP 0 rfl rfl 16 (by decide) (hts _ t_840) (fun _ h9 => h9) rfl d_Model_emit_39 ?_
      refine lv_bipush (v := 8) hx hb d_Model_emit_42 (by decide) ?_
      refine lv_irem hx hb d_Model_emit_44 (by decide) ?_
      refine lv_isub hx hb d_Model_emit_45 ?_
      refine lv_ishl hx hb d_Model_emit_46 ?_
      refine lv_ior hx hb d_Model_emit_47 ?_
      obtain ⟨h_22, hf⟩ := gd_ex hf
      refine va_iast (f := Mo_out mo_19) hx hb hK hP hD hS 12 0 rfl rfl (inb_in h_22) d_Model_emit_48 (fun H locs hP hD hS => ?_)
      obtain ⟨mo_23, emo_23, hf⟩ := lt_ex hf
      try dsimp only at hf
      have hP : va_P (dC, dI) vwCl (wMo cI cZ cJ mo_a mo_23) H := by rw [emo_23]; exact hP
      have hD : va_D A (wMo cI cZ cJ mo_a mo_23) := by rw [emo_23]; exact hD
      refine lv_aload_n hx hb d_Model_emit_49 rfl (lv_at hl 0 rfl) ?_
      refine lv_dup hx hb d_Model_emit_50 rfl ?_
      refine va_get (D := (dC, dI)) (ci := 7) (v := .int (Mo_ob mo_23)) (C := R_Model) (T := T_Model) (N := 27) hx hb hts in_Model hown hK hP 0 rfl rfl 16 (by decide) (hts _ t_840) (fun _ h9 => h9) rfl d_Model_emit_51 ?_
      refine lv_iconst (v := 1) hx hb d_Model_emit_54 (by decide) ?_
      refine lv_iadd hx hb d_Model_emit_55 ?_
      refine va_put (D := (dC, dI)) (ci := 7) (v := .int ((Mo_ob mo_23) + 1)) (ty := .int) (C := R_Model) (T := T_Model) (N := 27) hx hb hts in_Model ty_Model tyok_Model nm_Model hown hK hP hD hS 0 rfl rfl 16 (by decide) (hts _ t_840) (fun _ h9 => h9) rfl (by decide +kernel) rfl rfl (Nat.le_of_ble_eq_true rfl) d_Model_emit_56 (fun H locs hP hD hS => ?_)
      obtain ⟨mo_25, emo_25, hf⟩ := lt_ex hf
      try dsimp only at hf
      have hP : va_P (dC, dI) vwCl (wMo cI cZ cJ mo_a mo_25) H := by rw [emo_25]; exact hP
      have hD : va_D A (wMo cI cZ cJ mo_a mo_25) := by rw [emo_25]; exact hD
      exact hr59 _ _ _ mo_25 hP hD hS hf
    refine lv_if_ne (tgt := 23) hx hb d_Model_emit_15 (by decide) (fun c_27 => ?_) (fun c_27 => ?_)
    · rw [if_neg c_27] at hf
      exact J23_19 _ _ _ mo hP hD hS (lv_sub hl [0, 1] rfl) hf
    · rw [if_pos c_27] at hf
      refine lv_aload_n hx hb d_Model_emit_18 rfl (lv_at hl 0 rfl) ?_
      refine lv_lconst (v := 0) hx hb d_Model_emit_19 (by decide) ?_
      obtain ⟨mo_28, hf1, hf⟩ := bd_ex hf
      try dsimp only at hf
      have hPc := hP.sub (ws' := (wMo cI cZ cJ mo_a mo)) [0, 1, 2, 3, 4, 5, 6, 7, 8, 9, 10, 11, 12, 13, 14, 15] rfl
      have hDc := hD.sub (ws' := (wMo cI cZ cJ mo_a mo)) [0, 1, 2, 3, 4, 5, 6, 7, 8, 9, 10, 11, 12, 13, 14, 15] (by decide) rfl
      have hFc := va_free (wc := (wMo cI cZ cJ mo_a mo)) hD hS hA [0, 1, 2, 3, 4, 5, 6, 7, 8, 9, 10, 11, 12, 13, 14, 15] rfl
      refine va_callv (va_runV (As := [.long 0]) (rest := []) ⟨hx, hb, hml, hown, hts⟩ (k_Model_outByte l dC dI cI cZ cJ mo_a H.size hf1) (cwV 1 hts (gV t_986 t_988 t_33 t_63 t_989) rfl rfl rfl hd_Model_outByte ⟨Nat.le_trans (Nat.le_of_ble_eq_true rfl) hRf, Nat.le_trans (Nat.le_of_ble_eq_true rfl) hRl⟩) ⟨kP_blind, va_recv hK hP (ci := 7) (q0 := 0) rfl rfl, kP_at hPc hK hDc hN⟩ rfl rfl hl.1 rfl (lv_room (Nat.le_of_ble_eq_true rfl)) d_Model_emit_20 hRc) hS (fun q _ h => hFc q h) hFc (fun u t H1 locs ht hvm hw hB hz1 hk1 hS => ?_)
      obtain ⟨hP, hD⟩ := kQ_join (wr := ([] : va_W)) (w1 := (wMo cI cZ cJ mo_a mo_28)) hP hD [0, 1, 2, 3, 4, 5, 6, 7, 8, 9, 10, 11, 12, 13, 14, 15] [] rfl rfl (by decide) (by decide) ht hk1 hFc hB
      generalize H1 = H at hP hS ⊢
      have hP : va_P (dC, dI) vwCl (wMo cI cZ cJ mo_a mo_28) H := hP.sub [0, 1, 2, 3, 4, 5, 6, 7, 8, 9, 10, 11, 12, 13, 14, 15] rfl
      have hD : va_D A (wMo cI cZ cJ mo_a mo_28) := hD.sub [0, 1, 2, 3, 4, 5, 6, 7, 8, 9, 10, 11, 12, 13, 14, 15] (by decide) rfl
      exact J23_19 _ _ _ mo_28 hP hD hS (lv_sub hl [0, 1] rfl) hf
end
set_option maxHeartbeats 4000000 in
set_option maxRecDepth 100000 in
theorem k_Model_emit (l : Launch) (dC : Nat → ClassId) (dI : Nat → Nat → Nat) (cI cZ cJ : ClassId) (mo_a : Nat → Nat) (sz : Nat) {mo : Mo} {x1 : Int32} {x2 : Int32} {mo' : Mo} (hf : f_Model_emit mo x1 x2 = some mo') :
    Met l y_Model_emit ws_Model_emit ({ frames := 1, cells := 0, slots := 0, locals := 22 }) (va_Pc [.ref (mo_a 0), .int x1, .int x2] (kP (dC, dI) vwCl (TYS cI cZ cJ) (wMo cI cZ cJ mo_a mo) sz)) (va_Qv (fun (_ : Unit) => True) (fun _ t => kQ (dC, dI) vwCl (TYS cI cZ cJ) (wMo cI cZ cJ mo_a mo) sz (wMo cI cZ cJ mo_a mo') t) (va_A (wMo cI cZ cJ mo_a mo) sz)) 0 0 (va_A (wMo cI cZ cJ mo_a mo) sz) := by
  refine Met.ofW (cc := c_Model_emit) (maxL := 5) (ret := none) (by decide) rfl ?_
  intro p e s m args below meth c s₁ B hml hv
  obtain ⟨rfl, hsz, hP, hK, hD0, hN⟩ := hv
  have hr := B.returns
  have hlocks := B.notSynchronized
  subst hsz
  have hD := hD0.self (sz := s.heap.size)
  have hl := lv_entry ([.ref (mo_a 0), .int x1, .int x2]) (n := 5) (Nat.le_of_ble_eq_true rfl)
  rw [lg_entry_eq]
  generalize (lg_sl ([.ref (mo_a 0), .int x1, .int x2]) ++ List.replicate (5 - (lg_sl ([.ref (mo_a 0), .int x1, .int x2])).length) Slot.unset).toArray = ls at hl ⊢
  refine B_Model_emit (A := va_A (wMo cI cZ cJ mo_a mo) s.heap.size) ⟨B.exec, B.bytes, hml, findClass_of_methodNamed B.named, fun w h => atoms_spec (ws := ws_Model_emit) B.pre w (List.mem_cons_of_mem _ h), hK, fun q h => Or.inr h, Nat.le_of_ble_eq_true rfl, Nat.le_of_ble_eq_true rfl, hN, Nat.le_of_ble_eq_true rfl, Nat.le_of_ble_eq_true rfl⟩ (fun H locs ls mo'1 hP hD hS hf => ?_) (fun H locs ls mo'1 hP hD hS hf => ?_) hP hD va_S.rf hl hf
  · cases hf
    exact W.vret B.exec B.bytes hr (fun t ht hW => ⟨⟨(), rfl, trivial, ⟨by rw [ht]; exact hP, va_K.moved hW.alike hK, hD⟩⟩, hS.F ht⟩) hS.2.2 d_Model_emit_59
  · cases hf
    exact W.vret B.exec B.bytes hr (fun t ht hW => ⟨⟨(), rfl, trivial, ⟨by rw [ht]; exact hP, va_K.moved hW.alike hK, hD⟩⟩, hS.F ht⟩) hS.2.2 d_Model_emit_127

/-! Model_inByte -/
def f_Model_inByte (mo : Mo) : Option (Int32 × Mo) := (if (Mo_inn mo) ≤ (Mo_ia mo) then lt' (Mo_s_ia mo ((Mo_ia mo) + 1)) <| fun mo_2 => some (0, mo_2) else gd (inb (Mo_ia mo) 3000) <| lt' (Mo_inp mo (Mo_ia mo).toNatClampNeg) <| fun x1_5 => lt' (Mo_s_ia mo ((Mo_ia mo) + 1)) <| fun mo_6 => some (x1_5, mo_6))
section
variable {p : Program} {l : Launch} {e : Env} {R : Room} {s : State} {m : MethodId} {args : Array Value} {below : List Frame} {meth : Method} {c : Code} {Q : State → Prop} {A : Nat → Prop}
set_option maxHeartbeats 4000000 in
set_option maxRecDepth 100000 in
theorem B_Model_inByte {cells slots : Nat} {dC : Nat → ClassId} {dI : Nat → Nat → Nat} {cI cZ cJ : ClassId} {mo_a : Nat → Nat} {mo : Mo} {res : Int32 × Mo} (C0 : cxt p c m s args R cells slots R_Model c_Model_inByte tb 2 (dC, dI) vwCl (TYS cI cZ cJ) A 0 0)
    (hr36 : ∀ (H : Heap) (locs : List Loc) (ls : Array Slot) (v : Int32) (mo' : Mo), va_P (dC, dI) vwCl (wMo cI cZ cJ mo_a mo') H → va_D A (wMo cI cZ cJ mo_a mo') → va_S A s.heap H locs → some (v, mo') = some res → W p l e R s m args below meth c H locs cells slots Q (F0 m 36 ls [.int v]))
    {H : Heap} {locs : List Loc} {ls : Array Slot} (hP : va_P (dC, dI) vwCl (wMo cI cZ cJ mo_a mo) H) (hD : va_D A (wMo cI cZ cJ mo_a mo)) (hS : va_S A s.heap H locs) (hl : lv_has ls 2 [(0, .ref (mo_a 0))]) (hf : f_Model_inByte mo = some res) : W p l e R s m args below meth c H locs cells slots Q (F0 m 0 ls []) := by
  obtain ⟨hx, hb, hml, hown, hts, hK, hA, hRf, hRl, hN, hRc⟩ := id C0
  rw [f_Model_inByte] at hf
  refine lv_aload_n hx hb d_Model_inByte_0 rfl (lv_at hl 0 rfl) ?_
  refine va_get (D := (dC, dI)) (ci := 7) (v := .int (Mo_ia mo)) (C := R_Model) (T := T_Model) (N := 27) hx hb hts in_Model hown hK hP 0 rfl rfl 19 (by decide) (hts _ t_843) (fun _ h9 => h9) rfl d_Model_inByte_1 ?_
  refine lv_aload_n hx hb d_Model_inByte_4 rfl (lv_at hl 0 rfl) ?_
  refine va_get (D := (dC, dI)) (ci := 7) (v := .int (Mo_inn mo)) (C := R_Model) (T := T_Model) (N := 27) hx hb hts in_Model hown hK hP 0 rfl rfl 18 (by decide) (hts _ t_842) (fun _ h9 => h9) rfl d_Model_inByte_5 ?_
  refine lv_icmp_ge (tgt := 23) hx hb d_Model_inByte_8 (by decide) (fun c_1 => ?_) (fun c_1 => ?_)
  · rw [if_pos c_1] at hf
    refine lv_iconst (v := 0) hx hb d_Model_inByte_23 (by decide) ?_
    refine lv_istore_n (lv' := [(1, .int 0), (0, .ref (mo_a 0))]) hx hb d_Model_inByte_24 rfl hl (by decide) rfl (fun ls hl => ?_)
    refine lv_aload_n hx hb d_Model_inByte_25 rfl (lv_at hl 1 rfl) ?_
    refine lv_dup hx hb d_Model_inByte_26 rfl ?_
    refine va_get (D := (dC, dI)) (ci := 7) (v := .int (Mo_ia mo)) (C := R_Model) (T := T_Model) (N := 27) hx hb hts in_Model hown hK hP 0 rfl rfl 19 (by decide) (hts _ t_843) (fun _ h9 => h9) rfl d_Model_inByte_27 ?_
    refine lv_iconst (v := 1) hx hb d_Model_inByte_30 (by decide) ?_
    refine lv_iadd hx hb d_Model_inByte_31 ?_
    refine va_put (D := (dC, dI)) (ci := 7) (v := .int ((Mo_ia mo) + 1)) (ty := .int) (C := R_Model) (T := T_Model) (N := 27) hx hb hts in_Model ty_Model tyok_Model nm_Model hown hK hP hD hS 0 rfl rfl 19 (by decide) (hts _ t_843) (fun _ h9 => h9) rfl (by decide +kernel) rfl rfl (Nat.le_of_ble_eq_true rfl) d_Model_inByte_32 (fun H locs hP hD hS => ?_)
    obtain ⟨mo_2, emo_2, hf⟩ := lt_ex hf
    try dsimp only at hf
    have hP : va_P (dC, dI) vwCl (wMo cI cZ cJ mo_a mo_2) H := by rw [emo_2]; exact hP
    have hD : va_D A (wMo cI cZ cJ mo_a mo_2) := by rw [emo_2]; exact hD
    refine lv_iload_n hx hb d_Model_inByte_35 rfl (lv_at hl 0 rfl) ?_
    exact hr36 _ _ _ 0 mo_2 hP hD hS hf
  · rw [if_neg c_1] at hf
    refine lv_aload_n hx hb d_Model_inByte_11 rfl (lv_at hl 0 rfl) ?_
    refine va_get (D := (dC, dI)) (ci := 7) (v := .ref (mo_a 13)) (C := R_Model) (T := T_Model) (N := 27) hx hb hts in_Model hown hK hP 0 rfl rfl 20 (by decide) (hts _ t_844) (fun _ h9 => h9) rfl d_Model_inByte_12 ?_
    refine lv_aload_n hx hb d_Model_inByte_15 rfl (lv_at hl 0 rfl) ?_
    refine va_get (D := (dC, dI)) (ci := 7) (v := .int (Mo_ia mo)) (C := R_Model) (T := T_Model) (N := 27) hx hb hts in_Model hown hK hP 0 rfl rfl 19 (by decide) (hts _ t_843) (fun _ h9 => h9) rfl d_Model_inByte_16 ?_
    obtain ⟨h_4, hf⟩ := gd_ex hf
    refine va_iald (f := Mo_inp mo) hx hb hK hP 13 0 rfl rfl (inb_in h_4) d_Model_inByte_19 ?_
    refine lv_goto (tgt := 24) hx hb d_Model_inByte_20 (by decide) ?_
    obtain ⟨x1_5, ex1_5, hf⟩ := lt_ex hf
    try dsimp only at hf
    refine tp_i ex1_5 ?_
    refine lv_istore_n (lv' := [(1, .int x1_5), (0, .ref (mo_a 0))]) hx hb d_Model_inByte_24 rfl hl (by decide) rfl (fun ls hl => ?_)
    refine lv_aload_n hx hb d_Model_inByte_25 rfl (lv_at hl 1 rfl) ?_
    refine lv_dup hx hb d_Model_inByte_26 rfl ?_
    refine va_get (D := (dC, dI)) (ci := 7) (v := .int (Mo_ia mo)) (C := R_Model) (T := T_Model) (N := 27) hx hb hts in_Model hown hK hP 0 rfl rfl 19 (by decide) (hts _ t_843) (fun _ h9 => h9) rfl d_Model_inByte_27 ?_
    refine lv_iconst (v := 1) hx hb d_Model_inByte_30 (by decide) ?_
    refine lv_iadd hx hb d_Model_inByte_31 ?_
    refine va_put (D := (dC, dI)) (ci := 7) (v := .int ((Mo_ia mo) + 1)) (ty := .int) (C := R_Model) (T := T_Model) (N := 27) hx hb hts in_Model ty_Model tyok_Model nm_Model hown hK hP hD hS 0 rfl rfl 19 (by decide) (hts _ t_843) (fun _ h9 => h9) rfl (by decide +kernel) rfl rfl (Nat.le_of_ble_eq_true rfl) d_Model_inByte_32 (fun H locs hP hD hS => ?_)
    obtain ⟨mo_6, emo_6, hf⟩ := lt_ex hf
    try dsimp only at hf
    have hP : va_P (dC, dI) vwCl (wMo cI cZ cJ mo_a mo_6) H := by rw [emo_6]; exact hP
    have hD : va_D A (wMo cI cZ cJ mo_a mo_6) := by rw [emo_6]; exact hD
    refine lv_iload_n hx hb d_Model_inByte_35 rfl (lv_at hl 0 rfl) ?_
    exact hr36 _ _ _ x1_5 mo_6 hP hD hS hf
end
set_option maxHeartbeats 4000000 in
set_option maxRecDepth 100000 in
theorem k_Model_inByte (l : Launch) (dC : Nat → ClassId) (dI : Nat → Nat → Nat) (cI cZ cJ : ClassId) (mo_a : Nat → Nat) (sz : Nat) {mo : Mo} {r : Int32} {mo' : Mo} (hf : f_Model_inByte mo = some (r, mo')) :
    Met l y_Model_inByte ws_Model_inByte ({ frames := 0, cells := 0, slots := 0, locals := 0 }) (va_Pc [.ref (mo_a 0)] (kP (dC, dI) vwCl (TYS cI cZ cJ) (wMo cI cZ cJ mo_a mo) sz)) (va_Qi (fun (q : Int32) (_ : Unit) => q = r) (fun _ t => kQ (dC, dI) vwCl (TYS cI cZ cJ) (wMo cI cZ cJ mo_a mo) sz (wMo cI cZ cJ mo_a mo') t) (va_A (wMo cI cZ cJ mo_a mo) sz)) 0 0 (va_A (wMo cI cZ cJ mo_a mo) sz) := by
  refine Met.ofW (cc := c_Model_inByte) (maxL := 2) (ret := (some .int)) (by decide) rfl ?_
  intro p e s m args below meth c s₁ B hml hv
  obtain ⟨rfl, hsz, hP, hK, hD0, hN⟩ := hv
  have hr := B.returns
  have hlocks := B.notSynchronized
  subst hsz
  have hD := hD0.self (sz := s.heap.size)
  have hl := lv_entry ([.ref (mo_a 0)]) (n := 2) (Nat.le_of_ble_eq_true rfl)
  rw [lg_entry_eq]
  generalize (lg_sl ([.ref (mo_a 0)]) ++ List.replicate (2 - (lg_sl ([.ref (mo_a 0)])).length) Slot.unset).toArray = ls at hl ⊢
  refine B_Model_inByte (A := va_A (wMo cI cZ cJ mo_a mo) s.heap.size) ⟨B.exec, B.bytes, hml, findClass_of_methodNamed B.named, fun w h => atoms_spec (ws := ws_Model_inByte) B.pre w (List.mem_cons_of_mem _ h), hK, fun q h => Or.inr h, Nat.le_of_ble_eq_true rfl, Nat.le_of_ble_eq_true rfl, hN, Nat.le_of_ble_eq_true rfl, Nat.le_of_ble_eq_true rfl⟩ (fun H locs ls v mo'1 hP hD hS hf => ?_) hP hD va_S.rf hl hf
  · cases hf
    exact W.iret B.exec B.bytes hr (fun t ht hW => ⟨⟨_, (), rfl, rfl, ⟨by rw [ht]; exact hP, va_K.moved hW.alike hK, hD⟩⟩, hS.F ht⟩) hS.2.2 d_Model_inByte_36

/-! Model_take -/
def l_Model_take_124 (x4 : Int32) (k159 : Mo → Option (Int32 × Mo)) : Nat → Mo → Option (Int32 × Mo)
  | 0, _ => none
  | n + 1, mo => bd (f_Model_isShared mo) <| fun r_14 => (if r_14 = 0 then k159 mo else bd (f_Model_shift mo) <| fun mo_16 => bd (f_Model_inByte mo_16) <| fun (r_17, mo_18) => lt' (Mo_s_tk mo_18 ((((Mo_tk mo_16) <<< ((8 : Int32).toInt64 &&& 63)) &&& 4294967295) ||| r_17.toInt64)) <| fun mo_19 => (l_Model_take_124 x4 k159 n) mo_19)
def j_Model_take_121_10 (z0_3 : Int32) (mo_7 : Mo) (z0_9 : Int64) : Option (Int32 × Mo) := lt' (Mo_s_lo mo_7 z0_9) <| fun mo_11 => l_Model_take_124 z0_3 (fun mo_21 => some (z0_3, mo_21)) 100000 mo_11
def j_Model_take_101_6 (mo : Mo) (r_2 : Int64) (z0_3 : Int32) (z0_5 : Int64) : Option (Int32 × Mo) := lt' (Mo_s_hi mo z0_5) <| fun mo_7 => (if z0_3 = 1 then j_Model_take_121_10 z0_3 mo_7 (Mo_lo mo_7) else j_Model_take_121_10 z0_3 mo_7 (r_2 + 1))
def j_Model_take_84_4 (mo : Mo) (r_2 : Int64) (z0_3 : Int32) : Option (Int32 × Mo) := (if z0_3 = 1 then j_Model_take_101_6 mo r_2 z0_3 r_2 else j_Model_take_101_6 mo r_2 z0_3 (Mo_hi mo))
def f_Model_take (mo : Mo) (x1 : Int32) : Option (Int32 × Mo) := (if 2 ≤ (Mo_kind mo) then bd (f_Model_splitBy mo x1) <| fun r_2 => (if 0 < (lg_cmp (Mo_tk mo) r_2) then j_Model_take_84_4 mo r_2 0 else j_Model_take_84_4 mo r_2 1) else (if (Mo_inn mo) ≤ ((Mo_ia mo) / 8) then lt' (Mo_s_ia mo ((Mo_ia mo) + 1)) <| fun mo_26 => some (0, mo_26) else gd (inb ((Mo_ia mo) / 8) 3000) <| lt' (((Mo_inp mo ((Mo_ia mo) / 8).toNatClampNeg) >>> ((7 - ((Mo_ia mo) - (Mo_ia mo) / 8 * 8)) &&& 31)) &&& 1) <| fun x2_29 => lt' (Mo_s_ia mo ((Mo_ia mo) + 1)) <| fun mo_30 => some (x2_29, mo_30)))
section
variable {p : Program} {l : Launch} {e : Env} {R : Room} {s : State} {m : MethodId} {args : Array Value} {below : List Frame} {meth : Method} {c : Code} {Q : State → Prop} {A : Nat → Prop}
set_option maxHeartbeats 4000000 in
set_option maxRecDepth 100000 in
theorem L_Model_take_124 {cells slots : Nat} {dC : Nat → ClassId} {dI : Nat → Nat → Nat} {cI cZ cJ : ClassId} {mo_a : Nat → Nat} {x4 : Int32} {k159 : Mo → Option (Int32 × Mo)} {res : Int32 × Mo} (C0 : cxt p c m s args R cells slots R_Model c_Model_take tb 5 (dC, dI) vwCl (TYS cI cZ cJ) A 1 21)
    (hk159 : ∀ (H : Heap) (locs : List Loc) (ls : Array Slot) (mo_13 : Mo), va_P (dC, dI) vwCl (wMo cI cZ cJ mo_a mo_13) H → va_D A (wMo cI cZ cJ mo_a mo_13) → va_S A s.heap H locs → lv_has ls 5 [(4, .int x4)] → k159 mo_13 = some res → W p l e R s m args below meth c H locs cells slots Q (F0 m 159 ls [])) :
    ∀ (n : Nat) (H : Heap) (locs : List Loc) (ls : Array Slot) (mo : Mo), va_P (dC, dI) vwCl (wMo cI cZ cJ mo_a mo) H → va_D A (wMo cI cZ cJ mo_a mo) → va_S A s.heap H locs → lv_has ls 5 [(0, .ref (mo_a 0)), (4, .int x4)] → l_Model_take_124 x4 k159 n mo = some res → W p l e R s m args below meth c H locs cells slots Q (F0 m 124 ls []) := by
  obtain ⟨hx, hb, hml, hown, hts, hK, hA, hRf, hRl, hN, hRc⟩ := id C0
  intro n
  induction n with
  | zero =>
    intro H locs ls mo hP hD hS hl hf
    exact absurd hf (by simp [l_Model_take_124])
  | succ n ih =>
    intro H locs ls mo hP hD hS hl hf
    rw [l_Model_take_124] at hf
    refine lv_aload_n hx hb d_Model_take_124 rfl (lv_at hl 0 rfl) ?_
    obtain ⟨r_14, hf1, hf⟩ := bd_ex hf
    try dsimp only at hf
    have hPc := hP.sub (ws' := (wMo cI cZ cJ mo_a mo)) [0, 1, 2, 3, 4, 5, 6, 7, 8, 9, 10, 11, 12, 13, 14, 15] rfl
    have hDc := hD.sub (ws' := (wMo cI cZ cJ mo_a mo)) [0, 1, 2, 3, 4, 5, 6, 7, 8, 9, 10, 11, 12, 13, 14, 15] (by decide) rfl
    have hFc := va_free (wc := (wMo cI cZ cJ mo_a mo)) hD hS hA [0, 1, 2, 3, 4, 5, 6, 7, 8, 9, 10, 11, 12, 13, 14, 15] rfl
    refine va_calli (va_runV (As := []) (rest := []) ⟨hx, hb, hml, hown, hts⟩ (k_Model_isShared l dC dI cI cZ cJ mo_a H.size hf1) (cwV 0 hts (gV t_995 t_997 t_35 t_63 t_998) rfl rfl rfl hd_Model_isShared ⟨Nat.le_trans (Nat.le_of_ble_eq_true rfl) hRf, Nat.le_trans (Nat.le_of_ble_eq_true rfl) hRl⟩) ⟨kP_blind, va_recv hK hP (ci := 7) (q0 := 0) rfl rfl, kP_at hPc hK hDc hN⟩ rfl rfl hl.1 rfl (lv_room (Nat.le_of_ble_eq_true rfl)) d_Model_take_125 hRc) hS (fun q _ h => hFc q h) hFc (fun r9 u t H1 locs ht hvm hw hB hz1 hk1 hS => ?_)
    rw [hw.1]
    obtain ⟨hP, hD⟩ := kQ_join (wr := ([] : va_W)) (w1 := (wMo cI cZ cJ mo_a mo)) hP hD [0, 1, 2, 3, 4, 5, 6, 7, 8, 9, 10, 11, 12, 13, 14, 15] [] rfl rfl (by decide) (by decide) ht hk1 hFc hB
    generalize H1 = H at hP hS ⊢
    have hP : va_P (dC, dI) vwCl (wMo cI cZ cJ mo_a mo) H := hP.sub [0, 1, 2, 3, 4, 5, 6, 7, 8, 9, 10, 11, 12, 13, 14, 15] rfl
    have hD : va_D A (wMo cI cZ cJ mo_a mo) := hD.sub [0, 1, 2, 3, 4, 5, 6, 7, 8, 9, 10, 11, 12, 13, 14, 15] (by decide) rfl
    refine lv_if_eq (tgt := 159) hx hb d_Model_take_128 (by decide) (fun c_15 => ?_) (fun c_15 => ?_)
    · rw [if_pos c_15] at hf
      exact hk159 _ _ _ mo hP hD hS (lv_sub hl [1] rfl) hf
    · rw [if_neg c_15] at hf
      refine lv_aload_n hx hb d_Model_take_131 rfl (lv_at hl 0 rfl) ?_
      obtain ⟨mo_16, hf1, hf⟩ := bd_ex hf
      try dsimp only at hf
      have hPc := hP.sub (ws' := (wMo cI cZ cJ mo_a mo)) [0, 1, 2, 3, 4, 5, 6, 7, 8, 9, 10, 11, 12, 13, 14, 15] rfl
      have hDc := hD.sub (ws' := (wMo cI cZ cJ mo_a mo)) [0, 1, 2, 3, 4, 5, 6, 7, 8, 9, 10, 11, 12, 13, 14, 15] (by decide) rfl
      have hFc := va_free (wc := (wMo cI cZ cJ mo_a mo)) hD hS hA [0, 1, 2, 3, 4, 5, 6, 7, 8, 9, 10, 11, 12, 13, 14, 15] rfl
      refine va_callv (va_runV (As := []) (rest := []) ⟨hx, hb, hml, hown, hts⟩ (k_Model_shift l dC dI cI cZ cJ mo_a H.size hf1) (cwV 0 hts (gV t_999 t_1001 t_36 t_63 t_1002) rfl rfl rfl hd_Model_shift ⟨Nat.le_trans (Nat.le_of_ble_eq_true rfl) hRf, Nat.le_trans (Nat.le_of_ble_eq_true rfl) hRl⟩) ⟨kP_blind, va_recv hK hP (ci := 7) (q0 := 0) rfl rfl, kP_at hPc hK hDc hN⟩ rfl rfl hl.1 rfl (lv_room (Nat.le_of_ble_eq_true rfl)) d_Model_take_132 hRc) hS (fun q _ h => hFc q h) hFc (fun u t H1 locs ht hvm hw hB hz1 hk1 hS => ?_)
      obtain ⟨hP, hD⟩ := kQ_join (wr := ([] : va_W)) (w1 := (wMo cI cZ cJ mo_a mo_16)) hP hD [0, 1, 2, 3, 4, 5, 6, 7, 8, 9, 10, 11, 12, 13, 14, 15] [] rfl rfl (by decide) (by decide) ht hk1 hFc hB
      generalize H1 = H at hP hS ⊢
      have hP : va_P (dC, dI) vwCl (wMo cI cZ cJ mo_a mo_16) H := hP.sub [0, 1, 2, 3, 4, 5, 6, 7, 8, 9, 10, 11, 12, 13, 14, 15] rfl
      have hD : va_D A (wMo cI cZ cJ mo_a mo_16) := hD.sub [0, 1, 2, 3, 4, 5, 6, 7, 8, 9, 10, 11, 12, 13, 14, 15] (by decide) rfl
      refine lv_aload_n hx hb d_Model_take_135 rfl (lv_at hl 0 rfl) ?_
      refine lv_aload_n hx hb d_Model_take_136 rfl (lv_at hl 0 rfl) ?_
      refine va_get (D := (dC, dI)) (ci := 7) (v := .long (Mo_tk mo_16)) (C := R_Model) (T := T_Model) (N := 27) hx hb hts in_Model hown hK hP 0 rfl rfl 24 (by decide) (hts _ t_848) (fun _ h9 => h9) rfl d_Model_take_137 ?_
      refine lv_bipush (v := 8) hx hb d_Model_take_140 (by decide) ?_
      refine lv_lshl (v := (Mo_tk mo_16) <<< ((8 : Int32).toInt64 &&& 63)) hx hb d_Model_take_142 rfl ?_
      refine lv_ldc2 (v := 4294967295) hx hb hown (hts (.constantLong R_Model 96 4294967295) (by decide +kernel)) d_Model_take_143 ?_
      refine lv_land hx hb d_Model_take_146 ?_
      refine lv_aload_n hx hb d_Model_take_147 rfl (lv_at hl 0 rfl) ?_
      obtain ⟨⟨r_17, mo_18⟩, hf1, hf⟩ := bd_ex hf
      try dsimp only at hf
      have hPc := hP.sub (ws' := (wMo cI cZ cJ mo_a mo_16)) [0, 1, 2, 3, 4, 5, 6, 7, 8, 9, 10, 11, 12, 13, 14, 15] rfl
      have hDc := hD.sub (ws' := (wMo cI cZ cJ mo_a mo_16)) [0, 1, 2, 3, 4, 5, 6, 7, 8, 9, 10, 11, 12, 13, 14, 15] (by decide) rfl
      have hFc := va_free (wc := (wMo cI cZ cJ mo_a mo_16)) hD hS hA [0, 1, 2, 3, 4, 5, 6, 7, 8, 9, 10, 11, 12, 13, 14, 15] rfl
      refine va_calli (va_runV (As := []) (rest := [.long (((Mo_tk mo_16) <<< ((8 : Int32).toInt64 &&& 63)) &&& 4294967295), .ref (mo_a 0)]) ⟨hx, hb, hml, hown, hts⟩ (k_Model_inByte l dC dI cI cZ cJ mo_a H.size hf1) (cwV 0 hts (gV t_1051 t_1053 t_44 t_63 t_1054) rfl rfl rfl hd_Model_inByte ⟨Nat.le_trans (Nat.le_of_ble_eq_true rfl) hRf, Nat.le_trans (Nat.le_of_ble_eq_true rfl) hRl⟩) ⟨kP_blind, va_recv hK hP (ci := 7) (q0 := 0) rfl rfl, kP_at hPc hK hDc hN⟩ rfl rfl hl.1 rfl (lv_room (Nat.le_of_ble_eq_true rfl)) d_Model_take_148 hRc) hS (fun q _ h => hFc q h) hFc (fun r9 u t H1 locs ht hvm hw hB hz1 hk1 hS => ?_)
      rw [hw]
      obtain ⟨hP, hD⟩ := kQ_join (wr := ([] : va_W)) (w1 := (wMo cI cZ cJ mo_a mo_18)) hP hD [0, 1, 2, 3, 4, 5, 6, 7, 8, 9, 10, 11, 12, 13, 14, 15] [] rfl rfl (by decide) (by decide) ht hk1 hFc hB
      generalize H1 = H at hP hS ⊢
      have hP : va_P (dC, dI) vwCl (wMo cI cZ cJ mo_a mo_18) H := hP.sub [0, 1, 2, 3, 4, 5, 6, 7, 8, 9, 10, 11, 12, 13, 14, 15] rfl
      have hD : va_D A (wMo cI cZ cJ mo_a mo_18) := hD.sub [0, 1, 2, 3, 4, 5, 6, 7, 8, 9, 10, 11, 12, 13, 14, 15] (by decide) rfl
      refine lv_i2l (v := r_17.toInt64) hx hb d_Model_take_151 rfl ?_
      refine lv_lor hx hb d_Model_take_152 ?_
      refine va_put (D := (dC, dI)) (ci := 7) (v := .long ((((Mo_tk mo_16) <<< ((8 : Int32).toInt64 &&& 63)) &&& 4294967295) ||| r_17.toInt64)) (ty := .long) (C := R_Model) (T := T_Model) (N := 27) hx hb hts in_Model ty_Model tyok_Model nm_Model hown hK hP hD hS 0 rfl rfl 24 (by decide) (hts _ t_848) (fun _ h9 => h9) rfl (by decide +kernel) rfl rfl (Nat.le_of_ble_eq_true rfl) d_Model_take_153 (fun H locs hP hD hS => ?_)
      obtain ⟨mo_19, emo_19, hf⟩ := lt_ex hf
      try dsimp only at hf
      have hP : va_P (dC, dI) vwCl (wMo cI cZ cJ mo_a mo_19) H := by rw [emo_19]; exact hP
      have hD : va_D A (wMo cI cZ cJ mo_a mo_19) := by rw [emo_19]; exact hD
      refine lv_goto (tgt := 124) hx hb d_Model_take_156 (by decide) ?_
      exact ih _ _ _ mo_19 hP hD hS (lv_sub hl [0, 1] rfl) hf
set_option maxHeartbeats 4000000 in
set_option maxRecDepth 100000 in
theorem B_Model_take {cells slots : Nat} {dC : Nat → ClassId} {dI : Nat → Nat → Nat} {cI cZ cJ : ClassId} {mo_a : Nat → Nat} {mo : Mo} {x1 : Int32} {res : Int32 × Mo} (C0 : cxt p c m s args R cells slots R_Model c_Model_take tb 5 (dC, dI) vwCl (TYS cI cZ cJ) A 1 21)
    (hr63 : ∀ (H : Heap) (locs : List Loc) (ls : Array Slot) (v : Int32) (mo' : Mo), va_P (dC, dI) vwCl (wMo cI cZ cJ mo_a mo') H → va_D A (wMo cI cZ cJ mo_a mo') → va_S A s.heap H locs → some (v, mo') = some res → W p l e R s m args below meth c H locs cells slots Q (F0 m 63 ls [.int v]))
    (hr161 : ∀ (H : Heap) (locs : List Loc) (ls : Array Slot) (v : Int32) (mo' : Mo), va_P (dC, dI) vwCl (wMo cI cZ cJ mo_a mo') H → va_D A (wMo cI cZ cJ mo_a mo') → va_S A s.heap H locs → some (v, mo') = some res → W p l e R s m args below meth c H locs cells slots Q (F0 m 161 ls [.int v]))
    {H : Heap} {locs : List Loc} {ls : Array Slot} (hP : va_P (dC, dI) vwCl (wMo cI cZ cJ mo_a mo) H) (hD : va_D A (wMo cI cZ cJ mo_a mo)) (hS : va_S A s.heap H locs) (hl : lv_has ls 5 [(0, .ref (mo_a 0)), (1, .int x1)]) (hf : f_Model_take mo x1 = some res) : W p l e R s m args below meth c H locs cells slots Q (F0 m 0 ls []) := by
  obtain ⟨hx, hb, hml, hown, hts, hK, hA, hRf, hRl, hN, hRc⟩ := id C0
  rw [f_Model_take] at hf
  refine lv_aload_n hx hb d_Model_take_0 rfl (lv_at hl 0 rfl) ?_
  refine va_get (D := (dC, dI)) (ci := 7) (v := .int (Mo_kind mo)) (C := R_Model) (T := T_Model) (N := 27) hx hb hts in_Model hown hK hP 0 rfl rfl 1 (by decide) (hts _ t_825) (fun _ h9 => h9) rfl d_Model_take_1 ?_
  refine lv_iconst (v := 2) hx hb d_Model_take_4 (by decide) ?_
  refine lv_icmp_ge (tgt := 64) hx hb d_Model_take_5 (by decide) (fun c_1 => ?_) (fun c_1 => ?_)
  · rw [if_pos c_1] at hf
    refine lv_aload_n hx hb d_Model_take_64 rfl (lv_at hl 0 rfl) ?_
    refine lv_iload_n hx hb d_Model_take_65 rfl (lv_at hl 1 rfl) ?_
    obtain ⟨r_2, hf1, hf⟩ := bd_ex hf
    try dsimp only at hf
    have hPc := hP.sub (ws' := (wMo cI cZ cJ mo_a mo)) [0, 1, 2, 3, 4, 5, 6, 7, 8, 9, 10, 11, 12, 13, 14, 15] rfl
    have hDc := hD.sub (ws' := (wMo cI cZ cJ mo_a mo)) [0, 1, 2, 3, 4, 5, 6, 7, 8, 9, 10, 11, 12, 13, 14, 15] (by decide) rfl
    have hFc := va_free (wc := (wMo cI cZ cJ mo_a mo)) hD hS hA [0, 1, 2, 3, 4, 5, 6, 7, 8, 9, 10, 11, 12, 13, 14, 15] rfl
    refine va_calll (va_runV (As := [.int x1]) (rest := []) ⟨hx, hb, hml, hown, hts⟩ (k_Model_splitBy l dC dI cI cZ cJ mo_a H.size hf1) (cwV 1 hts (gV t_990 t_992 t_34 t_63 t_993) rfl rfl rfl hd_Model_splitBy ⟨Nat.le_trans (Nat.le_of_ble_eq_true rfl) hRf, Nat.le_trans (Nat.le_of_ble_eq_true rfl) hRl⟩) ⟨kP_blind, va_recv hK hP (ci := 7) (q0 := 0) rfl rfl, kP_at hPc hK hDc hN⟩ rfl rfl hl.1 rfl (lv_room (Nat.le_of_ble_eq_true rfl)) d_Model_take_66 hRc) hS (fun q _ h => hFc q h) hFc (fun r9 u t H1 locs ht hvm hw hB hz1 hk1 hS => ?_)
    rw [hw]
    obtain ⟨hP, hD⟩ := kQ_join (wr := ([] : va_W)) (w1 := (wMo cI cZ cJ mo_a mo)) hP hD [0, 1, 2, 3, 4, 5, 6, 7, 8, 9, 10, 11, 12, 13, 14, 15] [] rfl rfl (by decide) (by decide) ht hk1 hFc hB
    generalize H1 = H at hP hS ⊢
    have hP : va_P (dC, dI) vwCl (wMo cI cZ cJ mo_a mo) H := hP.sub [0, 1, 2, 3, 4, 5, 6, 7, 8, 9, 10, 11, 12, 13, 14, 15] rfl
    have hD : va_D A (wMo cI cZ cJ mo_a mo) := hD.sub [0, 1, 2, 3, 4, 5, 6, 7, 8, 9, 10, 11, 12, 13, 14, 15] (by decide) rfl
    refine lv_lstore_n (lv' := [(2, .long r_2), (0, .ref (mo_a 0)), (1, .int x1)]) hx hb d_Model_take_69 rfl hl (by decide) rfl (fun ls hl => ?_)
    refine lv_aload_n hx hb d_Model_take_70 rfl (lv_at hl 1 rfl) ?_
    refine va_get (D := (dC, dI)) (ci := 7) (v := .long (Mo_tk mo)) (C := R_Model) (T := T_Model) (N := 27) hx hb hts in_Model hown hK hP 0 rfl rfl 24 (by decide) (hts _ t_848) (fun _ h9 => h9) rfl d_Model_take_71 ?_
    refine lv_lload_n hx hb d_Model_take_74 rfl (lv_at hl 0 rfl) ?_
    refine W.lcmp hx hb d_Model_take_75 ?_
    have J84_3 : ∀ (H : Heap) (locs : List Loc) (ls : Array Slot) (z0_3 : Int32), va_P (dC, dI) vwCl (wMo cI cZ cJ mo_a mo) H → va_D A (wMo cI cZ cJ mo_a mo) → va_S A s.heap H locs → lv_has ls 5 [(0, .ref (mo_a 0)), (2, .long r_2)] → j_Model_take_84_4 mo r_2 z0_3 = some res → W p l e R s m args below meth c H locs cells slots Q (F0 m 84 ls [.int z0_3]) := by
      intro H locs ls z0_3 hP hD hS hl hf
      rw [j_Model_take_84_4] at hf
      refine lv_istore (lv' := [(4, .int z0_3), (0, .ref (mo_a 0)), (2, .long r_2)]) hx hb d_Model_take_84 hl (by decide) rfl (fun ls hl => ?_)
      refine lv_aload_n hx hb d_Model_take_86 rfl (lv_at hl 1 rfl) ?_
      refine lv_iload hx hb d_Model_take_87 (lv_at hl 0 rfl) ?_
      refine lv_iconst (v := 1) hx hb d_Model_take_89 (by decide) ?_
      have J101_5 : ∀ (H : Heap) (locs : List Loc) (ls : Array Slot) (z0_5 : Int64), va_P (dC, dI) vwCl (wMo cI cZ cJ mo_a mo) H → va_D A (wMo cI cZ cJ mo_a mo) → va_S A s.heap H locs → lv_has ls 5 [(0, .ref (mo_a 0)), (2, .long r_2), (4, .int z0_3)] → j_Model_take_101_6 mo r_2 z0_3 z0_5 = some res → W p l e R s m args below meth c H locs cells slots Q (F0 m 101 ls [.long z0_5, .ref (mo_a 0)]) := by
        intro H locs ls z0_5 hP hD hS hl hf
        rw [j_Model_take_101_6] at hf
        refine va_put (D := (dC, dI)) (ci := 7) (v := .long z0_5) (ty := .long) (C := R_Model) (T := T_Model) (N := 27) hx hb hts in_Model ty_Model tyok_Model nm_Model hown hK hP hD hS 0 rfl rfl 23 (by decide) (hts _ t_847) (fun _ h9 => h9) rfl (by decide +kernel) rfl rfl (Nat.le_of_ble_eq_true rfl) d_Model_take_101 (fun H locs hP hD hS => ?_)
        obtain ⟨mo_7, emo_7, hf⟩ := lt_ex hf
        try dsimp only at hf
        have hP : va_P (dC, dI) vwCl (wMo cI cZ cJ mo_a mo_7) H := by rw [emo_7]; exact hP
        have hD : va_D A (wMo cI cZ cJ mo_a mo_7) := by rw [emo_7]; exact hD
        refine lv_aload_n hx hb d_Model_take_104 rfl (lv_at hl 0 rfl) ?_
        refine lv_iload hx hb d_Model_take_105 (lv_at hl 2 rfl) ?_
        refine lv_iconst (v := 1) hx hb d_Model_take_107 (by decide) ?_
        have J121_9 : ∀ (H : Heap) (locs : List Loc) (ls : Array Slot) (z0_9 : Int64), va_P (dC, dI) vwCl (wMo cI cZ cJ mo_a mo_7) H → va_D A (wMo cI cZ cJ mo_a mo_7) → va_S A s.heap H locs → lv_has ls 5 [(0, .ref (mo_a 0)), (4, .int z0_3)] → j_Model_take_121_10 z0_3 mo_7 z0_9 = some res → W p l e R s m args below meth c H locs cells slots Q (F0 m 121 ls [.long z0_9, .ref (mo_a 0)]) := by
          intro H locs ls z0_9 hP hD hS hl hf
          rw [j_Model_take_121_10] at hf
          refine va_put (D := (dC, dI)) (ci := 7) (v := .long z0_9) (ty := .long) (C := R_Model) (T := T_Model) (N := 27) hx hb hts in_Model ty_Model tyok_Model nm_Model hown hK hP hD hS 0 rfl rfl 22 (by decide) (hts _ t_846) (fun _ h9 => h9) rfl (by decide +kernel) rfl rfl (Nat.le_of_ble_eq_true rfl) d_Model_take_121 (fun H locs hP hD hS => ?_)
          obtain ⟨mo_11, emo_11, hf⟩ := lt_ex hf
          try dsimp only at hf
          have hP : va_P (dC, dI) vwCl (wMo cI cZ cJ mo_a mo_11) H := by rw [emo_11]; exact hP
          have hD : va_D A (wMo cI cZ cJ mo_a mo_11) := by rw [emo_11]; exact hD
          refine L_Model_take_124 C0 (fun H locs ls mo_21 hP hD hS hl hf => ?_) 100000 _ _ _ mo_11 hP hD hS (lv_sub hl [0, 1] rfl) hf
          try dsimp only at hf
          refine lv_iload hx hb d_Model_take_159 (lv_at hl 0 rfl) ?_
          exact hr161 _ _ _ z0_3 mo_21 hP hD hS hf
        refine lv_icmp_ne (tgt := 118) hx hb d_Model_take_108 (by decide) (fun c_22 => ?_) (fun c_22 => ?_)
        · rw [if_neg c_22] at hf
          refine lv_lload_n hx hb d_Model_take_118 rfl (lv_at hl 1 rfl) ?_
          refine lv_lconst (v := 1) hx hb d_Model_take_119 (by decide) ?_
          refine lv_ladd hx hb d_Model_take_120 ?_
          exact J121_9 _ _ _ (r_2 + 1) hP hD hS (lv_sub hl [0, 2] rfl) hf
        · rw [if_pos c_22] at hf
          refine lv_aload_n hx hb d_Model_take_111 rfl (lv_at hl 0 rfl) ?_
          refine va_get (D := (dC, dI)) (ci := 7) (v := .long (Mo_lo mo_7)) (C := R_Model) (T := T_Model) (N := 27) hx hb hts in_Model hown hK hP 0 rfl rfl 22 (by decide) (hts _ t_846) (fun _ h9 => h9) rfl d_Model_take_112 ?_
          refine lv_goto (tgt := 121) hx hb d_Model_take_115 (by decide) ?_
          exact J121_9 _ _ _ (Mo_lo mo_7) hP hD hS (lv_sub hl [0, 2] rfl) hf
      refine lv_icmp_ne (tgt := 97) hx hb d_Model_take_90 (by decide) (fun c_23 => ?_) (fun c_23 => ?_)
      · rw [if_neg c_23] at hf
        refine lv_aload_n hx hb d_Model_take_97 rfl (lv_at hl 1 rfl) ?_
        refine va_get (D := (dC, dI)) (ci := 7) (v := .long (Mo_hi mo)) (C := R_Model) (T := T_Model) (N := 27) hx hb hts in_Model hown hK hP 0 rfl rfl 23 (by decide) (hts _ t_847) (fun _ h9 => h9) rfl d_Model_take_98 ?_
        exact J101_5 _ _ _ (Mo_hi mo) hP hD hS (lv_sub hl [1, 2, 0] rfl) hf
      · rw [if_pos c_23] at hf
        refine lv_lload_n hx hb d_Model_take_93 rfl (lv_at hl 2 rfl) ?_
        refine lv_goto (tgt := 101) hx hb d_Model_take_94 (by decide) ?_
        exact J101_5 _ _ _ r_2 hP hD hS (lv_sub hl [1, 2, 0] rfl) hf
    refine lv_if_gt (tgt := 83) hx hb d_Model_take_76 (by decide) (fun c_24 => ?_) (fun c_24 => ?_)
    · rw [if_pos c_24] at hf
      refine lv_iconst (v := 0) hx hb d_Model_take_83 (by decide) ?_
      exact J84_3 _ _ _ 0 hP hD hS (lv_sub hl [1, 0] rfl) hf
    · rw [if_neg c_24] at hf
      refine lv_iconst (v := 1) hx hb d_Model_take_79 (by decide) ?_
      refine lv_goto (tgt := 84) hx hb d_Model_take_80 (by decide) ?_
      exact J84_3 _ _ _ 1 hP hD hS (lv_sub hl [1, 0] rfl) hf
  · rw [if_neg c_1] at hf
    refine lv_aload_n hx hb d_Model_take_8 rfl (lv_at hl 0 rfl) ?_
    refine va_get (D := (dC, dI)) (ci := 7) (v := .int (Mo_ia mo)) (C := R_Model) (T := T_Model) (N := 27) hx hb hts in_Model hown hK hP 0 rfl rfl 19 (by decide) (hts _ t_843) (fun _ h9 => h9) rfl d_Model_take_9 ?_
    refine lv_bipush (v := 8) hx hb d_Model_take_12 (by decide) ?_
    refine lv_idiv hx hb d_Model_take_14 (by decide) ?_
    refine lv_aload_n hx hb d_Model_take_15 rfl (lv_at hl 0 rfl) ?_
    refine va_get (D := (dC, dI)) (ci := 7) (v := .int (Mo_inn mo)) (C := R_Model) (T := T_Model) (N := 27) hx hb hts in_Model hown hK hP 0 rfl rfl 18 (by decide) (hts _ t_842) (fun _ h9 => h9) rfl d_Model_take_16 ?_
    refine lv_icmp_ge (tgt := 50) hx hb d_Model_take_19 (by decide) (fun c_25 => ?_) (fun c_25 => ?_)
    · rw [if_pos c_25] at hf
      refine lv_iconst (v := 0) hx hb d_Model_take_50 (by decide) ?_
      refine lv_istore_n (lv' := [(2, .int 0), (0, .ref (mo_a 0)), (1, .int x1)]) hx hb d_Model_take_51 rfl hl (by decide) rfl (fun ls hl => ?_)
      refine lv_aload_n hx hb d_Model_take_52 rfl (lv_at hl 1 rfl) ?_
      refine lv_dup hx hb d_Model_take_53 rfl ?_
      refine va_get (D := (dC, dI)) (ci := 7) (v := .int (Mo_ia mo)) (C := R_Model) (T := T_Model) (N := 27) hx hb hts in_Model hown hK hP 0 rfl rfl 19 (by decide) (hts _ t_843) (fun _ h9 => h9) rfl d_Model_take_54 ?_
      refine lv_iconst (v := 1) hx hb d_Model_take_57 (by decide) ?_
      refine lv_iadd hx hb d_Model_take_58 ?_
      refine va_put (D := (dC, dI)) (ci := 7) (v := .int ((Mo_ia mo) + 1)) (ty := .int) (C := R_Model) (T := T_Model) (N := 27) hx hb hts in_Model ty_Model tyok_Model nm_Model hown hK hP hD hS 0 rfl rfl 19 (by decide) (hts _ t_843) (fun _ h9 => h9) rfl (by decide +kernel) rfl rfl (Nat.le_of_ble_eq_true rfl) d_Model_take_59 (fun H locs hP hD hS => ?_)
      obtain ⟨mo_26, emo_26, hf⟩ := lt_ex hf
      try dsimp only at hf
      have hP : va_P (dC, dI) vwCl (wMo cI cZ cJ mo_a mo_26) H := by rw [emo_26]; exact hP
      have hD : va_D A (wMo cI cZ cJ mo_a mo_26) := by rw [emo_26]; exact hD
      refine lv_iload_n hx hb d_Model_take_62 rfl (lv_at hl 0 rfl) ?_
      exact hr63 _ _ _ 0 mo_26 hP hD hS hf
    · rw [if_neg c_25] at hf
      refine lv_aload_n hx hb d_Model_take_22 rfl (lv_at hl 0 rfl) ?_
      refine va_get (D := (dC, dI)) (ci := 7) (v := .ref (mo_a 13)) (C := R_Model) (T := T_Model) (N := 27) hx hb hts in_Model hown hK hP 0 rfl rfl 20 (by decide) (hts _ t_844) (fun _ h9 => h9) rfl d_Model_take_23 ?_
      refine lv_aload_n hx hb d_Model_take_26 rfl (lv_at hl 0 rfl) ?_
      refine va_get (D := (dC, dI)) (ci := 7) (v := .int (Mo_ia mo)) (C := R_Model) (T := T_Model) (N := 27) hx hb hts in_Model hown hK hP 0 rfl rfl 19 (by decide) (hts _ t_843) (fun _ h9 => h9) rfl d_Model_take_27 ?_
      refine lv_bipush (v := 8) hx hb d_Model_take_30 (by decide) ?_
      refine lv_idiv hx hb d_Model_take_32 (by decide) ?_
      obtain ⟨h_28, hf⟩ := gd_ex hf
      refine va_iald (f := Mo_inp mo) hx hb hK hP 13 0 rfl rfl (inb_in h_28) d_Model_take_33 ?_
      refine lv_bipush (v := 7) hx hb d_Model_take_34 (by decide) ?_
      refine lv_aload_n hx hb d_Model_take_36 rfl (lv_at hl 0 rfl) ?_
      refine va_get (D := (dC, dI)) (ci := 7) (v := .int (Mo_ia mo)) (C := R_Model) (T := T_Model) (N := 27) hx hb hts in_Model hown hK hP 0 rfl rfl 19 (by decide) (hts _ t_843) (fun _ h9 => h9) rfl d_Model_take_37 ?_
      refine lv_bipush (v := 8) hx hb d_Model_take_40 (by decide) ?_
      refine lv_irem hx hb d_Model_take_42 (by decide) ?_
      refine lv_isub hx hb d_Model_take_43 ?_
      refine lv_ishr hx hb d_Model_take_44 ?_
      refine lv_iconst (v := 1) hx hb d_Model_take_45 (by decide) ?_
      refine lv_iand hx hb d_Model_take_46 ?_
      refine lv_goto (tgt := 51) hx hb d_Model_take_47 (by decide) ?_
      obtain ⟨x2_29, ex2_29, hf⟩ := lt_ex hf
      try dsimp only at hf
      refine tp_i ex2_29 ?_
      refine lv_istore_n (lv' := [(2, .int x2_29), (0, .ref (mo_a 0)), (1, .int x1)]) hx hb d_Model_take_51 rfl hl (by decide) rfl (fun ls hl => ?_)
      refine lv_aload_n hx hb d_Model_take_52 rfl (lv_at hl 1 rfl) ?_
      refine lv_dup hx hb d_Model_take_53 rfl ?_
      refine va_get (D := (dC, dI)) (ci := 7) (v := .int (Mo_ia mo)) (C := R_Model) (T := T_Model) (N := 27) hx hb hts in_Model hown hK hP 0 rfl rfl 19 (by decide) (hts _ t_843) (fun _ h9 => h9) rfl d_Model_take_54 ?_
      refine lv_iconst (v := 1) hx hb d_Model_take_57 (by decide) ?_
      refine lv_iadd hx hb d_Model_take_58 ?_
      refine va_put (D := (dC, dI)) (ci := 7) (v := .int ((Mo_ia mo) + 1)) (ty := .int) (C := R_Model) (T := T_Model) (N := 27) hx hb hts in_Model ty_Model tyok_Model nm_Model hown hK hP hD hS 0 rfl rfl 19 (by decide) (hts _ t_843) (fun _ h9 => h9) rfl (by decide +kernel) rfl rfl (Nat.le_of_ble_eq_true rfl) d_Model_take_59 (fun H locs hP hD hS => ?_)
      obtain ⟨mo_30, emo_30, hf⟩ := lt_ex hf
      try dsimp only at hf
      have hP : va_P (dC, dI) vwCl (wMo cI cZ cJ mo_a mo_30) H := by rw [emo_30]; exact hP
      have hD : va_D A (wMo cI cZ cJ mo_a mo_30) := by rw [emo_30]; exact hD
      refine lv_iload_n hx hb d_Model_take_62 rfl (lv_at hl 0 rfl) ?_
      exact hr63 _ _ _ x2_29 mo_30 hP hD hS hf
end
set_option maxHeartbeats 4000000 in
set_option maxRecDepth 100000 in
theorem k_Model_take (l : Launch) (dC : Nat → ClassId) (dI : Nat → Nat → Nat) (cI cZ cJ : ClassId) (mo_a : Nat → Nat) (sz : Nat) {mo : Mo} {x1 : Int32} {r : Int32} {mo' : Mo} (hf : f_Model_take mo x1 = some (r, mo')) :
    Met l y_Model_take ws_Model_take ({ frames := 1, cells := 0, slots := 0, locals := 21 }) (va_Pc [.ref (mo_a 0), .int x1] (kP (dC, dI) vwCl (TYS cI cZ cJ) (wMo cI cZ cJ mo_a mo) sz)) (va_Qi (fun (q : Int32) (_ : Unit) => q = r) (fun _ t => kQ (dC, dI) vwCl (TYS cI cZ cJ) (wMo cI cZ cJ mo_a mo) sz (wMo cI cZ cJ mo_a mo') t) (va_A (wMo cI cZ cJ mo_a mo) sz)) 0 0 (va_A (wMo cI cZ cJ mo_a mo) sz) := by
  refine Met.ofW (cc := c_Model_take) (maxL := 5) (ret := (some .int)) (by decide) rfl ?_
  intro p e s m args below meth c s₁ B hml hv
  obtain ⟨rfl, hsz, hP, hK, hD0, hN⟩ := hv
  have hr := B.returns
  have hlocks := B.notSynchronized
  subst hsz
  have hD := hD0.self (sz := s.heap.size)
  have hl := lv_entry ([.ref (mo_a 0), .int x1]) (n := 5) (Nat.le_of_ble_eq_true rfl)
  rw [lg_entry_eq]
  generalize (lg_sl ([.ref (mo_a 0), .int x1]) ++ List.replicate (5 - (lg_sl ([.ref (mo_a 0), .int x1])).length) Slot.unset).toArray = ls at hl ⊢
  refine B_Model_take (A := va_A (wMo cI cZ cJ mo_a mo) s.heap.size) ⟨B.exec, B.bytes, hml, findClass_of_methodNamed B.named, fun w h => atoms_spec (ws := ws_Model_take) B.pre w (List.mem_cons_of_mem _ h), hK, fun q h => Or.inr h, Nat.le_of_ble_eq_true rfl, Nat.le_of_ble_eq_true rfl, hN, Nat.le_of_ble_eq_true rfl, Nat.le_of_ble_eq_true rfl⟩ (fun H locs ls v mo'1 hP hD hS hf => ?_) (fun H locs ls v mo'1 hP hD hS hf => ?_) hP hD va_S.rf hl hf
  · cases hf
    exact W.iret B.exec B.bytes hr (fun t ht hW => ⟨⟨_, (), rfl, rfl, ⟨by rw [ht]; exact hP, va_K.moved hW.alike hK, hD⟩⟩, hS.F ht⟩) hS.2.2 d_Model_take_63
  · cases hf
    exact W.iret B.exec B.bytes hr (fun t ht hW => ⟨⟨_, (), rfl, rfl, ⟨by rw [ht]; exact hP, va_K.moved hW.alike hK, hD⟩⟩, hS.F ht⟩) hS.2.2 d_Model_take_161

/-! Model_emitBits -/
def l_Model_emitBits_4 (x1 : Int32) (k25 : Mo → Option (Mo)) : Nat → Mo → Int32 → Option (Mo)
  | 0, _, _ => none
  | n + 1, mo, x3 => (if x3 < 0 then k25 mo else bd (f_Model_emit mo ((x1 >>> (x3 &&& 31)) &&& 1) 32768) <| fun mo_4 => lt' (x3 + (-1)) <| fun x3_5 => (l_Model_emitBits_4 x1 k25 n) mo_4 x3_5)
def f_Model_emitBits (mo : Mo) (x1 : Int32) (x2 : Int32) : Option (Mo) := lt' (x2 - 1) <| fun x3_1 => l_Model_emitBits_4 x1 (fun mo_6 => some mo_6) 100000 mo x3_1
section
variable {p : Program} {l : Launch} {e : Env} {R : Room} {s : State} {m : MethodId} {args : Array Value} {below : List Frame} {meth : Method} {c : Code} {Q : State → Prop} {A : Nat → Prop}
set_option maxHeartbeats 4000000 in
set_option maxRecDepth 100000 in
theorem L_Model_emitBits_4 {cells slots : Nat} {dC : Nat → ClassId} {dI : Nat → Nat → Nat} {cI cZ cJ : ClassId} {mo_a : Nat → Nat} {x1 : Int32} {k25 : Mo → Option (Mo)} {res : Mo} (C0 : cxt p c m s args R cells slots R_Model c_Model_emitBits tb 4 (dC, dI) vwCl (TYS cI cZ cJ) A 2 46)
    (hk25 : ∀ (H : Heap) (locs : List Loc) (ls : Array Slot) (mo_2 : Mo), va_P (dC, dI) vwCl (wMo cI cZ cJ mo_a mo_2) H → va_D A (wMo cI cZ cJ mo_a mo_2) → va_S A s.heap H locs → lv_has ls 4 [] → k25 mo_2 = some res → W p l e R s m args below meth c H locs cells slots Q (F0 m 25 ls [])) :
    ∀ (n : Nat) (H : Heap) (locs : List Loc) (ls : Array Slot) (mo : Mo) (x3 : Int32), va_P (dC, dI) vwCl (wMo cI cZ cJ mo_a mo) H → va_D A (wMo cI cZ cJ mo_a mo) → va_S A s.heap H locs → lv_has ls 4 [(0, .ref (mo_a 0)), (1, .int x1), (3, .int x3)] → l_Model_emitBits_4 x1 k25 n mo x3 = some res → W p l e R s m args below meth c H locs cells slots Q (F0 m 4 ls []) := by
  obtain ⟨hx, hb, hml, hown, hts, hK, hA, hRf, hRl, hN, hRc⟩ := id C0
  intro n
  induction n with
  | zero =>
    intro H locs ls mo x3 hP hD hS hl hf
    exact absurd hf (by simp [l_Model_emitBits_4])
  | succ n ih =>
    intro H locs ls mo x3 hP hD hS hl hf
    rw [l_Model_emitBits_4] at hf
    refine lv_iload_n hx hb d_Model_emitBits_4 rfl (lv_at hl 2 rfl) ?_
    refine lv_if_lt (tgt := 25) hx hb d_Model_emitBits_5 (by decide) (fun c_3 => ?_) (fun c_3 => ?_)
    · rw [if_pos c_3] at hf
      exact hk25 _ _ _ mo hP hD hS (lv_sub hl [] rfl) hf
    · rw [if_neg c_3] at hf
      refine lv_aload_n hx hb d_Model_emitBits_8 rfl (lv_at hl 0 rfl) ?_
      refine lv_iload_n hx hb d_Model_emitBits_9 rfl (lv_at hl 1 rfl) ?_
      refine lv_iload_n hx hb d_Model_emitBits_10 rfl (lv_at hl 2 rfl) ?_
      refine lv_ishr hx hb d_Model_emitBits_11 ?_
      refine lv_iconst (v := 1) hx hb d_Model_emitBits_12 (by decide) ?_
      refine lv_iand hx hb d_Model_emitBits_13 ?_
      refine lv_ldc (v := 32768) hx hb hown (hts (.constant R_Model 101 32768) (by decide +kernel)) d_Model_emitBits_14 ?_
      obtain ⟨mo_4, hf1, hf⟩ := bd_ex hf
      try dsimp only at hf
      have hPc := hP.sub (ws' := (wMo cI cZ cJ mo_a mo)) [0, 1, 2, 3, 4, 5, 6, 7, 8, 9, 10, 11, 12, 13, 14, 15] rfl
      have hDc := hD.sub (ws' := (wMo cI cZ cJ mo_a mo)) [0, 1, 2, 3, 4, 5, 6, 7, 8, 9, 10, 11, 12, 13, 14, 15] (by decide) rfl
      have hFc := va_free (wc := (wMo cI cZ cJ mo_a mo)) hD hS hA [0, 1, 2, 3, 4, 5, 6, 7, 8, 9, 10, 11, 12, 13, 14, 15] rfl
      refine va_callv (va_runV (As := [.int ((x1 >>> (x3 &&& 31)) &&& 1), .int 32768]) (rest := []) ⟨hx, hb, hml, hown, hts⟩ (k_Model_emit l dC dI cI cZ cJ mo_a H.size hf1) (cwV 2 hts (gV t_982 t_984 t_32 t_63 t_985) rfl rfl rfl hd_Model_emit ⟨Nat.le_trans (Nat.le_of_ble_eq_true rfl) hRf, Nat.le_trans (Nat.le_of_ble_eq_true rfl) hRl⟩) ⟨kP_blind, va_recv hK hP (ci := 7) (q0 := 0) rfl rfl, kP_at hPc hK hDc hN⟩ rfl rfl hl.1 rfl (lv_room (Nat.le_of_ble_eq_true rfl)) d_Model_emitBits_16 hRc) hS (fun q _ h => hFc q h) hFc (fun u t H1 locs ht hvm hw hB hz1 hk1 hS => ?_)
      obtain ⟨hP, hD⟩ := kQ_join (wr := ([] : va_W)) (w1 := (wMo cI cZ cJ mo_a mo_4)) hP hD [0, 1, 2, 3, 4, 5, 6, 7, 8, 9, 10, 11, 12, 13, 14, 15] [] rfl rfl (by decide) (by decide) ht hk1 hFc hB
      generalize H1 = H at hP hS ⊢
      have hP : va_P (dC, dI) vwCl (wMo cI cZ cJ mo_a mo_4) H := hP.sub [0, 1, 2, 3, 4, 5, 6, 7, 8, 9, 10, 11, 12, 13, 14, 15] rfl
      have hD : va_D A (wMo cI cZ cJ mo_a mo_4) := hD.sub [0, 1, 2, 3, 4, 5, 6, 7, 8, 9, 10, 11, 12, 13, 14, 15] (by decide) rfl
      obtain ⟨x3_5, ex3_5, hf⟩ := lt_ex hf
      try dsimp only at hf
      refine lv_iinc (v := x3_5) (lv' := [(3, .int x3_5), (0, .ref (mo_a 0)), (1, .int x1)]) hx hb d_Model_emitBits_19 hl (k := 2) rfl (by rw [ex3_5]; rfl) (by decide) rfl (fun ls hl => ?_)
      refine lv_goto (tgt := 4) hx hb d_Model_emitBits_22 (by decide) ?_
      exact ih _ _ _ mo_4 x3_5 hP hD hS (lv_sub hl [1, 2, 0] rfl) hf
set_option maxHeartbeats 4000000 in
set_option maxRecDepth 100000 in
theorem B_Model_emitBits {cells slots : Nat} {dC : Nat → ClassId} {dI : Nat → Nat → Nat} {cI cZ cJ : ClassId} {mo_a : Nat → Nat} {mo : Mo} {x1 : Int32} {x2 : Int32} {res : Mo} (C0 : cxt p c m s args R cells slots R_Model c_Model_emitBits tb 4 (dC, dI) vwCl (TYS cI cZ cJ) A 2 46)
    (hr25 : ∀ (H : Heap) (locs : List Loc) (ls : Array Slot) (mo' : Mo), va_P (dC, dI) vwCl (wMo cI cZ cJ mo_a mo') H → va_D A (wMo cI cZ cJ mo_a mo') → va_S A s.heap H locs → some mo' = some res → W p l e R s m args below meth c H locs cells slots Q (F0 m 25 ls []))
    {H : Heap} {locs : List Loc} {ls : Array Slot} (hP : va_P (dC, dI) vwCl (wMo cI cZ cJ mo_a mo) H) (hD : va_D A (wMo cI cZ cJ mo_a mo)) (hS : va_S A s.heap H locs) (hl : lv_has ls 4 [(0, .ref (mo_a 0)), (1, .int x1), (2, .int x2)]) (hf : f_Model_emitBits mo x1 x2 = some res) : W p l e R s m args below meth c H locs cells slots Q (F0 m 0 ls []) := by
  obtain ⟨hx, hb, hml, hown, hts, hK, hA, hRf, hRl, hN, hRc⟩ := id C0
  rw [f_Model_emitBits] at hf
  refine lv_iload_n hx hb d_Model_emitBits_0 rfl (lv_at hl 2 rfl) ?_
  refine lv_iconst (v := 1) hx hb d_Model_emitBits_1 (by decide) ?_
  refine lv_isub hx hb d_Model_emitBits_2 ?_
  obtain ⟨x3_1, ex3_1, hf⟩ := lt_ex hf
  try dsimp only at hf
  refine tp_i ex3_1 ?_
  refine lv_istore_n (lv' := [(3, .int x3_1), (0, .ref (mo_a 0)), (1, .int x1), (2, .int x2)]) hx hb d_Model_emitBits_3 rfl hl (by decide) rfl (fun ls hl => ?_)
  refine L_Model_emitBits_4 C0 (fun H locs ls mo_6 hP hD hS hl hf => ?_) 100000 _ _ _ mo x3_1 hP hD hS (lv_sub hl [1, 2, 0] rfl) hf
  try dsimp only at hf
  exact hr25 _ _ _ mo_6 hP hD hS hf
end
set_option maxHeartbeats 4000000 in
set_option maxRecDepth 100000 in
theorem k_Model_emitBits (l : Launch) (dC : Nat → ClassId) (dI : Nat → Nat → Nat) (cI cZ cJ : ClassId) (mo_a : Nat → Nat) (sz : Nat) {mo : Mo} {x1 : Int32} {x2 : Int32} {mo' : Mo} (hf : f_Model_emitBits mo x1 x2 = some mo') :
    Met l y_Model_emitBits ws_Model_emitBits ({ frames := 2, cells := 0, slots := 0, locals := 46 }) (va_Pc [.ref (mo_a 0), .int x1, .int x2] (kP (dC, dI) vwCl (TYS cI cZ cJ) (wMo cI cZ cJ mo_a mo) sz)) (va_Qv (fun (_ : Unit) => True) (fun _ t => kQ (dC, dI) vwCl (TYS cI cZ cJ) (wMo cI cZ cJ mo_a mo) sz (wMo cI cZ cJ mo_a mo') t) (va_A (wMo cI cZ cJ mo_a mo) sz)) 0 0 (va_A (wMo cI cZ cJ mo_a mo) sz) := by
  refine Met.ofW (cc := c_Model_emitBits) (maxL := 4) (ret := none) (by decide) rfl ?_
  intro p e s m args below meth c s₁ B hml hv
  obtain ⟨rfl, hsz, hP, hK, hD0, hN⟩ := hv
  have hr := B.returns
  have hlocks := B.notSynchronized
  subst hsz
  have hD := hD0.self (sz := s.heap.size)
  have hl := lv_entry ([.ref (mo_a 0), .int x1, .int x2]) (n := 4) (Nat.le_of_ble_eq_true rfl)
  rw [lg_entry_eq]
  generalize (lg_sl ([.ref (mo_a 0), .int x1, .int x2]) ++ List.replicate (4 - (lg_sl ([.ref (mo_a 0), .int x1, .int x2])).length) Slot.unset).toArray = ls at hl ⊢
  refine B_Model_emitBits (A := va_A (wMo cI cZ cJ mo_a mo) s.heap.size) ⟨B.exec, B.bytes, hml, findClass_of_methodNamed B.named, fun w h => atoms_spec (ws := ws_Model_emitBits) B.pre w (List.mem_cons_of_mem _ h), hK, fun q h => Or.inr h, Nat.le_of_ble_eq_true rfl, Nat.le_of_ble_eq_true rfl, hN, Nat.le_of_ble_eq_true rfl, Nat.le_of_ble_eq_true rfl⟩ (fun H locs ls mo'1 hP hD hS hf => ?_) hP hD va_S.rf hl hf
  · cases hf
    exact W.vret B.exec B.bytes hr (fun t ht hW => ⟨⟨(), rfl, trivial, ⟨by rw [ht]; exact hP, va_K.moved hW.alike hK, hD⟩⟩, hS.F ht⟩) hS.2.2 d_Model_emitBits_25

/-! Model_takeBits -/
def l_Model_takeBits_4 (x1 : Int32) (k26 : Mo → Int32 → Option (Int32 × Mo)) : Nat → Mo → Int32 → Int32 → Option (Int32 × Mo)
  | 0, _, _, _ => none
  | n + 1, mo, x2, x3 => (if x1 ≤ x3 then k26 mo x2 else bd (f_Model_take mo 32768) <| fun (r_4, mo_5) => lt' ((2 * x2) + r_4) <| fun x2_6 => lt' (x3 + 1) <| fun x3_7 => (l_Model_takeBits_4 x1 k26 n) mo_5 x2_6 x3_7)
def f_Model_takeBits (mo : Mo) (x1 : Int32) : Option (Int32 × Mo) := l_Model_takeBits_4 x1 (fun mo_8 x2_9 => some (x2_9, mo_8)) 100000 mo 0 0
section
variable {p : Program} {l : Launch} {e : Env} {R : Room} {s : State} {m : MethodId} {args : Array Value} {below : List Frame} {meth : Method} {c : Code} {Q : State → Prop} {A : Nat → Prop}
set_option maxHeartbeats 4000000 in
set_option maxRecDepth 100000 in
theorem L_Model_takeBits_4 {cells slots : Nat} {dC : Nat → ClassId} {dI : Nat → Nat → Nat} {cI cZ cJ : ClassId} {mo_a : Nat → Nat} {x1 : Int32} {k26 : Mo → Int32 → Option (Int32 × Mo)} {res : Int32 × Mo} (C0 : cxt p c m s args R cells slots R_Model c_Model_takeBits tb 4 (dC, dI) vwCl (TYS cI cZ cJ) A 2 45)
    (hk26 : ∀ (H : Heap) (locs : List Loc) (ls : Array Slot) (mo_1 : Mo) (x2_2 : Int32), va_P (dC, dI) vwCl (wMo cI cZ cJ mo_a mo_1) H → va_D A (wMo cI cZ cJ mo_a mo_1) → va_S A s.heap H locs → lv_has ls 4 [(2, .int x2_2)] → k26 mo_1 x2_2 = some res → W p l e R s m args below meth c H locs cells slots Q (F0 m 26 ls [])) :
    ∀ (n : Nat) (H : Heap) (locs : List Loc) (ls : Array Slot) (mo : Mo) (x2 : Int32) (x3 : Int32), va_P (dC, dI) vwCl (wMo cI cZ cJ mo_a mo) H → va_D A (wMo cI cZ cJ mo_a mo) → va_S A s.heap H locs → lv_has ls 4 [(0, .ref (mo_a 0)), (1, .int x1), (2, .int x2), (3, .int x3)] → l_Model_takeBits_4 x1 k26 n mo x2 x3 = some res → W p l e R s m args below meth c H locs cells slots Q (F0 m 4 ls []) := by
  obtain ⟨hx, hb, hml, hown, hts, hK, hA, hRf, hRl, hN, hRc⟩ := id C0
  intro n
  induction n with
  | zero =>
    intro H locs ls mo x2 x3 hP hD hS hl hf
    exact absurd hf (by simp [l_Model_takeBits_4])
  | succ n ih =>
    intro H locs ls mo x2 x3 hP hD hS hl hf
    rw [l_Model_takeBits_4] at hf
    refine lv_iload_n hx hb d_Model_takeBits_4 rfl (lv_at hl 3 rfl) ?_
    refine lv_iload_n hx hb d_Model_takeBits_5 rfl (lv_at hl 1 rfl) ?_
    refine lv_icmp_ge (tgt := 26) hx hb d_Model_takeBits_6 (by decide) (fun c_3 => ?_) (fun c_3 => ?_)
    · rw [if_pos c_3] at hf
      exact hk26 _ _ _ mo x2 hP hD hS (lv_sub hl [2] rfl) hf
    · rw [if_neg c_3] at hf
      refine lv_iconst (v := 2) hx hb d_Model_takeBits_9 (by decide) ?_
      refine lv_iload_n hx hb d_Model_takeBits_10 rfl (lv_at hl 2 rfl) ?_
      refine lv_imul hx hb d_Model_takeBits_11 ?_
      refine lv_aload_n hx hb d_Model_takeBits_12 rfl (lv_at hl 0 rfl) ?_
      refine lv_ldc (v := 32768) hx hb hown (hts (.constant R_Model 101 32768) (by decide +kernel)) d_Model_takeBits_13 ?_
      obtain ⟨⟨r_4, mo_5⟩, hf1, hf⟩ := bd_ex hf
      try dsimp only at hf
      have hPc := hP.sub (ws' := (wMo cI cZ cJ mo_a mo)) [0, 1, 2, 3, 4, 5, 6, 7, 8, 9, 10, 11, 12, 13, 14, 15] rfl
      have hDc := hD.sub (ws' := (wMo cI cZ cJ mo_a mo)) [0, 1, 2, 3, 4, 5, 6, 7, 8, 9, 10, 11, 12, 13, 14, 15] (by decide) rfl
      have hFc := va_free (wc := (wMo cI cZ cJ mo_a mo)) hD hS hA [0, 1, 2, 3, 4, 5, 6, 7, 8, 9, 10, 11, 12, 13, 14, 15] rfl
      refine va_calli (va_runV (As := [.int 32768]) (rest := [.int (2 * x2)]) ⟨hx, hb, hml, hown, hts⟩ (k_Model_take l dC dI cI cZ cJ mo_a H.size hf1) (cwV 1 hts (gV t_1059 t_1061 t_46 t_63 t_1062) rfl rfl rfl hd_Model_take ⟨Nat.le_trans (Nat.le_of_ble_eq_true rfl) hRf, Nat.le_trans (Nat.le_of_ble_eq_true rfl) hRl⟩) ⟨kP_blind, va_recv hK hP (ci := 7) (q0 := 0) rfl rfl, kP_at hPc hK hDc hN⟩ rfl rfl hl.1 rfl (lv_room (Nat.le_of_ble_eq_true rfl)) d_Model_takeBits_15 hRc) hS (fun q _ h => hFc q h) hFc (fun r9 u t H1 locs ht hvm hw hB hz1 hk1 hS => ?_)
      rw [hw]
      obtain ⟨hP, hD⟩ := kQ_join (wr := ([] : va_W)) (w1 := (wMo cI cZ cJ mo_a mo_5)) hP hD [0, 1, 2, 3, 4, 5, 6, 7, 8, 9, 10, 11, 12, 13, 14, 15] [] rfl rfl (by decide) (by decide) ht hk1 hFc hB
      generalize H1 = H at hP hS ⊢
      have hP : va_P (dC, dI) vwCl (wMo cI cZ cJ mo_a mo_5) H := hP.sub [0, 1, 2, 3, 4, 5, 6, 7, 8, 9, 10, 11, 12, 13, 14, 15] rfl
      have hD : va_D A (wMo cI cZ cJ mo_a mo_5) := hD.sub [0, 1, 2, 3, 4, 5, 6, 7, 8, 9, 10, 11, 12, 13, 14, 15] (by decide) rfl
      refine lv_iadd hx hb d_Model_takeBits_18 ?_
      obtain ⟨x2_6, ex2_6, hf⟩ := lt_ex hf
      try dsimp only at hf
      refine tp_i ex2_6 ?_
      refine lv_istore_n (lv' := [(2, .int x2_6), (0, .ref (mo_a 0)), (1, .int x1), (3, .int x3)]) hx hb d_Model_takeBits_19 rfl hl (by decide) rfl (fun ls hl => ?_)
      obtain ⟨x3_7, ex3_7, hf⟩ := lt_ex hf
      try dsimp only at hf
      refine lv_iinc (v := x3_7) (lv' := [(3, .int x3_7), (2, .int x2_6), (0, .ref (mo_a 0)), (1, .int x1)]) hx hb d_Model_takeBits_20 hl (k := 3) rfl (by rw [ex3_7]; rfl) (by decide) rfl (fun ls hl => ?_)
      refine lv_goto (tgt := 4) hx hb d_Model_takeBits_23 (by decide) ?_
      exact ih _ _ _ mo_5 x2_6 x3_7 hP hD hS (lv_sub hl [2, 3, 1, 0] rfl) hf
set_option maxHeartbeats 4000000 in
set_option maxRecDepth 100000 in
theorem B_Model_takeBits {cells slots : Nat} {dC : Nat → ClassId} {dI : Nat → Nat → Nat} {cI cZ cJ : ClassId} {mo_a : Nat → Nat} {mo : Mo} {x1 : Int32} {res : Int32 × Mo} (C0 : cxt p c m s args R cells slots R_Model c_Model_takeBits tb 4 (dC, dI) vwCl (TYS cI cZ cJ) A 2 45)
    (hr27 : ∀ (H : Heap) (locs : List Loc) (ls : Array Slot) (v : Int32) (mo' : Mo), va_P (dC, dI) vwCl (wMo cI cZ cJ mo_a mo') H → va_D A (wMo cI cZ cJ mo_a mo') → va_S A s.heap H locs → some (v, mo') = some res → W p l e R s m args below meth c H locs cells slots Q (F0 m 27 ls [.int v]))
    {H : Heap} {locs : List Loc} {ls : Array Slot} (hP : va_P (dC, dI) vwCl (wMo cI cZ cJ mo_a mo) H) (hD : va_D A (wMo cI cZ cJ mo_a mo)) (hS : va_S A s.heap H locs) (hl : lv_has ls 4 [(0, .ref (mo_a 0)), (1, .int x1)]) (hf : f_Model_takeBits mo x1 = some res) : W p l e R s m args below meth c H locs cells slots Q (F0 m 0 ls []) := by
  obtain ⟨hx, hb, hml, hown, hts, hK, hA, hRf, hRl, hN, hRc⟩ := id C0
  rw [f_Model_takeBits] at hf
  refine lv_iconst (v := 0) hx hb d_Model_takeBits_0 (by decide) ?_
  refine lv_istore_n (lv' := [(2, .int 0), (0, .ref (mo_a 0)), (1, .int x1)]) hx hb d_Model_takeBits_1 rfl hl (by decide) rfl (fun ls hl => ?_)
  refine lv_iconst (v := 0) hx hb d_Model_takeBits_2 (by decide) ?_
  refine lv_istore_n (lv' := [(3, .int 0), (2, .int 0), (0, .ref (mo_a 0)), (1, .int x1)]) hx hb d_Model_takeBits_3 rfl hl (by decide) rfl (fun ls hl => ?_)
  refine L_Model_takeBits_4 C0 (fun H locs ls mo_8 x2_9 hP hD hS hl hf => ?_) 100000 _ _ _ mo 0 0 hP hD hS (lv_sub hl [2, 3, 1, 0] rfl) hf
  try dsimp only at hf
  refine lv_iload_n hx hb d_Model_takeBits_26 rfl (lv_at hl 0 rfl) ?_
  exact hr27 _ _ _ x2_9 mo_8 hP hD hS hf
end
set_option maxHeartbeats 4000000 in
set_option maxRecDepth 100000 in
theorem k_Model_takeBits (l : Launch) (dC : Nat → ClassId) (dI : Nat → Nat → Nat) (cI cZ cJ : ClassId) (mo_a : Nat → Nat) (sz : Nat) {mo : Mo} {x1 : Int32} {r : Int32} {mo' : Mo} (hf : f_Model_takeBits mo x1 = some (r, mo')) :
    Met l y_Model_takeBits ws_Model_takeBits ({ frames := 2, cells := 0, slots := 0, locals := 45 }) (va_Pc [.ref (mo_a 0), .int x1] (kP (dC, dI) vwCl (TYS cI cZ cJ) (wMo cI cZ cJ mo_a mo) sz)) (va_Qi (fun (q : Int32) (_ : Unit) => q = r) (fun _ t => kQ (dC, dI) vwCl (TYS cI cZ cJ) (wMo cI cZ cJ mo_a mo) sz (wMo cI cZ cJ mo_a mo') t) (va_A (wMo cI cZ cJ mo_a mo) sz)) 0 0 (va_A (wMo cI cZ cJ mo_a mo) sz) := by
  refine Met.ofW (cc := c_Model_takeBits) (maxL := 4) (ret := (some .int)) (by decide) rfl ?_
  intro p e s m args below meth c s₁ B hml hv
  obtain ⟨rfl, hsz, hP, hK, hD0, hN⟩ := hv
  have hr := B.returns
  have hlocks := B.notSynchronized
  subst hsz
  have hD := hD0.self (sz := s.heap.size)
  have hl := lv_entry ([.ref (mo_a 0), .int x1]) (n := 4) (Nat.le_of_ble_eq_true rfl)
  rw [lg_entry_eq]
  generalize (lg_sl ([.ref (mo_a 0), .int x1]) ++ List.replicate (4 - (lg_sl ([.ref (mo_a 0), .int x1])).length) Slot.unset).toArray = ls at hl ⊢
  refine B_Model_takeBits (A := va_A (wMo cI cZ cJ mo_a mo) s.heap.size) ⟨B.exec, B.bytes, hml, findClass_of_methodNamed B.named, fun w h => atoms_spec (ws := ws_Model_takeBits) B.pre w (List.mem_cons_of_mem _ h), hK, fun q h => Or.inr h, Nat.le_of_ble_eq_true rfl, Nat.le_of_ble_eq_true rfl, hN, Nat.le_of_ble_eq_true rfl, Nat.le_of_ble_eq_true rfl⟩ (fun H locs ls v mo'1 hP hD hS hf => ?_) hP hD va_S.rf hl hf
  · cases hf
    exact W.iret B.exec B.bytes hr (fun t ht hW => ⟨⟨_, (), rfl, rfl, ⟨by rw [ht]; exact hP, va_K.moved hW.alike hK, hD⟩⟩, hS.F ht⟩) hS.2.2 d_Model_takeBits_27

/-! Model_emitNumber -/
def l_Model_emitNumber_2 (mo : Mo) (x1 : Int32) (k18 : Int32 → Option (Mo)) : Nat → Int32 → Option (Mo)
  | 0, _ => none
  | n + 1, x2 => (if ((x1 + 1) >>> ((x2 + 1) &&& 31)) ≤ 0 then k18 x2 else lt' (x2 + 1) <| fun x2_3 => (l_Model_emitNumber_2 mo x1 k18 n) x2_3)
def f_Model_emitNumber (mo : Mo) (x1 : Int32) : Option (Mo) := l_Model_emitNumber_2 mo x1 (fun x2_4 => bd (f_Model_emitBits mo 0 x2_4) <| fun mo_5 => bd (f_Model_emit mo_5 1 32768) <| fun mo_6 => bd (f_Model_emitBits mo_6 ((x1 + 1) - ((1 : Int32) <<< (x2_4 &&& 31))) x2_4) <| fun mo_7 => some mo_7) 100000 0
section
variable {p : Program} {l : Launch} {e : Env} {R : Room} {s : State} {m : MethodId} {args : Array Value} {below : List Frame} {meth : Method} {c : Code} {Q : State → Prop} {A : Nat → Prop}
set_option maxHeartbeats 4000000 in
set_option maxRecDepth 100000 in
theorem L_Model_emitNumber_2 {cells slots : Nat} {dC : Nat → ClassId} {dI : Nat → Nat → Nat} {cI cZ cJ : ClassId} {mo_a : Nat → Nat} {mo : Mo} {x1 : Int32} {k18 : Int32 → Option (Mo)} {res : Mo} (C0 : cxt p c m s args R cells slots R_Model c_Model_emitNumber tb 3 (dC, dI) vwCl (TYS cI cZ cJ) A 3 69)
    (hk18 : ∀ (H : Heap) (locs : List Loc) (ls : Array Slot) (x2_1 : Int32), va_P (dC, dI) vwCl (wMo cI cZ cJ mo_a mo) H → va_D A (wMo cI cZ cJ mo_a mo) → va_S A s.heap H locs → lv_has ls 3 [(0, .ref (mo_a 0)), (1, .int x1), (2, .int x2_1)] → k18 x2_1 = some res → W p l e R s m args below meth c H locs cells slots Q (F0 m 18 ls [])) :
    ∀ (n : Nat) (H : Heap) (locs : List Loc) (ls : Array Slot) (x2 : Int32), va_P (dC, dI) vwCl (wMo cI cZ cJ mo_a mo) H → va_D A (wMo cI cZ cJ mo_a mo) → va_S A s.heap H locs → lv_has ls 3 [(0, .ref (mo_a 0)), (1, .int x1), (2, .int x2)] → l_Model_emitNumber_2 mo x1 k18 n x2 = some res → W p l e R s m args below meth c H locs cells slots Q (F0 m 2 ls []) := by
  obtain ⟨hx, hb, hml, hown, hts, hK, hA, hRf, hRl, hN, hRc⟩ := id C0
  intro n
  induction n with
  | zero =>
    intro H locs ls x2 hP hD hS hl hf
    exact absurd hf (by simp [l_Model_emitNumber_2])
  | succ n ih =>
    intro H locs ls x2 hP hD hS hl hf
    rw [l_Model_emitNumber_2] at hf
    refine lv_iload_n hx hb d_Model_emitNumber_2 rfl (lv_at hl 1 rfl) ?_
    refine lv_iconst (v := 1) hx hb d_Model_emitNumber_3 (by decide) ?_
    refine lv_iadd hx hb d_Model_emitNumber_4 ?_
    refine lv_iload_n hx hb d_Model_emitNumber_5 rfl (lv_at hl 2 rfl) ?_
    refine lv_iconst (v := 1) hx hb d_Model_emitNumber_6 (by decide) ?_
    refine lv_iadd hx hb d_Model_emitNumber_7 ?_
    refine lv_ishr hx hb d_Model_emitNumber_8 ?_
    refine lv_if_le (tgt := 18) hx hb d_Model_emitNumber_9 (by decide) (fun c_2 => ?_) (fun c_2 => ?_)
    · rw [if_pos c_2] at hf
      exact hk18 _ _ _ x2 hP hD hS (lv_sub hl [0, 1, 2] rfl) hf
    · rw [if_neg c_2] at hf
      obtain ⟨x2_3, ex2_3, hf⟩ := lt_ex hf
      try dsimp only at hf
      refine lv_iinc (v := x2_3) (lv' := [(2, .int x2_3), (0, .ref (mo_a 0)), (1, .int x1)]) hx hb d_Model_emitNumber_12 hl (k := 2) rfl (by rw [ex2_3]; rfl) (by decide) rfl (fun ls hl => ?_)
      refine lv_goto (tgt := 2) hx hb d_Model_emitNumber_15 (by decide) ?_
      exact ih _ _ _ x2_3 hP hD hS (lv_sub hl [1, 2, 0] rfl) hf
set_option maxHeartbeats 4000000 in
set_option maxRecDepth 100000 in
theorem B_Model_emitNumber {cells slots : Nat} {dC : Nat → ClassId} {dI : Nat → Nat → Nat} {cI cZ cJ : ClassId} {mo_a : Nat → Nat} {mo : Mo} {x1 : Int32} {res : Mo} (C0 : cxt p c m s args R cells slots R_Model c_Model_emitNumber tb 3 (dC, dI) vwCl (TYS cI cZ cJ) A 3 69)
    (hr43 : ∀ (H : Heap) (locs : List Loc) (ls : Array Slot) (mo' : Mo), va_P (dC, dI) vwCl (wMo cI cZ cJ mo_a mo') H → va_D A (wMo cI cZ cJ mo_a mo') → va_S A s.heap H locs → some mo' = some res → W p l e R s m args below meth c H locs cells slots Q (F0 m 43 ls []))
    {H : Heap} {locs : List Loc} {ls : Array Slot} (hP : va_P (dC, dI) vwCl (wMo cI cZ cJ mo_a mo) H) (hD : va_D A (wMo cI cZ cJ mo_a mo)) (hS : va_S A s.heap H locs) (hl : lv_has ls 3 [(0, .ref (mo_a 0)), (1, .int x1)]) (hf : f_Model_emitNumber mo x1 = some res) : W p l e R s m args below meth c H locs cells slots Q (F0 m 0 ls []) := by
  obtain ⟨hx, hb, hml, hown, hts, hK, hA, hRf, hRl, hN, hRc⟩ := id C0
  rw [f_Model_emitNumber] at hf
  refine lv_iconst (v := 0) hx hb d_Model_emitNumber_0 (by decide) ?_
  refine lv_istore_n (lv' := [(2, .int 0), (0, .ref (mo_a 0)), (1, .int x1)]) hx hb d_Model_emitNumber_1 rfl hl (by decide) rfl (fun ls hl => ?_)
  refine L_Model_emitNumber_2 C0 (fun H locs ls x2_4 hP hD hS hl hf => ?_) 100000 _ _ _ 0 hP hD hS (lv_sub hl [1, 2, 0] rfl) hf
  try dsimp only at hf
  refine lv_aload_n hx hb d_Model_emitNumber_18 rfl (lv_at hl 0 rfl) ?_
  refine lv_iconst (v := 0) hx hb d_Model_emitNumber_19 (by decide) ?_
  refine lv_iload_n hx hb d_Model_emitNumber_20 rfl (lv_at hl 2 rfl) ?_
  obtain ⟨mo_5, hf1, hf⟩ := bd_ex hf
  try dsimp only at hf
  have hPc := hP.sub (ws' := (wMo cI cZ cJ mo_a mo)) [0, 1, 2, 3, 4, 5, 6, 7, 8, 9, 10, 11, 12, 13, 14, 15] rfl
  have hDc := hD.sub (ws' := (wMo cI cZ cJ mo_a mo)) [0, 1, 2, 3, 4, 5, 6, 7, 8, 9, 10, 11, 12, 13, 14, 15] (by decide) rfl
  have hFc := va_free (wc := (wMo cI cZ cJ mo_a mo)) hD hS hA [0, 1, 2, 3, 4, 5, 6, 7, 8, 9, 10, 11, 12, 13, 14, 15] rfl
  refine va_callv (va_runV (As := [.int 0, .int x2_4]) (rest := []) ⟨hx, hb, hml, hown, hts⟩ (k_Model_emitBits l dC dI cI cZ cJ mo_a H.size hf1) (cwV 2 hts (gV t_978 t_980 t_31 t_63 t_981) rfl rfl rfl hd_Model_emitBits ⟨Nat.le_trans (Nat.le_of_ble_eq_true rfl) hRf, Nat.le_trans (Nat.le_of_ble_eq_true rfl) hRl⟩) ⟨kP_blind, va_recv hK hP (ci := 7) (q0 := 0) rfl rfl, kP_at hPc hK hDc hN⟩ rfl rfl hl.1 rfl (lv_room (Nat.le_of_ble_eq_true rfl)) d_Model_emitNumber_21 hRc) hS (fun q _ h => hFc q h) hFc (fun u t H1 locs ht hvm hw hB hz1 hk1 hS => ?_)
  obtain ⟨hP, hD⟩ := kQ_join (wr := ([] : va_W)) (w1 := (wMo cI cZ cJ mo_a mo_5)) hP hD [0, 1, 2, 3, 4, 5, 6, 7, 8, 9, 10, 11, 12, 13, 14, 15] [] rfl rfl (by decide) (by decide) ht hk1 hFc hB
  generalize H1 = H at hP hS ⊢
  have hP : va_P (dC, dI) vwCl (wMo cI cZ cJ mo_a mo_5) H := hP.sub [0, 1, 2, 3, 4, 5, 6, 7, 8, 9, 10, 11, 12, 13, 14, 15] rfl
  have hD : va_D A (wMo cI cZ cJ mo_a mo_5) := hD.sub [0, 1, 2, 3, 4, 5, 6, 7, 8, 9, 10, 11, 12, 13, 14, 15] (by decide) rfl
  refine lv_aload_n hx hb d_Model_emitNumber_24 rfl (lv_at hl 0 rfl) ?_
  refine lv_iconst (v := 1) hx hb d_Model_emitNumber_25 (by decide) ?_
  refine lv_ldc (v := 32768) hx hb hown (hts (.constant R_Model 101 32768) (by decide +kernel)) d_Model_emitNumber_26 ?_
  obtain ⟨mo_6, hf1, hf⟩ := bd_ex hf
  try dsimp only at hf
  have hPc := hP.sub (ws' := (wMo cI cZ cJ mo_a mo_5)) [0, 1, 2, 3, 4, 5, 6, 7, 8, 9, 10, 11, 12, 13, 14, 15] rfl
  have hDc := hD.sub (ws' := (wMo cI cZ cJ mo_a mo_5)) [0, 1, 2, 3, 4, 5, 6, 7, 8, 9, 10, 11, 12, 13, 14, 15] (by decide) rfl
  have hFc := va_free (wc := (wMo cI cZ cJ mo_a mo_5)) hD hS hA [0, 1, 2, 3, 4, 5, 6, 7, 8, 9, 10, 11, 12, 13, 14, 15] rfl
  refine va_callv (va_runV (As := [.int 1, .int 32768]) (rest := []) ⟨hx, hb, hml, hown, hts⟩ (k_Model_emit l dC dI cI cZ cJ mo_a H.size hf1) (cwV 2 hts (gV t_982 t_984 t_32 t_63 t_985) rfl rfl rfl hd_Model_emit ⟨Nat.le_trans (Nat.le_of_ble_eq_true rfl) hRf, Nat.le_trans (Nat.le_of_ble_eq_true rfl) hRl⟩) ⟨kP_blind, va_recv hK hP (ci := 7) (q0 := 0) rfl rfl, kP_at hPc hK hDc hN⟩ rfl rfl hl.1 rfl (lv_room (Nat.le_of_ble_eq_true rfl)) d_Model_emitNumber_28 hRc) hS (fun q _ h => hFc q h) hFc (fun u t H1 locs ht hvm hw hB hz1 hk1 hS => ?_)
  obtain ⟨hP, hD⟩ := kQ_join (wr := ([] : va_W)) (w1 := (wMo cI cZ cJ mo_a mo_6)) hP hD [0, 1, 2, 3, 4, 5, 6, 7, 8, 9, 10, 11, 12, 13, 14, 15] [] rfl rfl (by decide) (by decide) ht hk1 hFc hB
  generalize H1 = H at hP hS ⊢
  have hP : va_P (dC, dI) vwCl (wMo cI cZ cJ mo_a mo_6) H := hP.sub [0, 1, 2, 3, 4, 5, 6, 7, 8, 9, 10, 11, 12, 13, 14, 15] rfl
  have hD : va_D A (wMo cI cZ cJ mo_a mo_6) := hD.sub [0, 1, 2, 3, 4, 5, 6, 7, 8, 9, 10, 11, 12, 13, 14, 15] (by decide) rfl
  refine lv_aload_n hx hb d_Model_emitNumber_31 rfl (lv_at hl 0 rfl) ?_
  refine lv_iload_n hx hb d_Model_emitNumber_32 rfl (lv_at hl 1 rfl) ?_
  refine lv_iconst (v := 1) hx hb d_Model_emitNumber_33 (by decide) ?_
  refine lv_iadd hx hb d_Model_emitNumber_34 ?_
  refine lv_iconst (v := 1) hx hb d_Model_emitNumber_35 (by decide) ?_
  refine lv_iload_n hx hb d_Model_emitNumber_36 rfl (lv_at hl 2 rfl) ?_
  refine lv_ishl hx hb d_Model_emitNumber_37 ?_
  refine lv_isub hx hb d_Model_emitNumber_38 ?_
  refine lv_iload_n hx hb d_Model_emitNumber_39 rfl (lv_at hl 2 rfl) ?_
  obtain ⟨mo_7, hf1, hf⟩ := bd_ex hf
  try dsimp only at hf
  have hPc := hP.sub (ws' := (wMo cI cZ cJ mo_a mo_6)) [0, 1, 2, 3, 4, 5, 6, 7, 8, 9, 10, 11, 12, 13, 14, 15] rfl
  have hDc := hD.sub (ws' := (wMo cI cZ cJ mo_a mo_6)) [0, 1, 2, 3, 4, 5, 6, 7, 8, 9, 10, 11, 12, 13, 14, 15] (by decide) rfl
  have hFc := va_free (wc := (wMo cI cZ cJ mo_a mo_6)) hD hS hA [0, 1, 2, 3, 4, 5, 6, 7, 8, 9, 10, 11, 12, 13, 14, 15] rfl
  refine va_callv (va_runV (As := [.int ((x1 + 1) - ((1 : Int32) <<< (x2_4 &&& 31))), .int x2_4]) (rest := []) ⟨hx, hb, hml, hown, hts⟩ (k_Model_emitBits l dC dI cI cZ cJ mo_a H.size hf1) (cwV 2 hts (gV t_978 t_980 t_31 t_63 t_981) rfl rfl rfl hd_Model_emitBits ⟨Nat.le_trans (Nat.le_of_ble_eq_true rfl) hRf, Nat.le_trans (Nat.le_of_ble_eq_true rfl) hRl⟩) ⟨kP_blind, va_recv hK hP (ci := 7) (q0 := 0) rfl rfl, kP_at hPc hK hDc hN⟩ rfl rfl hl.1 rfl (lv_room (Nat.le_of_ble_eq_true rfl)) d_Model_emitNumber_40 hRc) hS (fun q _ h => hFc q h) hFc (fun u t H1 locs ht hvm hw hB hz1 hk1 hS => ?_)
  obtain ⟨hP, hD⟩ := kQ_join (wr := ([] : va_W)) (w1 := (wMo cI cZ cJ mo_a mo_7)) hP hD [0, 1, 2, 3, 4, 5, 6, 7, 8, 9, 10, 11, 12, 13, 14, 15] [] rfl rfl (by decide) (by decide) ht hk1 hFc hB
  generalize H1 = H at hP hS ⊢
  have hP : va_P (dC, dI) vwCl (wMo cI cZ cJ mo_a mo_7) H := hP.sub [0, 1, 2, 3, 4, 5, 6, 7, 8, 9, 10, 11, 12, 13, 14, 15] rfl
  have hD : va_D A (wMo cI cZ cJ mo_a mo_7) := hD.sub [0, 1, 2, 3, 4, 5, 6, 7, 8, 9, 10, 11, 12, 13, 14, 15] (by decide) rfl
  exact hr43 _ _ _ mo_7 hP hD hS hf
end
set_option maxHeartbeats 4000000 in
set_option maxRecDepth 100000 in
theorem k_Model_emitNumber (l : Launch) (dC : Nat → ClassId) (dI : Nat → Nat → Nat) (cI cZ cJ : ClassId) (mo_a : Nat → Nat) (sz : Nat) {mo : Mo} {x1 : Int32} {mo' : Mo} (hf : f_Model_emitNumber mo x1 = some mo') :
    Met l y_Model_emitNumber ws_Model_emitNumber ({ frames := 3, cells := 0, slots := 0, locals := 69 }) (va_Pc [.ref (mo_a 0), .int x1] (kP (dC, dI) vwCl (TYS cI cZ cJ) (wMo cI cZ cJ mo_a mo) sz)) (va_Qv (fun (_ : Unit) => True) (fun _ t => kQ (dC, dI) vwCl (TYS cI cZ cJ) (wMo cI cZ cJ mo_a mo) sz (wMo cI cZ cJ mo_a mo') t) (va_A (wMo cI cZ cJ mo_a mo) sz)) 0 0 (va_A (wMo cI cZ cJ mo_a mo) sz) := by
  refine Met.ofW (cc := c_Model_emitNumber) (maxL := 3) (ret := none) (by decide) rfl ?_
  intro p e s m args below meth c s₁ B hml hv
  obtain ⟨rfl, hsz, hP, hK, hD0, hN⟩ := hv
  have hr := B.returns
  have hlocks := B.notSynchronized
  subst hsz
  have hD := hD0.self (sz := s.heap.size)
  have hl := lv_entry ([.ref (mo_a 0), .int x1]) (n := 3) (Nat.le_of_ble_eq_true rfl)
  rw [lg_entry_eq]
  generalize (lg_sl ([.ref (mo_a 0), .int x1]) ++ List.replicate (3 - (lg_sl ([.ref (mo_a 0), .int x1])).length) Slot.unset).toArray = ls at hl ⊢
  refine B_Model_emitNumber (A := va_A (wMo cI cZ cJ mo_a mo) s.heap.size) ⟨B.exec, B.bytes, hml, findClass_of_methodNamed B.named, fun w h => atoms_spec (ws := ws_Model_emitNumber) B.pre w (List.mem_cons_of_mem _ h), hK, fun q h => Or.inr h, Nat.le_of_ble_eq_true rfl, Nat.le_of_ble_eq_true rfl, hN, Nat.le_of_ble_eq_true rfl, Nat.le_of_ble_eq_true rfl⟩ (fun H locs ls mo'1 hP hD hS hf => ?_) hP hD va_S.rf hl hf
  · cases hf
    exact W.vret B.exec B.bytes hr (fun t ht hW => ⟨⟨(), rfl, trivial, ⟨by rw [ht]; exact hP, va_K.moved hW.alike hK, hD⟩⟩, hS.F ht⟩) hS.2.2 d_Model_emitNumber_43

/-! Model_takeNumber -/
def l_Model_takeNumber_2 (k23 : Mo → Int32 → Option (Int32 × Mo)) : Nat → Mo → Int32 → Option (Int32 × Mo)
  | 0, _, _ => none
  | n + 1, mo, x1 => (if 9 ≤ x1 then k23 mo x1 else bd (f_Model_take mo 32768) <| fun (r_4, mo_5) => (if r_4 = 0 then lt' (x1 + 1) <| fun x1_7 => (l_Model_takeNumber_2 k23 n) mo_5 x1_7 else k23 mo_5 x1))
def f_Model_takeNumber (mo : Mo) : Option (Int32 × Mo) := l_Model_takeNumber_2 (fun mo_8 x1_9 => (if x1_9 ≤ 8 then bd (f_Model_takeBits mo_8 x1_9) <| fun (r_11, mo_12) => some ((((1 : Int32) <<< (x1_9 &&& 31)) + r_11) - 1, mo_12) else lt' (Mo_s_why mo_8 7) <| fun mo_13 => some (0, mo_13))) 100000 mo 0
section
variable {p : Program} {l : Launch} {e : Env} {R : Room} {s : State} {m : MethodId} {args : Array Value} {below : List Frame} {meth : Method} {c : Code} {Q : State → Prop} {A : Nat → Prop}
set_option maxHeartbeats 4000000 in
set_option maxRecDepth 100000 in
theorem L_Model_takeNumber_2 {cells slots : Nat} {dC : Nat → ClassId} {dI : Nat → Nat → Nat} {cI cZ cJ : ClassId} {mo_a : Nat → Nat} {k23 : Mo → Int32 → Option (Int32 × Mo)} {res : Int32 × Mo} (C0 : cxt p c m s args R cells slots R_Model c_Model_takeNumber tb 2 (dC, dI) vwCl (TYS cI cZ cJ) A 3 68)
    (hk23 : ∀ (H : Heap) (locs : List Loc) (ls : Array Slot) (mo_1 : Mo) (x1_2 : Int32), va_P (dC, dI) vwCl (wMo cI cZ cJ mo_a mo_1) H → va_D A (wMo cI cZ cJ mo_a mo_1) → va_S A s.heap H locs → lv_has ls 2 [(0, .ref (mo_a 0)), (1, .int x1_2)] → k23 mo_1 x1_2 = some res → W p l e R s m args below meth c H locs cells slots Q (F0 m 23 ls [])) :
    ∀ (n : Nat) (H : Heap) (locs : List Loc) (ls : Array Slot) (mo : Mo) (x1 : Int32), va_P (dC, dI) vwCl (wMo cI cZ cJ mo_a mo) H → va_D A (wMo cI cZ cJ mo_a mo) → va_S A s.heap H locs → lv_has ls 2 [(0, .ref (mo_a 0)), (1, .int x1)] → l_Model_takeNumber_2 k23 n mo x1 = some res → W p l e R s m args below meth c H locs cells slots Q (F0 m 2 ls []) := by
  obtain ⟨hx, hb, hml, hown, hts, hK, hA, hRf, hRl, hN, hRc⟩ := id C0
  intro n
  induction n with
  | zero =>
    intro H locs ls mo x1 hP hD hS hl hf
    exact absurd hf (by simp [l_Model_takeNumber_2])
  | succ n ih =>
    intro H locs ls mo x1 hP hD hS hl hf
    rw [l_Model_takeNumber_2] at hf
    refine lv_iload_n hx hb d_Model_takeNumber_2 rfl (lv_at hl 1 rfl) ?_
    refine lv_bipush (v := 9) hx hb d_Model_takeNumber_3 (by decide) ?_
    refine lv_icmp_ge (tgt := 23) hx hb d_Model_takeNumber_5 (by decide) (fun c_3 => ?_) (fun c_3 => ?_)
    · rw [if_pos c_3] at hf
      exact hk23 _ _ _ mo x1 hP hD hS (lv_sub hl [0, 1] rfl) hf
    · rw [if_neg c_3] at hf
      refine lv_aload_n hx hb d_Model_takeNumber_8 rfl (lv_at hl 0 rfl) ?_
      refine lv_ldc (v := 32768) hx hb hown (hts (.constant R_Model 101 32768) (by decide +kernel)) d_Model_takeNumber_9 ?_
      obtain ⟨⟨r_4, mo_5⟩, hf1, hf⟩ := bd_ex hf
      try dsimp only at hf
      have hPc := hP.sub (ws' := (wMo cI cZ cJ mo_a mo)) [0, 1, 2, 3, 4, 5, 6, 7, 8, 9, 10, 11, 12, 13, 14, 15] rfl
      have hDc := hD.sub (ws' := (wMo cI cZ cJ mo_a mo)) [0, 1, 2, 3, 4, 5, 6, 7, 8, 9, 10, 11, 12, 13, 14, 15] (by decide) rfl
      have hFc := va_free (wc := (wMo cI cZ cJ mo_a mo)) hD hS hA [0, 1, 2, 3, 4, 5, 6, 7, 8, 9, 10, 11, 12, 13, 14, 15] rfl
      refine va_calli (va_runV (As := [.int 32768]) (rest := []) ⟨hx, hb, hml, hown, hts⟩ (k_Model_take l dC dI cI cZ cJ mo_a H.size hf1) (cwV 1 hts (gV t_1059 t_1061 t_46 t_63 t_1062) rfl rfl rfl hd_Model_take ⟨Nat.le_trans (Nat.le_of_ble_eq_true rfl) hRf, Nat.le_trans (Nat.le_of_ble_eq_true rfl) hRl⟩) ⟨kP_blind, va_recv hK hP (ci := 7) (q0 := 0) rfl rfl, kP_at hPc hK hDc hN⟩ rfl rfl hl.1 rfl (lv_room (Nat.le_of_ble_eq_true rfl)) d_Model_takeNumber_11 hRc) hS (fun q _ h => hFc q h) hFc (fun r9 u t H1 locs ht hvm hw hB hz1 hk1 hS => ?_)
      rw [hw]
      obtain ⟨hP, hD⟩ := kQ_join (wr := ([] : va_W)) (w1 := (wMo cI cZ cJ mo_a mo_5)) hP hD [0, 1, 2, 3, 4, 5, 6, 7, 8, 9, 10, 11, 12, 13, 14, 15] [] rfl rfl (by decide) (by decide) ht hk1 hFc hB
      generalize H1 = H at hP hS ⊢
      have hP : va_P (dC, dI) vwCl (wMo cI cZ cJ mo_a mo_5) H := hP.sub [0, 1, 2, 3, 4, 5, 6, 7, 8, 9, 10, 11, 12, 13, 14, 15] rfl
      have hD : va_D A (wMo cI cZ cJ mo_a mo_5) := hD.sub [0, 1, 2, 3, 4, 5, 6, 7, 8, 9, 10, 11, 12, 13, 14, 15] (by decide) rfl
      refine lv_if_ne (tgt := 23) hx hb d_Model_takeNumber_14 (by decide) (fun c_6 => ?_) (fun c_6 => ?_)
      · rw [if_neg c_6] at hf
        exact hk23 _ _ _ mo_5 x1 hP hD hS (lv_sub hl [0, 1] rfl) hf
      · rw [if_pos c_6] at hf
        obtain ⟨x1_7, ex1_7, hf⟩ := lt_ex hf
        try dsimp only at hf
        refine lv_iinc (v := x1_7) (lv' := [(1, .int x1_7), (0, .ref (mo_a 0))]) hx hb d_Model_takeNumber_17 hl (k := 1) rfl (by rw [ex1_7]; rfl) (by decide) rfl (fun ls hl => ?_)
        refine lv_goto (tgt := 2) hx hb d_Model_takeNumber_20 (by decide) ?_
        exact ih _ _ _ mo_5 x1_7 hP hD hS (lv_sub hl [1, 0] rfl) hf
set_option maxHeartbeats 4000000 in
set_option maxRecDepth 100000 in
theorem B_Model_takeNumber {cells slots : Nat} {dC : Nat → ClassId} {dI : Nat → Nat → Nat} {cI cZ cJ : ClassId} {mo_a : Nat → Nat} {mo : Mo} {res : Int32 × Mo} (C0 : cxt p c m s args R cells slots R_Model c_Model_takeNumber tb 2 (dC, dI) vwCl (TYS cI cZ cJ) A 3 68)
    (hr36 : ∀ (H : Heap) (locs : List Loc) (ls : Array Slot) (v : Int32) (mo' : Mo), va_P (dC, dI) vwCl (wMo cI cZ cJ mo_a mo') H → va_D A (wMo cI cZ cJ mo_a mo') → va_S A s.heap H locs → some (v, mo') = some res → W p l e R s m args below meth c H locs cells slots Q (F0 m 36 ls [.int v]))
    (hr48 : ∀ (H : Heap) (locs : List Loc) (ls : Array Slot) (v : Int32) (mo' : Mo), va_P (dC, dI) vwCl (wMo cI cZ cJ mo_a mo') H → va_D A (wMo cI cZ cJ mo_a mo') → va_S A s.heap H locs → some (v, mo') = some res → W p l e R s m args below meth c H locs cells slots Q (F0 m 48 ls [.int v]))
    {H : Heap} {locs : List Loc} {ls : Array Slot} (hP : va_P (dC, dI) vwCl (wMo cI cZ cJ mo_a mo) H) (hD : va_D A (wMo cI cZ cJ mo_a mo)) (hS : va_S A s.heap H locs) (hl : lv_has ls 2 [(0, .ref (mo_a 0))]) (hf : f_Model_takeNumber mo = some res) : W p l e R s m args below meth c H locs cells slots Q (F0 m 0 ls []) := by
  obtain ⟨hx, hb, hml, hown, hts, hK, hA, hRf, hRl, hN, hRc⟩ := id C0
  rw [f_Model_takeNumber] at hf
  refine lv_iconst (v := 0) hx hb d_Model_takeNumber_0 (by decide) ?_
  refine lv_istore_n (lv' := [(1, .int 0), (0, .ref (mo_a 0))]) hx hb d_Model_takeNumber_1 rfl hl (by decide) rfl (fun ls hl => ?_)
  refine L_Model_takeNumber_2 C0 (fun H locs ls mo_8 x1_9 hP hD hS hl hf => ?_) 100000 _ _ _ mo 0 hP hD hS (lv_sub hl [1, 0] rfl) hf
  try dsimp only at hf
  refine lv_iload_n hx hb d_Model_takeNumber_23 rfl (lv_at hl 1 rfl) ?_
  refine lv_bipush (v := 8) hx hb d_Model_takeNumber_24 (by decide) ?_
  refine lv_icmp_le (tgt := 37) hx hb d_Model_takeNumber_26 (by decide) (fun c_10 => ?_) (fun c_10 => ?_)
  · rw [if_pos c_10] at hf
    refine lv_iconst (v := 1) hx hb d_Model_takeNumber_37 (by decide) ?_
    refine lv_iload_n hx hb d_Model_takeNumber_38 rfl (lv_at hl 1 rfl) ?_
    refine lv_ishl hx hb d_Model_takeNumber_39 ?_
    refine lv_aload_n hx hb d_Model_takeNumber_40 rfl (lv_at hl 0 rfl) ?_
    refine lv_iload_n hx hb d_Model_takeNumber_41 rfl (lv_at hl 1 rfl) ?_
    obtain ⟨⟨r_11, mo_12⟩, hf1, hf⟩ := bd_ex hf
    try dsimp only at hf
    have hPc := hP.sub (ws' := (wMo cI cZ cJ mo_a mo_8)) [0, 1, 2, 3, 4, 5, 6, 7, 8, 9, 10, 11, 12, 13, 14, 15] rfl
    have hDc := hD.sub (ws' := (wMo cI cZ cJ mo_a mo_8)) [0, 1, 2, 3, 4, 5, 6, 7, 8, 9, 10, 11, 12, 13, 14, 15] (by decide) rfl
    have hFc := va_free (wc := (wMo cI cZ cJ mo_a mo_8)) hD hS hA [0, 1, 2, 3, 4, 5, 6, 7, 8, 9, 10, 11, 12, 13, 14, 15] rfl
    refine va_calli (va_runV (As := [.int x1_9]) (rest := [.int ((1 : Int32) <<< (x1_9 &&& 31))]) ⟨hx, hb, hml, hown, hts⟩ (k_Model_takeBits l dC dI cI cZ cJ mo_a H.size hf1) (cwV 1 hts (gV t_1063 t_1065 t_47 t_63 t_1066) rfl rfl rfl hd_Model_takeBits ⟨Nat.le_trans (Nat.le_of_ble_eq_true rfl) hRf, Nat.le_trans (Nat.le_of_ble_eq_true rfl) hRl⟩) ⟨kP_blind, va_recv hK hP (ci := 7) (q0 := 0) rfl rfl, kP_at hPc hK hDc hN⟩ rfl rfl hl.1 rfl (lv_room (Nat.le_of_ble_eq_true rfl)) d_Model_takeNumber_42 hRc) hS (fun q _ h => hFc q h) hFc (fun r9 u t H1 locs ht hvm hw hB hz1 hk1 hS => ?_)
    rw [hw]
    obtain ⟨hP, hD⟩ := kQ_join (wr := ([] : va_W)) (w1 := (wMo cI cZ cJ mo_a mo_12)) hP hD [0, 1, 2, 3, 4, 5, 6, 7, 8, 9, 10, 11, 12, 13, 14, 15] [] rfl rfl (by decide) (by decide) ht hk1 hFc hB
    generalize H1 = H at hP hS ⊢
    have hP : va_P (dC, dI) vwCl (wMo cI cZ cJ mo_a mo_12) H := hP.sub [0, 1, 2, 3, 4, 5, 6, 7, 8, 9, 10, 11, 12, 13, 14, 15] rfl
    have hD : va_D A (wMo cI cZ cJ mo_a mo_12) := hD.sub [0, 1, 2, 3, 4, 5, 6, 7, 8, 9, 10, 11, 12, 13, 14, 15] (by decide) rfl
    refine lv_iadd hx hb d_Model_takeNumber_45 ?_
    refine lv_iconst (v := 1) hx hb d_Model_takeNumber_46 (by decide) ?_
    refine lv_isub hx hb d_Model_takeNumber_47 ?_
    exact hr48 _ _ _ ((((1 : Int32) <<< (x1_9 &&& 31)) + r_11) - 1) mo_12 hP hD hS hf
  · rw [if_neg c_10] at hf
    refine lv_aload_n hx hb d_Model_takeNumber_29 rfl (lv_at hl 0 rfl) ?_
    refine lv_bipush (v := 7) hx hb d_Model_takeNumber_30 (by decide) ?_
    refine va_put (D := (dC, dI)) (ci := 7) (v := .int 7) (ty := .int) (C := R_Model) (T := T_Model) (N := 27) hx hb hts in_Model ty_Model tyok_Model nm_Model hown hK hP hD hS 0 rfl rfl 26 (by decide) (hts _ t_850) (fun _ h9 => h9) rfl (by decide +kernel) rfl rfl (Nat.le_of_ble_eq_true rfl) d_Model_takeNumber_32 (fun H locs hP hD hS => ?_)
    obtain ⟨mo_13, emo_13, hf⟩ := lt_ex hf
    try dsimp only at hf
    have hP : va_P (dC, dI) vwCl (wMo cI cZ cJ mo_a mo_13) H := by rw [emo_13]; exact hP
    have hD : va_D A (wMo cI cZ cJ mo_a mo_13) := by rw [emo_13]; exact hD
    refine lv_iconst (v := 0) hx hb d_Model_takeNumber_35 (by decide) ?_
    exact hr36 _ _ _ 0 mo_13 hP hD hS hf
end
set_option maxHeartbeats 4000000 in
set_option maxRecDepth 100000 in
theorem k_Model_takeNumber (l : Launch) (dC : Nat → ClassId) (dI : Nat → Nat → Nat) (cI cZ cJ : ClassId) (mo_a : Nat → Nat) (sz : Nat) {mo : Mo} {r : Int32} {mo' : Mo} (hf : f_Model_takeNumber mo = some (r, mo')) :
    Met l y_Model_takeNumber ws_Model_takeNumber ({ frames := 3, cells := 0, slots := 0, locals := 68 }) (va_Pc [.ref (mo_a 0)] (kP (dC, dI) vwCl (TYS cI cZ cJ) (wMo cI cZ cJ mo_a mo) sz)) (va_Qi (fun (q : Int32) (_ : Unit) => q = r) (fun _ t => kQ (dC, dI) vwCl (TYS cI cZ cJ) (wMo cI cZ cJ mo_a mo) sz (wMo cI cZ cJ mo_a mo') t) (va_A (wMo cI cZ cJ mo_a mo) sz)) 0 0 (va_A (wMo cI cZ cJ mo_a mo) sz) := by
  refine Met.ofW (cc := c_Model_takeNumber) (maxL := 2) (ret := (some .int)) (by decide) rfl ?_
  intro p e s m args below meth c s₁ B hml hv
  obtain ⟨rfl, hsz, hP, hK, hD0, hN⟩ := hv
  have hr := B.returns
  have hlocks := B.notSynchronized
  subst hsz
  have hD := hD0.self (sz := s.heap.size)
  have hl := lv_entry ([.ref (mo_a 0)]) (n := 2) (Nat.le_of_ble_eq_true rfl)
  rw [lg_entry_eq]
  generalize (lg_sl ([.ref (mo_a 0)]) ++ List.replicate (2 - (lg_sl ([.ref (mo_a 0)])).length) Slot.unset).toArray = ls at hl ⊢
  refine B_Model_takeNumber (A := va_A (wMo cI cZ cJ mo_a mo) s.heap.size) ⟨B.exec, B.bytes, hml, findClass_of_methodNamed B.named, fun w h => atoms_spec (ws := ws_Model_takeNumber) B.pre w (List.mem_cons_of_mem _ h), hK, fun q h => Or.inr h, Nat.le_of_ble_eq_true rfl, Nat.le_of_ble_eq_true rfl, hN, Nat.le_of_ble_eq_true rfl, Nat.le_of_ble_eq_true rfl⟩ (fun H locs ls v mo'1 hP hD hS hf => ?_) (fun H locs ls v mo'1 hP hD hS hf => ?_) hP hD va_S.rf hl hf
  · cases hf
    exact W.iret B.exec B.bytes hr (fun t ht hW => ⟨⟨_, (), rfl, rfl, ⟨by rw [ht]; exact hP, va_K.moved hW.alike hK, hD⟩⟩, hS.F ht⟩) hS.2.2 d_Model_takeNumber_36
  · cases hf
    exact W.iret B.exec B.bytes hr (fun t ht hW => ⟨⟨_, (), rfl, rfl, ⟨by rw [ht]; exact hP, va_K.moved hW.alike hK, hD⟩⟩, hS.F ht⟩) hS.2.2 d_Model_takeNumber_48

/-! Model_planeAt -/
def f_Model_planeAt (mo : Mo) (x1 : Int32) (x2 : Int32) (x3 : Int32) : Option (Int32) := (if x1 < 0 then some 0 else (if x2 < 0 then some 0 else (if x3 ≤ x1 then some 0 else gd (inb x2 16) <| some (((Mo_pl mo x2.toNatClampNeg) >>> (x1 &&& 31)) &&& 1))))
section
variable {p : Program} {l : Launch} {e : Env} {R : Room} {s : State} {m : MethodId} {args : Array Value} {below : List Frame} {meth : Method} {c : Code} {Q : State → Prop} {A : Nat → Prop}
set_option maxHeartbeats 4000000 in
set_option maxRecDepth 100000 in
theorem B_Model_planeAt {cells slots : Nat} {dC : Nat → ClassId} {dI : Nat → Nat → Nat} {cI cZ cJ : ClassId} {mo_a : Nat → Nat} {mo : Mo} {x1 : Int32} {x2 : Int32} {x3 : Int32} {res : Int32} (C0 : cxt p c m s args R cells slots R_Model c_Model_planeAt tb 4 (dC, dI) vwCl (TYS cI cZ cJ) A 0 0)
    (hr27 : ∀ (H : Heap) (locs : List Loc) (ls : Array Slot) (v : Int32), va_P (dC, dI) vwCl (wMo cI cZ cJ mo_a mo) H → va_D A (wMo cI cZ cJ mo_a mo) → va_S A s.heap H locs → some v = some res → W p l e R s m args below meth c H locs cells slots Q (F0 m 27 ls [.int v]))
    {H : Heap} {locs : List Loc} {ls : Array Slot} (hP : va_P (dC, dI) vwCl (wMo cI cZ cJ mo_a mo) H) (hD : va_D A (wMo cI cZ cJ mo_a mo)) (hS : va_S A s.heap H locs) (hl : lv_has ls 4 [(0, .ref (mo_a 0)), (1, .int x1), (2, .int x2), (3, .int x3)]) (hf : f_Model_planeAt mo x1 x2 x3 = some res) : W p l e R s m args below meth c H locs cells slots Q (F0 m 0 ls []) := by
  obtain ⟨hx, hb, hml, hown, hts, hK, hA, hRf, hRl, hN, hRc⟩ := id C0
  rw [f_Model_planeAt] at hf
  refine lv_iload_n hx hb d_Model_planeAt_0 rfl (lv_at hl 1 rfl) ?_
  refine lv_if_lt (tgt := 26) hx hb d_Model_planeAt_1 (by decide) (fun c_1 => ?_) (fun c_1 => ?_)
  · rw [if_pos c_1] at hf
    refine lv_iconst (v := 0) hx hb d_Model_planeAt_26 (by decide) ?_
    exact hr27 _ _ _ 0 hP hD hS hf
  · rw [if_neg c_1] at hf
    refine lv_iload_n hx hb d_Model_planeAt_4 rfl (lv_at hl 2 rfl) ?_
    refine lv_if_lt (tgt := 26) hx hb d_Model_planeAt_5 (by decide) (fun c_2 => ?_) (fun c_2 => ?_)
    · rw [if_pos c_2] at hf
      refine lv_iconst (v := 0) hx hb d_Model_planeAt_26 (by decide) ?_
      exact hr27 _ _ _ 0 hP hD hS hf
    · rw [if_neg c_2] at hf
      refine lv_iload_n hx hb d_Model_planeAt_8 rfl (lv_at hl 1 rfl) ?_
      refine lv_iload_n hx hb d_Model_planeAt_9 rfl (lv_at hl 3 rfl) ?_
      refine lv_icmp_ge (tgt := 26) hx hb d_Model_planeAt_10 (by decide) (fun c_3 => ?_) (fun c_3 => ?_)
      · rw [if_pos c_3] at hf
        refine lv_iconst (v := 0) hx hb d_Model_planeAt_26 (by decide) ?_
        exact hr27 _ _ _ 0 hP hD hS hf
      · rw [if_neg c_3] at hf
        refine lv_aload_n hx hb d_Model_planeAt_13 rfl (lv_at hl 0 rfl) ?_
        refine va_get (D := (dC, dI)) (ci := 7) (v := .ref (mo_a 15)) (C := R_Model) (T := T_Model) (N := 27) hx hb hts in_Model hown hK hP 0 rfl rfl 25 (by decide) (hts _ t_849) (fun _ h9 => h9) rfl d_Model_planeAt_14 ?_
        refine lv_iload_n hx hb d_Model_planeAt_17 rfl (lv_at hl 2 rfl) ?_
        obtain ⟨h_4, hf⟩ := gd_ex hf
        refine va_iald (f := Mo_pl mo) hx hb hK hP 15 0 rfl rfl (inb_in h_4) d_Model_planeAt_18 ?_
        refine lv_iload_n hx hb d_Model_planeAt_19 rfl (lv_at hl 1 rfl) ?_
        refine lv_ishr hx hb d_Model_planeAt_20 ?_
        refine lv_iconst (v := 1) hx hb d_Model_planeAt_21 (by decide) ?_
        refine lv_iand hx hb d_Model_planeAt_22 ?_
        refine lv_goto (tgt := 27) hx hb d_Model_planeAt_23 (by decide) ?_
        exact hr27 _ _ _ (((Mo_pl mo x2.toNatClampNeg) >>> (x1 &&& 31)) &&& 1) hP hD hS hf
end
set_option maxHeartbeats 4000000 in
set_option maxRecDepth 100000 in
theorem k_Model_planeAt (l : Launch) (dC : Nat → ClassId) (dI : Nat → Nat → Nat) (cI cZ cJ : ClassId) (mo_a : Nat → Nat) (sz : Nat) {mo : Mo} {x1 : Int32} {x2 : Int32} {x3 : Int32} {r : Int32} (hf : f_Model_planeAt mo x1 x2 x3 = some r) :
    Met l y_Model_planeAt ws_Model_planeAt ({ frames := 0, cells := 0, slots := 0, locals := 0 }) (va_Pc [.ref (mo_a 0), .int x1, .int x2, .int x3] (kP (dC, dI) vwCl (TYS cI cZ cJ) (wMo cI cZ cJ mo_a mo) sz)) (va_Qi (fun (q : Int32) (_ : Unit) => q = r) (fun _ t => kQ (dC, dI) vwCl (TYS cI cZ cJ) (wMo cI cZ cJ mo_a mo) sz (wMo cI cZ cJ mo_a mo) t) (va_A (wMo cI cZ cJ mo_a mo) sz)) 0 0 (va_A (wMo cI cZ cJ mo_a mo) sz) := by
  refine Met.ofW (cc := c_Model_planeAt) (maxL := 4) (ret := (some .int)) (by decide) rfl ?_
  intro p e s m args below meth c s₁ B hml hv
  obtain ⟨rfl, hsz, hP, hK, hD0, hN⟩ := hv
  have hr := B.returns
  have hlocks := B.notSynchronized
  subst hsz
  have hD := hD0.self (sz := s.heap.size)
  have hl := lv_entry ([.ref (mo_a 0), .int x1, .int x2, .int x3]) (n := 4) (Nat.le_of_ble_eq_true rfl)
  rw [lg_entry_eq]
  generalize (lg_sl ([.ref (mo_a 0), .int x1, .int x2, .int x3]) ++ List.replicate (4 - (lg_sl ([.ref (mo_a 0), .int x1, .int x2, .int x3])).length) Slot.unset).toArray = ls at hl ⊢
  refine B_Model_planeAt (A := va_A (wMo cI cZ cJ mo_a mo) s.heap.size) ⟨B.exec, B.bytes, hml, findClass_of_methodNamed B.named, fun w h => atoms_spec (ws := ws_Model_planeAt) B.pre w (List.mem_cons_of_mem _ h), hK, fun q h => Or.inr h, Nat.le_of_ble_eq_true rfl, Nat.le_of_ble_eq_true rfl, hN, Nat.le_of_ble_eq_true rfl, Nat.le_of_ble_eq_true rfl⟩ (fun H locs ls v hP hD hS hf => ?_) hP hD va_S.rf hl hf
  · cases hf
    exact W.iret B.exec B.bytes hr (fun t ht hW => ⟨⟨_, (), rfl, rfl, ⟨by rw [ht]; exact hP, va_K.moved hW.alike hK, hD⟩⟩, hS.F ht⟩) hS.2.2 d_Model_planeAt_27

/-! Model_context -/
def j_Model_context_11_2 (mo : Mo) (x1 : Int32) (x2 : Int32) (x3 : Int32) (z0_1 : Int32) : Option (Int32) := bd (f_Model_planeAt mo (x1 - 1) x2 x3) <| fun r_3 => bd (f_Model_planeAt mo (x1 - 1) (x2 - 1) x3) <| fun r_4 => bd (f_Model_planeAt mo x1 (x2 - 1) x3) <| fun r_5 => bd (f_Model_planeAt mo (x1 + 1) (x2 - 1) x3) <| fun r_6 => some ((((z0_1 + (8 * r_3)) + (4 * r_4)) + (2 * r_5)) + r_6)
def f_Model_context (mo : Mo) (x1 : Int32) (x2 : Int32) (x3 : Int32) (x4 : Int32) : Option (Int32) := (if x4 = 0 then j_Model_context_11_2 mo x1 x2 x3 0 else j_Model_context_11_2 mo x1 x2 x3 16)
section
variable {p : Program} {l : Launch} {e : Env} {R : Room} {s : State} {m : MethodId} {args : Array Value} {below : List Frame} {meth : Method} {c : Code} {Q : State → Prop} {A : Nat → Prop}
set_option maxHeartbeats 4000000 in
set_option maxRecDepth 100000 in
theorem B_Model_context {cells slots : Nat} {dC : Nat → ClassId} {dI : Nat → Nat → Nat} {cI cZ cJ : ClassId} {mo_a : Nat → Nat} {mo : Mo} {x1 : Int32} {x2 : Int32} {x3 : Int32} {x4 : Int32} {res : Int32} (C0 : cxt p c m s args R cells slots R_Model c_Model_context tb 5 (dC, dI) vwCl (TYS cI cZ cJ) A 1 23)
    (hr62 : ∀ (H : Heap) (locs : List Loc) (ls : Array Slot) (v : Int32), va_P (dC, dI) vwCl (wMo cI cZ cJ mo_a mo) H → va_D A (wMo cI cZ cJ mo_a mo) → va_S A s.heap H locs → some v = some res → W p l e R s m args below meth c H locs cells slots Q (F0 m 62 ls [.int v]))
    {H : Heap} {locs : List Loc} {ls : Array Slot} (hP : va_P (dC, dI) vwCl (wMo cI cZ cJ mo_a mo) H) (hD : va_D A (wMo cI cZ cJ mo_a mo)) (hS : va_S A s.heap H locs) (hl : lv_has ls 5 [(0, .ref (mo_a 0)), (1, .int x1), (2, .int x2), (3, .int x3), (4, .int x4)]) (hf : f_Model_context mo x1 x2 x3 x4 = some res) : W p l e R s m args below meth c H locs cells slots Q (F0 m 0 ls []) := by
  obtain ⟨hx, hb, hml, hown, hts, hK, hA, hRf, hRl, hN, hRc⟩ := id C0
  rw [f_Model_context] at hf
  refine lv_iload hx hb d_Model_context_0 (lv_at hl 4 rfl) ?_
  have J11_1 : ∀ (H : Heap) (locs : List Loc) (ls : Array Slot) (z0_1 : Int32), va_P (dC, dI) vwCl (wMo cI cZ cJ mo_a mo) H → va_D A (wMo cI cZ cJ mo_a mo) → va_S A s.heap H locs → lv_has ls 5 [(0, .ref (mo_a 0)), (1, .int x1), (2, .int x2), (3, .int x3)] → j_Model_context_11_2 mo x1 x2 x3 z0_1 = some res → W p l e R s m args below meth c H locs cells slots Q (F0 m 11 ls [.int z0_1]) := by
    intro H locs ls z0_1 hP hD hS hl hf
    rw [j_Model_context_11_2] at hf
    refine lv_bipush (v := 8) hx hb d_Model_context_11 (by decide) ?_
    refine lv_aload_n hx hb d_Model_context_13 rfl (lv_at hl 0 rfl) ?_
    refine lv_iload_n hx hb d_Model_context_14 rfl (lv_at hl 1 rfl) ?_
    refine lv_iconst (v := 1) hx hb d_Model_context_15 (by decide) ?_
    refine lv_isub hx hb d_Model_context_16 ?_
    refine lv_iload_n hx hb d_Model_context_17 rfl (lv_at hl 2 rfl) ?_
    refine lv_iload_n hx hb d_Model_context_18 rfl (lv_at hl 3 rfl) ?_
    obtain ⟨r_3, hf1, hf⟩ := bd_ex hf
    try dsimp only at hf
    have hPc := hP.sub (ws' := (wMo cI cZ cJ mo_a mo)) [0, 1, 2, 3, 4, 5, 6, 7, 8, 9, 10, 11, 12, 13, 14, 15] rfl
    have hDc := hD.sub (ws' := (wMo cI cZ cJ mo_a mo)) [0, 1, 2, 3, 4, 5, 6, 7, 8, 9, 10, 11, 12, 13, 14, 15] (by decide) rfl
    have hFc := va_free (wc := (wMo cI cZ cJ mo_a mo)) hD hS hA [0, 1, 2, 3, 4, 5, 6, 7, 8, 9, 10, 11, 12, 13, 14, 15] rfl
    refine va_calli (va_runV (As := [.int (x1 - 1), .int x2, .int x3]) (rest := [.int 8, .int z0_1]) ⟨hx, hb, hml, hown, hts⟩ (k_Model_planeAt l dC dI cI cZ cJ mo_a H.size hf1) (cwV 3 hts (gV t_1016 t_1018 t_40 t_63 t_1019) rfl rfl rfl hd_Model_planeAt ⟨Nat.le_trans (Nat.le_of_ble_eq_true rfl) hRf, Nat.le_trans (Nat.le_of_ble_eq_true rfl) hRl⟩) ⟨kP_blind, va_recv hK hP (ci := 7) (q0 := 0) rfl rfl, kP_at hPc hK hDc hN⟩ rfl rfl hl.1 rfl (lv_room (Nat.le_of_ble_eq_true rfl)) d_Model_context_19 hRc) hS (fun q _ h => hFc q h) hFc (fun r9 u t H1 locs ht hvm hw hB hz1 hk1 hS => ?_)
    rw [hw]
    obtain ⟨hP, hD⟩ := kQ_join (wr := ([] : va_W)) (w1 := (wMo cI cZ cJ mo_a mo)) hP hD [0, 1, 2, 3, 4, 5, 6, 7, 8, 9, 10, 11, 12, 13, 14, 15] [] rfl rfl (by decide) (by decide) ht hk1 hFc hB
    generalize H1 = H at hP hS ⊢
    have hP : va_P (dC, dI) vwCl (wMo cI cZ cJ mo_a mo) H := hP.sub [0, 1, 2, 3, 4, 5, 6, 7, 8, 9, 10, 11, 12, 13, 14, 15] rfl
    have hD : va_D A (wMo cI cZ cJ mo_a mo) := hD.sub [0, 1, 2, 3, 4, 5, 6, 7, 8, 9, 10, 11, 12, 13, 14, 15] (by decide) rfl
    refine lv_imul hx hb d_Model_context_22 ?_
    refine lv_iadd hx hb d_Model_context_23 ?_
    refine lv_iconst (v := 4) hx hb d_Model_context_24 (by decide) ?_
    refine lv_aload_n hx hb d_Model_context_25 rfl (lv_at hl 0 rfl) ?_
    refine lv_iload_n hx hb d_Model_context_26 rfl (lv_at hl 1 rfl) ?_
    refine lv_iconst (v := 1) hx hb d_Model_context_27 (by decide) ?_
    refine lv_isub hx hb d_Model_context_28 ?_
    refine lv_iload_n hx hb d_Model_context_29 rfl (lv_at hl 2 rfl) ?_
    refine lv_iconst (v := 1) hx hb d_Model_context_30 (by decide) ?_
    refine lv_isub hx hb d_Model_context_31 ?_
    refine lv_iload_n hx hb d_Model_context_32 rfl (lv_at hl 3 rfl) ?_
    obtain ⟨r_4, hf1, hf⟩ := bd_ex hf
    try dsimp only at hf
    have hPc := hP.sub (ws' := (wMo cI cZ cJ mo_a mo)) [0, 1, 2, 3, 4, 5, 6, 7, 8, 9, 10, 11, 12, 13, 14, 15] rfl
    have hDc := hD.sub (ws' := (wMo cI cZ cJ mo_a mo)) [0, 1, 2, 3, 4, 5, 6, 7, 8, 9, 10, 11, 12, 13, 14, 15] (by decide) rfl
    have hFc := va_free (wc := (wMo cI cZ cJ mo_a mo)) hD hS hA [0, 1, 2, 3, 4, 5, 6, 7, 8, 9, 10, 11, 12, 13, 14, 15] rfl
    refine va_calli (va_runV (As := [.int (x1 - 1), .int (x2 - 1), .int x3]) (rest := [.int 4, .int (z0_1 + (8 * r_3))]) ⟨hx, hb, hml, hown, hts⟩ (k_Model_planeAt l dC dI cI cZ cJ mo_a H.size hf1) (cwV 3 hts (gV t_1016 t_1018 t_40 t_63 t_1019) rfl rfl rfl hd_Model_planeAt ⟨Nat.le_trans (Nat.le_of_ble_eq_true rfl) hRf, Nat.le_trans (Nat.le_of_ble_eq_true rfl) hRl⟩) ⟨kP_blind, va_recv hK hP (ci := 7) (q0 := 0) rfl rfl, kP_at hPc hK hDc hN⟩ rfl rfl hl.1 rfl (lv_room (Nat.le_of_ble_eq_true rfl)) d_Model_context_33 hRc) hS (fun q _ h => hFc q h) hFc (fun r9 u t H1 locs ht hvm hw hB hz1 hk1 hS => ?_)
    rw [hw]
    obtain ⟨hP, hD⟩ := kQ_join (wr := ([] : va_W)) (w1 := (wMo cI cZ cJ mo_a mo)) hP hD [0, 1, 2, 3, 4, 5, 6, 7, 8, 9, 10, 11, 12, 13, 14, 15] [] rfl rfl (by decide) (by decide) ht hk1 hFc hB
    generalize H1 = H at hP hS ⊢
    have hP : va_P (dC, dI) vwCl (wMo cI cZ cJ mo_a mo) H := hP.sub [0, 1, 2, 3, 4, 5, 6, 7, 8, 9, 10, 11, 12, 13, 14, 15] rfl
    have hD : va_D A (wMo cI cZ cJ mo_a mo) := hD.sub [0, 1, 2, 3, 4, 5, 6, 7, 8, 9, 10, 11, 12, 13, 14, 15] (by decide) rfl
    refine lv_imul hx hb d_Model_context_36 ?_
    refine lv_iadd hx hb d_Model_context_37 ?_
    refine lv_iconst (v := 2) hx hb d_Model_context_38 (by decide) ?_
    refine lv_aload_n hx hb d_Model_context_39 rfl (lv_at hl 0 rfl) ?_
    refine lv_iload_n hx hb d_Model_context_40 rfl (lv_at hl 1 rfl) ?_
    refine lv_iload_n hx hb d_Model_context_41 rfl (lv_at hl 2 rfl) ?_
    refine lv_iconst (v := 1) hx hb d_Model_context_42 (by decide) ?_
    refine lv_isub hx hb d_Model_context_43 ?_
    refine lv_iload_n hx hb d_Model_context_44 rfl (lv_at hl 3 rfl) ?_
    obtain ⟨r_5, hf1, hf⟩ := bd_ex hf
    try dsimp only at hf
    have hPc := hP.sub (ws' := (wMo cI cZ cJ mo_a mo)) [0, 1, 2, 3, 4, 5, 6, 7, 8, 9, 10, 11, 12, 13, 14, 15] rfl
    have hDc := hD.sub (ws' := (wMo cI cZ cJ mo_a mo)) [0, 1, 2, 3, 4, 5, 6, 7, 8, 9, 10, 11, 12, 13, 14, 15] (by decide) rfl
    have hFc := va_free (wc := (wMo cI cZ cJ mo_a mo)) hD hS hA [0, 1, 2, 3, 4, 5, 6, 7, 8, 9, 10, 11, 12, 13, 14, 15] rfl
    refine va_calli (va_runV (As := [.int x1, .int (x2 - 1), .int x3]) (rest := [.int 2, .int ((z0_1 + (8 * r_3)) + (4 * r_4))]) ⟨hx, hb, hml, hown, hts⟩ (k_Model_planeAt l dC dI cI cZ cJ mo_a H.size hf1) (cwV 3 hts (gV t_1016 t_1018 t_40 t_63 t_1019) rfl rfl rfl hd_Model_planeAt ⟨Nat.le_trans (Nat.le_of_ble_eq_true rfl) hRf, Nat.le_trans (Nat.le_of_ble_eq_true rfl) hRl⟩) ⟨kP_blind, va_recv hK hP (ci := 7) (q0 := 0) rfl rfl, kP_at hPc hK hDc hN⟩ rfl rfl hl.1 rfl (lv_room (Nat.le_of_ble_eq_true rfl)) d_Model_context_45 hRc) hS (fun q _ h => hFc q h) hFc (fun r9 u t H1 locs ht hvm hw hB hz1 hk1 hS => ?_)
    rw [hw]
    obtain ⟨hP, hD⟩ := kQ_join (wr := ([] : va_W)) (w1 := (wMo cI cZ cJ mo_a mo)) hP hD [0, 1, 2, 3, 4, 5, 6, 7, 8, 9, 10, 11, 12, 13, 14, 15] [] rfl rfl (by decide) (by decide) ht hk1 hFc hB
    generalize H1 = H at hP hS ⊢
    have hP : va_P (dC, dI) vwCl (wMo cI cZ cJ mo_a mo) H := hP.sub [0, 1, 2, 3, 4, 5, 6, 7, 8, 9, 10, 11, 12, 13, 14, 15] rfl
    have hD : va_D A (wMo cI cZ cJ mo_a mo) := hD.sub [0, 1, 2, 3, 4, 5, 6, 7, 8, 9, 10, 11, 12, 13, 14, 15] (by decide) rfl
    refine lv_imul hx hb d_Model_context_48 ?_
    refine lv_iadd hx hb d_Model_context_49 ?_
    refine lv_aload_n hx hb d_Model_context_50 rfl (lv_at hl 0 rfl) ?_
    refine lv_iload_n hx hb d_Model_context_51 rfl (lv_at hl 1 rfl) ?_
    refine lv_iconst (v := 1) hx hb d_Model_context_52 (by decide) ?_
    refine lv_iadd hx hb d_Model_context_53 ?_
    refine lv_iload_n hx hb d_Model_context_54 rfl (lv_at hl 2 rfl) ?_
    refine lv_iconst (v := 1) hx hb d_Model_context_55 (by decide) ?_
    refine lv_isub hx hb d_Model_context_56 ?_
    refine lv_iload_n hx hb d_Model_context_57 rfl (lv_at hl 3 rfl) ?_
    obtain ⟨r_6, hf1, hf⟩ := bd_ex hf
    try dsimp only at hf
    have hPc := hP.sub (ws' := (wMo cI cZ cJ mo_a mo)) [0, 1, 2, 3, 4, 5, 6, 7, 8, 9, 10, 11, 12, 13, 14, 15] rfl
    have hDc := hD.sub (ws' := (wMo cI cZ cJ mo_a mo)) [0, 1, 2, 3, 4, 5, 6, 7, 8, 9, 10, 11, 12, 13, 14, 15] (by decide) rfl
    have hFc := va_free (wc := (wMo cI cZ cJ mo_a mo)) hD hS hA [0, 1, 2, 3, 4, 5, 6, 7, 8, 9, 10, 11, 12, 13, 14, 15] rfl
    refine va_calli (va_runV (As := [.int (x1 + 1), .int (x2 - 1), .int x3]) (rest := [.int (((z0_1 + (8 * r_3)) + (4 * r_4)) + (2 * r_5))]) ⟨hx, hb, hml, hown, hts⟩ (k_Model_planeAt l dC dI cI cZ cJ mo_a H.size hf1) (cwV 3 hts (gV t_1016 t_1018 t_40 t_63 t_1019) rfl rfl rfl hd_Model_planeAt ⟨Nat.le_trans (Nat.le_of_ble_eq_true rfl) hRf, Nat.le_trans (Nat.le_of_ble_eq_true rfl) hRl⟩) ⟨kP_blind, va_recv hK hP (ci := 7) (q0 := 0) rfl rfl, kP_at hPc hK hDc hN⟩ rfl rfl hl.1 rfl (lv_room (Nat.le_of_ble_eq_true rfl)) d_Model_context_58 hRc) hS (fun q _ h => hFc q h) hFc (fun r9 u t H1 locs ht hvm hw hB hz1 hk1 hS => ?_)
    rw [hw]
    obtain ⟨hP, hD⟩ := kQ_join (wr := ([] : va_W)) (w1 := (wMo cI cZ cJ mo_a mo)) hP hD [0, 1, 2, 3, 4, 5, 6, 7, 8, 9, 10, 11, 12, 13, 14, 15] [] rfl rfl (by decide) (by decide) ht hk1 hFc hB
    generalize H1 = H at hP hS ⊢
    have hP : va_P (dC, dI) vwCl (wMo cI cZ cJ mo_a mo) H := hP.sub [0, 1, 2, 3, 4, 5, 6, 7, 8, 9, 10, 11, 12, 13, 14, 15] rfl
    have hD : va_D A (wMo cI cZ cJ mo_a mo) := hD.sub [0, 1, 2, 3, 4, 5, 6, 7, 8, 9, 10, 11, 12, 13, 14, 15] (by decide) rfl
    refine lv_iadd hx hb d_Model_context_61 ?_
    exact hr62 _ _ _ ((((z0_1 + (8 * r_3)) + (4 * r_4)) + (2 * r_5)) + r_6) hP hD hS hf
  refine lv_if_eq (tgt := 10) hx hb d_Model_context_2 (by decide) (fun c_7 => ?_) (fun c_7 => ?_)
  · rw [if_pos c_7] at hf
    refine lv_iconst (v := 0) hx hb d_Model_context_10 (by decide) ?_
    exact J11_1 _ _ _ 0 hP hD hS (lv_sub hl [0, 1, 2, 3] rfl) hf
  · rw [if_neg c_7] at hf
    refine lv_bipush (v := 16) hx hb d_Model_context_5 (by decide) ?_
    refine lv_goto (tgt := 11) hx hb d_Model_context_7 (by decide) ?_
    exact J11_1 _ _ _ 16 hP hD hS (lv_sub hl [0, 1, 2, 3] rfl) hf
end
set_option maxHeartbeats 4000000 in
set_option maxRecDepth 100000 in
theorem k_Model_context (l : Launch) (dC : Nat → ClassId) (dI : Nat → Nat → Nat) (cI cZ cJ : ClassId) (mo_a : Nat → Nat) (sz : Nat) {mo : Mo} {x1 : Int32} {x2 : Int32} {x3 : Int32} {x4 : Int32} {r : Int32} (hf : f_Model_context mo x1 x2 x3 x4 = some r) :
    Met l y_Model_context ws_Model_context ({ frames := 1, cells := 0, slots := 0, locals := 23 }) (va_Pc [.ref (mo_a 0), .int x1, .int x2, .int x3, .int x4] (kP (dC, dI) vwCl (TYS cI cZ cJ) (wMo cI cZ cJ mo_a mo) sz)) (va_Qi (fun (q : Int32) (_ : Unit) => q = r) (fun _ t => kQ (dC, dI) vwCl (TYS cI cZ cJ) (wMo cI cZ cJ mo_a mo) sz (wMo cI cZ cJ mo_a mo) t) (va_A (wMo cI cZ cJ mo_a mo) sz)) 0 0 (va_A (wMo cI cZ cJ mo_a mo) sz) := by
  refine Met.ofW (cc := c_Model_context) (maxL := 5) (ret := (some .int)) (by decide) rfl ?_
  intro p e s m args below meth c s₁ B hml hv
  obtain ⟨rfl, hsz, hP, hK, hD0, hN⟩ := hv
  have hr := B.returns
  have hlocks := B.notSynchronized
  subst hsz
  have hD := hD0.self (sz := s.heap.size)
  have hl := lv_entry ([.ref (mo_a 0), .int x1, .int x2, .int x3, .int x4]) (n := 5) (Nat.le_of_ble_eq_true rfl)
  rw [lg_entry_eq]
  generalize (lg_sl ([.ref (mo_a 0), .int x1, .int x2, .int x3, .int x4]) ++ List.replicate (5 - (lg_sl ([.ref (mo_a 0), .int x1, .int x2, .int x3, .int x4])).length) Slot.unset).toArray = ls at hl ⊢
  refine B_Model_context (A := va_A (wMo cI cZ cJ mo_a mo) s.heap.size) ⟨B.exec, B.bytes, hml, findClass_of_methodNamed B.named, fun w h => atoms_spec (ws := ws_Model_context) B.pre w (List.mem_cons_of_mem _ h), hK, fun q h => Or.inr h, Nat.le_of_ble_eq_true rfl, Nat.le_of_ble_eq_true rfl, hN, Nat.le_of_ble_eq_true rfl, Nat.le_of_ble_eq_true rfl⟩ (fun H locs ls v hP hD hS hf => ?_) hP hD va_S.rf hl hf
  · cases hf
    exact W.iret B.exec B.bytes hr (fun t ht hW => ⟨⟨_, (), rfl, rfl, ⟨by rw [ht]; exact hP, va_K.moved hW.alike hK, hD⟩⟩, hS.F ht⟩) hS.2.2 d_Model_context_62

/-! Model_chanceOf -/
def f_Model_chanceOf (mo : Mo) (x1 : Int32) : Option (Int32) := gd (inb x1 32) <| (if 64 ≤ (Mo_ch mo x1.toNatClampNeg) then gd (inb x1 32) <| (if (Mo_ch mo x1.toNatClampNeg) ≤ 65472 then gd (inb x1 32) <| some (Mo_ch mo x1.toNatClampNeg) else some 65472) else some 64)
section
variable {p : Program} {l : Launch} {e : Env} {R : Room} {s : State} {m : MethodId} {args : Array Value} {below : List Frame} {meth : Method} {c : Code} {Q : State → Prop} {A : Nat → Prop}
set_option maxHeartbeats 4000000 in
set_option maxRecDepth 100000 in
theorem B_Model_chanceOf {cells slots : Nat} {dC : Nat → ClassId} {dI : Nat → Nat → Nat} {cI cZ cJ : ClassId} {mo_a : Nat → Nat} {mo : Mo} {x1 : Int32} {res : Int32} (C0 : cxt p c m s args R cells slots R_Model c_Model_chanceOf tb 2 (dC, dI) vwCl (TYS cI cZ cJ) A 0 0)
    (hr38 : ∀ (H : Heap) (locs : List Loc) (ls : Array Slot) (v : Int32), va_P (dC, dI) vwCl (wMo cI cZ cJ mo_a mo) H → va_D A (wMo cI cZ cJ mo_a mo) → va_S A s.heap H locs → some v = some res → W p l e R s m args below meth c H locs cells slots Q (F0 m 38 ls [.int v]))
    {H : Heap} {locs : List Loc} {ls : Array Slot} (hP : va_P (dC, dI) vwCl (wMo cI cZ cJ mo_a mo) H) (hD : va_D A (wMo cI cZ cJ mo_a mo)) (hS : va_S A s.heap H locs) (hl : lv_has ls 2 [(0, .ref (mo_a 0)), (1, .int x1)]) (hf : f_Model_chanceOf mo x1 = some res) : W p l e R s m args below meth c H locs cells slots Q (F0 m 0 ls []) := by
  obtain ⟨hx, hb, hml, hown, hts, hK, hA, hRf, hRl, hN, hRc⟩ := id C0
  rw [f_Model_chanceOf] at hf
  refine lv_aload_n hx hb d_Model_chanceOf_0 rfl (lv_at hl 0 rfl) ?_
  refine va_get (D := (dC, dI)) (ci := 7) (v := .ref (mo_a 14)) (C := R_Model) (T := T_Model) (N := 27) hx hb hts in_Model hown hK hP 0 rfl rfl 21 (by decide) (hts _ t_845) (fun _ h9 => h9) rfl d_Model_chanceOf_1 ?_
  refine lv_iload_n hx hb d_Model_chanceOf_4 rfl (lv_at hl 1 rfl) ?_
  obtain ⟨h_1, hf⟩ := gd_ex hf
  refine va_iald (f := Mo_ch mo) hx hb hK hP 14 0 rfl rfl (inb_in h_1) d_Model_chanceOf_5 ?_
  refine lv_bipush (v := 64) hx hb d_Model_chanceOf_6 (by decide) ?_
  refine lv_icmp_ge (tgt := 16) hx hb d_Model_chanceOf_8 (by decide) (fun c_2 => ?_) (fun c_2 => ?_)
  · rw [if_pos c_2] at hf
    refine lv_aload_n hx hb d_Model_chanceOf_16 rfl (lv_at hl 0 rfl) ?_
    refine va_get (D := (dC, dI)) (ci := 7) (v := .ref (mo_a 14)) (C := R_Model) (T := T_Model) (N := 27) hx hb hts in_Model hown hK hP 0 rfl rfl 21 (by decide) (hts _ t_845) (fun _ h9 => h9) rfl d_Model_chanceOf_17 ?_
    refine lv_iload_n hx hb d_Model_chanceOf_20 rfl (lv_at hl 1 rfl) ?_
    obtain ⟨h_3, hf⟩ := gd_ex hf
    refine va_iald (f := Mo_ch mo) hx hb hK hP 14 0 rfl rfl (inb_in h_3) d_Model_chanceOf_21 ?_
    refine lv_ldc (v := 65472) hx hb hown (hts (.constant R_Model 159 65472) (by decide +kernel)) d_Model_chanceOf_22 ?_
    refine lv_icmp_le (tgt := 32) hx hb d_Model_chanceOf_24 (by decide) (fun c_4 => ?_) (fun c_4 => ?_)
    · rw [if_pos c_4] at hf
      refine lv_aload_n hx hb d_Model_chanceOf_32 rfl (lv_at hl 0 rfl) ?_
      refine va_get (D := (dC, dI)) (ci := 7) (v := .ref (mo_a 14)) (C := R_Model) (T := T_Model) (N := 27) hx hb hts in_Model hown hK hP 0 rfl rfl 21 (by decide) (hts _ t_845) (fun _ h9 => h9) rfl d_Model_chanceOf_33 ?_
      refine lv_iload_n hx hb d_Model_chanceOf_36 rfl (lv_at hl 1 rfl) ?_
      obtain ⟨h_5, hf⟩ := gd_ex hf
      refine va_iald (f := Mo_ch mo) hx hb hK hP 14 0 rfl rfl (inb_in h_5) d_Model_chanceOf_37 ?_
      exact hr38 _ _ _ (Mo_ch mo x1.toNatClampNeg) hP hD hS hf
    · rw [if_neg c_4] at hf
      refine lv_ldc (v := 65472) hx hb hown (hts (.constant R_Model 159 65472) (by decide +kernel)) d_Model_chanceOf_27 ?_
      refine lv_goto (tgt := 38) hx hb d_Model_chanceOf_29 (by decide) ?_
      exact hr38 _ _ _ 65472 hP hD hS hf
  · rw [if_neg c_2] at hf
    refine lv_bipush (v := 64) hx hb d_Model_chanceOf_11 (by decide) ?_
    refine lv_goto (tgt := 38) hx hb d_Model_chanceOf_13 (by decide) ?_
    exact hr38 _ _ _ 64 hP hD hS hf
end
set_option maxHeartbeats 4000000 in
set_option maxRecDepth 100000 in
theorem k_Model_chanceOf (l : Launch) (dC : Nat → ClassId) (dI : Nat → Nat → Nat) (cI cZ cJ : ClassId) (mo_a : Nat → Nat) (sz : Nat) {mo : Mo} {x1 : Int32} {r : Int32} (hf : f_Model_chanceOf mo x1 = some r) :
    Met l y_Model_chanceOf ws_Model_chanceOf ({ frames := 0, cells := 0, slots := 0, locals := 0 }) (va_Pc [.ref (mo_a 0), .int x1] (kP (dC, dI) vwCl (TYS cI cZ cJ) (wMo cI cZ cJ mo_a mo) sz)) (va_Qi (fun (q : Int32) (_ : Unit) => q = r) (fun _ t => kQ (dC, dI) vwCl (TYS cI cZ cJ) (wMo cI cZ cJ mo_a mo) sz (wMo cI cZ cJ mo_a mo) t) (va_A (wMo cI cZ cJ mo_a mo) sz)) 0 0 (va_A (wMo cI cZ cJ mo_a mo) sz) := by
  refine Met.ofW (cc := c_Model_chanceOf) (maxL := 2) (ret := (some .int)) (by decide) rfl ?_
  intro p e s m args below meth c s₁ B hml hv
  obtain ⟨rfl, hsz, hP, hK, hD0, hN⟩ := hv
  have hr := B.returns
  have hlocks := B.notSynchronized
  subst hsz
  have hD := hD0.self (sz := s.heap.size)
  have hl := lv_entry ([.ref (mo_a 0), .int x1]) (n := 2) (Nat.le_of_ble_eq_true rfl)
  rw [lg_entry_eq]
  generalize (lg_sl ([.ref (mo_a 0), .int x1]) ++ List.replicate (2 - (lg_sl ([.ref (mo_a 0), .int x1])).length) Slot.unset).toArray = ls at hl ⊢
  refine B_Model_chanceOf (A := va_A (wMo cI cZ cJ mo_a mo) s.heap.size) ⟨B.exec, B.bytes, hml, findClass_of_methodNamed B.named, fun w h => atoms_spec (ws := ws_Model_chanceOf) B.pre w (List.mem_cons_of_mem _ h), hK, fun q h => Or.inr h, Nat.le_of_ble_eq_true rfl, Nat.le_of_ble_eq_true rfl, hN, Nat.le_of_ble_eq_true rfl, Nat.le_of_ble_eq_true rfl⟩ (fun H locs ls v hP hD hS hf => ?_) hP hD va_S.rf hl hf
  · cases hf
    exact W.iret B.exec B.bytes hr (fun t ht hW => ⟨⟨_, (), rfl, rfl, ⟨by rw [ht]; exact hP, va_K.moved hW.alike hK, hD⟩⟩, hS.F ht⟩) hS.2.2 d_Model_chanceOf_38

/-! Model_learn -/
def f_Model_learn (mo : Mo) (x1 : Int32) (x2 : Int32) : Option (Mo) := gd (inb x1 32) <| (if x2 = 1 then gd (inb x1 32) <| gd (inb x1 32) <| lt' (Mo_s_ch mo (upd (Mo_ch mo) x1.toNatClampNeg ((Mo_ch mo x1.toNatClampNeg) + ((65535 - (Mo_ch mo x1.toNatClampNeg)) / 16)))) <| fun mo_9 => some mo_9 else gd (inb x1 32) <| gd (inb x1 32) <| lt' (Mo_s_ch mo (upd (Mo_ch mo) x1.toNatClampNeg ((Mo_ch mo x1.toNatClampNeg) + (-((Mo_ch mo x1.toNatClampNeg) / 16))))) <| fun mo_5 => some mo_5)
section
variable {p : Program} {l : Launch} {e : Env} {R : Room} {s : State} {m : MethodId} {args : Array Value} {below : List Frame} {meth : Method} {c : Code} {Q : State → Prop} {A : Nat → Prop}
set_option maxHeartbeats 4000000 in
set_option maxRecDepth 100000 in
theorem B_Model_learn {cells slots : Nat} {dC : Nat → ClassId} {dI : Nat → Nat → Nat} {cI cZ cJ : ClassId} {mo_a : Nat → Nat} {mo : Mo} {x1 : Int32} {x2 : Int32} {res : Mo} (C0 : cxt p c m s args R cells slots R_Model c_Model_learn tb 3 (dC, dI) vwCl (TYS cI cZ cJ) A 0 0)
    (hr39 : ∀ (H : Heap) (locs : List Loc) (ls : Array Slot) (mo' : Mo), va_P (dC, dI) vwCl (wMo cI cZ cJ mo_a mo') H → va_D A (wMo cI cZ cJ mo_a mo') → va_S A s.heap H locs → some mo' = some res → W p l e R s m args below meth c H locs cells slots Q (F0 m 39 ls []))
    {H : Heap} {locs : List Loc} {ls : Array Slot} (hP : va_P (dC, dI) vwCl (wMo cI cZ cJ mo_a mo) H) (hD : va_D A (wMo cI cZ cJ mo_a mo)) (hS : va_S A s.heap H locs) (hl : lv_has ls 3 [(0, .ref (mo_a 0)), (1, .int x1), (2, .int x2)]) (hf : f_Model_learn mo x1 x2 = some res) : W p l e R s m args below meth c H locs cells slots Q (F0 m 0 ls []) := by
  obtain ⟨hx, hb, hml, hown, hts, hK, hA, hRf, hRl, hN, hRc⟩ := id C0
  rw [f_Model_learn] at hf
  refine lv_aload_n hx hb d_Model_learn_0 rfl (lv_at hl 0 rfl) ?_
  refine va_get (D := (dC, dI)) (ci := 7) (v := .ref (mo_a 14)) (C := R_Model) (T := T_Model) (N := 27) hx hb hts in_Model hown hK hP 0 rfl rfl 21 (by decide) (hts _ t_845) (fun _ h9 => h9) rfl d_Model_learn_1 ?_
  refine lv_iload_n hx hb d_Model_learn_4 rfl (lv_at hl 1 rfl) ?_
  refine lv_dup2_11 hx hb d_Model_learn_5 rfl rfl ?_
  obtain ⟨h_1, hf⟩ := gd_ex hf
  refine va_iald (f := Mo_ch mo) hx hb hK hP 14 0 rfl rfl (inb_in h_1) d_Model_learn_6 ?_
  refine lv_iload_n hx hb d_Model_learn_7 rfl (lv_at hl 2 rfl) ?_
  refine lv_iconst (v := 1) hx hb d_Model_learn_8 (by decide) ?_
  refine lv_icmp_ne (tgt := 27) hx hb d_Model_learn_9 (by decide) (fun c_2 => ?_) (fun c_2 => ?_)
  · rw [if_neg c_2] at hf
    refine lv_aload_n hx hb d_Model_learn_27 rfl (lv_at hl 0 rfl) ?_
    refine va_get (D := (dC, dI)) (ci := 7) (v := .ref (mo_a 14)) (C := R_Model) (T := T_Model) (N := 27) hx hb hts in_Model hown hK hP 0 rfl rfl 21 (by decide) (hts _ t_845) (fun _ h9 => h9) rfl d_Model_learn_28 ?_
    refine lv_iload_n hx hb d_Model_learn_31 rfl (lv_at hl 1 rfl) ?_
    obtain ⟨h_3, hf⟩ := gd_ex hf
    refine va_iald (f := Mo_ch mo) hx hb hK hP 14 0 rfl rfl (inb_in h_3) d_Model_learn_32 ?_
    refine lv_bipush (v := 16) hx hb d_Model_learn_33 (by decide) ?_
    refine lv_idiv hx hb d_Model_learn_35 (by decide) ?_
    refine lv_ineg hx hb d_Model_learn_36 ?_
    refine lv_iadd hx hb d_Model_learn_37 ?_
    obtain ⟨h_4, hf⟩ := gd_ex hf
    refine va_iast (f := Mo_ch mo) hx hb hK hP hD hS 14 0 rfl rfl (inb_in h_4) d_Model_learn_38 (fun H locs hP hD hS => ?_)
    obtain ⟨mo_5, emo_5, hf⟩ := lt_ex hf
    try dsimp only at hf
    have hP : va_P (dC, dI) vwCl (wMo cI cZ cJ mo_a mo_5) H := by rw [emo_5]; exact hP
    have hD : va_D A (wMo cI cZ cJ mo_a mo_5) := by rw [emo_5]; exact hD
    exact hr39 _ _ _ mo_5 hP hD hS hf
  · rw [if_pos c_2] at hf
    refine lv_ldc (v := 65535) hx hb hown (hts (.constant R_Model 160 65535) (by decide +kernel)) d_Model_learn_12 ?_
    refine lv_aload_n hx hb d_Model_learn_14 rfl (lv_at hl 0 rfl) ?_
    refine va_get (D := (dC, dI)) (ci := 7) (v := .ref (mo_a 14)) (C := R_Model) (T := T_Model) (N := 27) hx hb hts in_Model hown hK hP 0 rfl rfl 21 (by decide) (hts _ t_845) (fun _ h9 => h9) rfl d_Model_learn_15 ?_
    refine lv_iload_n hx hb d_Model_learn_18 rfl (lv_at hl 1 rfl) ?_
    obtain ⟨h_7, hf⟩ := gd_ex hf
    refine va_iald (f := Mo_ch mo) hx hb hK hP 14 0 rfl rfl (inb_in h_7) d_Model_learn_19 ?_
    refine lv_isub hx hb d_Model_learn_20 ?_
    refine lv_bipush (v := 16) hx hb d_Model_learn_21 (by decide) ?_
    refine lv_idiv hx hb d_Model_learn_23 (by decide) ?_
    refine lv_goto (tgt := 37) hx hb d_Model_learn_24 (by decide) ?_
    refine lv_iadd hx hb d_Model_learn_37 ?_
    obtain ⟨h_8, hf⟩ := gd_ex hf
    refine va_iast (f := Mo_ch mo) hx hb hK hP hD hS 14 0 rfl rfl (inb_in h_8) d_Model_learn_38 (fun H locs hP hD hS => ?_)
    obtain ⟨mo_9, emo_9, hf⟩ := lt_ex hf
    try dsimp only at hf
    have hP : va_P (dC, dI) vwCl (wMo cI cZ cJ mo_a mo_9) H := by rw [emo_9]; exact hP
    have hD : va_D A (wMo cI cZ cJ mo_a mo_9) := by rw [emo_9]; exact hD
    exact hr39 _ _ _ mo_9 hP hD hS hf
end
set_option maxHeartbeats 4000000 in
set_option maxRecDepth 100000 in
theorem k_Model_learn (l : Launch) (dC : Nat → ClassId) (dI : Nat → Nat → Nat) (cI cZ cJ : ClassId) (mo_a : Nat → Nat) (sz : Nat) {mo : Mo} {x1 : Int32} {x2 : Int32} {mo' : Mo} (hf : f_Model_learn mo x1 x2 = some mo') :
    Met l y_Model_learn ws_Model_learn ({ frames := 0, cells := 0, slots := 0, locals := 0 }) (va_Pc [.ref (mo_a 0), .int x1, .int x2] (kP (dC, dI) vwCl (TYS cI cZ cJ) (wMo cI cZ cJ mo_a mo) sz)) (va_Qv (fun (_ : Unit) => True) (fun _ t => kQ (dC, dI) vwCl (TYS cI cZ cJ) (wMo cI cZ cJ mo_a mo) sz (wMo cI cZ cJ mo_a mo') t) (va_A (wMo cI cZ cJ mo_a mo) sz)) 0 0 (va_A (wMo cI cZ cJ mo_a mo) sz) := by
  refine Met.ofW (cc := c_Model_learn) (maxL := 3) (ret := none) (by decide) rfl ?_
  intro p e s m args below meth c s₁ B hml hv
  obtain ⟨rfl, hsz, hP, hK, hD0, hN⟩ := hv
  have hr := B.returns
  have hlocks := B.notSynchronized
  subst hsz
  have hD := hD0.self (sz := s.heap.size)
  have hl := lv_entry ([.ref (mo_a 0), .int x1, .int x2]) (n := 3) (Nat.le_of_ble_eq_true rfl)
  rw [lg_entry_eq]
  generalize (lg_sl ([.ref (mo_a 0), .int x1, .int x2]) ++ List.replicate (3 - (lg_sl ([.ref (mo_a 0), .int x1, .int x2])).length) Slot.unset).toArray = ls at hl ⊢
  refine B_Model_learn (A := va_A (wMo cI cZ cJ mo_a mo) s.heap.size) ⟨B.exec, B.bytes, hml, findClass_of_methodNamed B.named, fun w h => atoms_spec (ws := ws_Model_learn) B.pre w (List.mem_cons_of_mem _ h), hK, fun q h => Or.inr h, Nat.le_of_ble_eq_true rfl, Nat.le_of_ble_eq_true rfl, hN, Nat.le_of_ble_eq_true rfl, Nat.le_of_ble_eq_true rfl⟩ (fun H locs ls mo'1 hP hD hS hf => ?_) hP hD va_S.rf hl hf
  · cases hf
    exact W.vret B.exec B.bytes hr (fun t ht hW => ⟨⟨(), rfl, trivial, ⟨by rw [ht]; exact hP, va_K.moved hW.alike hK, hD⟩⟩, hS.F ht⟩) hS.2.2 d_Model_learn_39

/-! Model_under -/
def f_Model_under (mo : Mo) (x1 : Int32) (x2 : Int32) (x3 : Int32) (x4 : Int32) : Option (Int32) := (if 0 ≤ x2 then gd (inb x1 80) <| gd (inb x1 80) <| bd (f_Model_sample mo x2 (x3 - (Mo_dx mo x1.toNatClampNeg)) (x4 - (Mo_dy mo x1.toNatClampNeg))) <| fun r_4 => some r_4 else some 0)
section
variable {p : Program} {l : Launch} {e : Env} {R : Room} {s : State} {m : MethodId} {args : Array Value} {below : List Frame} {meth : Method} {c : Code} {Q : State → Prop} {A : Nat → Prop}
set_option maxHeartbeats 4000000 in
set_option maxRecDepth 100000 in
theorem B_Model_under {cells slots : Nat} {dC : Nat → ClassId} {dI : Nat → Nat → Nat} {cI cZ cJ : ClassId} {mo_a : Nat → Nat} {mo : Mo} {x1 : Int32} {x2 : Int32} {x3 : Int32} {x4 : Int32} {res : Int32} (C0 : cxt p c m s args R cells slots R_Model c_Model_under tb 5 (dC, dI) vwCl (TYS cI cZ cJ) A 1 24)
    (hr30 : ∀ (H : Heap) (locs : List Loc) (ls : Array Slot) (v : Int32), va_P (dC, dI) vwCl (wMo cI cZ cJ mo_a mo) H → va_D A (wMo cI cZ cJ mo_a mo) → va_S A s.heap H locs → some v = some res → W p l e R s m args below meth c H locs cells slots Q (F0 m 30 ls [.int v]))
    {H : Heap} {locs : List Loc} {ls : Array Slot} (hP : va_P (dC, dI) vwCl (wMo cI cZ cJ mo_a mo) H) (hD : va_D A (wMo cI cZ cJ mo_a mo)) (hS : va_S A s.heap H locs) (hl : lv_has ls 5 [(0, .ref (mo_a 0)), (1, .int x1), (2, .int x2), (3, .int x3), (4, .int x4)]) (hf : f_Model_under mo x1 x2 x3 x4 = some res) : W p l e R s m args below meth c H locs cells slots Q (F0 m 0 ls []) := by
  obtain ⟨hx, hb, hml, hown, hts, hK, hA, hRf, hRl, hN, hRc⟩ := id C0
  rw [f_Model_under] at hf
  refine lv_iload_n hx hb d_Model_under_0 rfl (lv_at hl 2 rfl) ?_
  refine lv_if_ge (tgt := 8) hx hb d_Model_under_1 (by decide) (fun c_1 => ?_) (fun c_1 => ?_)
  · rw [if_pos c_1] at hf
    refine lv_aload_n hx hb d_Model_under_8 rfl (lv_at hl 0 rfl) ?_
    refine lv_iload_n hx hb d_Model_under_9 rfl (lv_at hl 2 rfl) ?_
    refine lv_iload_n hx hb d_Model_under_10 rfl (lv_at hl 3 rfl) ?_
    refine lv_aload_n hx hb d_Model_under_11 rfl (lv_at hl 0 rfl) ?_
    refine va_get (D := (dC, dI)) (ci := 7) (v := .ref (mo_a 6)) (C := R_Model) (T := T_Model) (N := 27) hx hb hts in_Model hown hK hP 0 rfl rfl 8 (by decide) (hts _ t_832) (fun _ h9 => h9) rfl d_Model_under_12 ?_
    refine lv_iload_n hx hb d_Model_under_15 rfl (lv_at hl 1 rfl) ?_
    obtain ⟨h_2, hf⟩ := gd_ex hf
    refine va_iald (f := Mo_dx mo) hx hb hK hP 6 0 rfl rfl (inb_in h_2) d_Model_under_16 ?_
    refine lv_isub hx hb d_Model_under_17 ?_
    refine lv_iload hx hb d_Model_under_18 (lv_at hl 4 rfl) ?_
    refine lv_aload_n hx hb d_Model_under_20 rfl (lv_at hl 0 rfl) ?_
    refine va_get (D := (dC, dI)) (ci := 7) (v := .ref (mo_a 7)) (C := R_Model) (T := T_Model) (N := 27) hx hb hts in_Model hown hK hP 0 rfl rfl 9 (by decide) (hts _ t_833) (fun _ h9 => h9) rfl d_Model_under_21 ?_
    refine lv_iload_n hx hb d_Model_under_24 rfl (lv_at hl 1 rfl) ?_
    obtain ⟨h_3, hf⟩ := gd_ex hf
    refine va_iald (f := Mo_dy mo) hx hb hK hP 7 0 rfl rfl (inb_in h_3) d_Model_under_25 ?_
    refine lv_isub hx hb d_Model_under_26 ?_
    obtain ⟨r_4, hf1, hf⟩ := bd_ex hf
    try dsimp only at hf
    have hPc := hP.sub (ws' := (wMo cI cZ cJ mo_a mo)) [0, 1, 2, 3, 4, 5, 6, 7, 8, 9, 10, 11, 12, 13, 14, 15] rfl
    have hDc := hD.sub (ws' := (wMo cI cZ cJ mo_a mo)) [0, 1, 2, 3, 4, 5, 6, 7, 8, 9, 10, 11, 12, 13, 14, 15] (by decide) rfl
    have hFc := va_free (wc := (wMo cI cZ cJ mo_a mo)) hD hS hA [0, 1, 2, 3, 4, 5, 6, 7, 8, 9, 10, 11, 12, 13, 14, 15] rfl
    refine va_calli (va_runV (As := [.int x2, .int (x3 - (Mo_dx mo x1.toNatClampNeg)), .int (x4 - (Mo_dy mo x1.toNatClampNeg))]) (rest := []) ⟨hx, hb, hml, hown, hts⟩ (k_Model_sample l dC dI cI cZ cJ mo_a H.size hf1) (cwV 3 hts (gV t_930 t_932 t_26 t_63 t_933) rfl rfl rfl hd_Model_sample ⟨Nat.le_trans (Nat.le_of_ble_eq_true rfl) hRf, Nat.le_trans (Nat.le_of_ble_eq_true rfl) hRl⟩) ⟨kP_blind, va_recv hK hP (ci := 7) (q0 := 0) rfl rfl, kP_at hPc hK hDc hN⟩ rfl rfl hl.1 rfl (lv_room (Nat.le_of_ble_eq_true rfl)) d_Model_under_27 hRc) hS (fun q _ h => hFc q h) hFc (fun r9 u t H1 locs ht hvm hw hB hz1 hk1 hS => ?_)
    rw [hw]
    obtain ⟨hP, hD⟩ := kQ_join (wr := ([] : va_W)) (w1 := (wMo cI cZ cJ mo_a mo)) hP hD [0, 1, 2, 3, 4, 5, 6, 7, 8, 9, 10, 11, 12, 13, 14, 15] [] rfl rfl (by decide) (by decide) ht hk1 hFc hB
    generalize H1 = H at hP hS ⊢
    have hP : va_P (dC, dI) vwCl (wMo cI cZ cJ mo_a mo) H := hP.sub [0, 1, 2, 3, 4, 5, 6, 7, 8, 9, 10, 11, 12, 13, 14, 15] rfl
    have hD : va_D A (wMo cI cZ cJ mo_a mo) := hD.sub [0, 1, 2, 3, 4, 5, 6, 7, 8, 9, 10, 11, 12, 13, 14, 15] (by decide) rfl
    exact hr30 _ _ _ r_4 hP hD hS hf
  · rw [if_neg c_1] at hf
    refine lv_iconst (v := 0) hx hb d_Model_under_4 (by decide) ?_
    refine lv_goto (tgt := 30) hx hb d_Model_under_5 (by decide) ?_
    exact hr30 _ _ _ 0 hP hD hS hf
end
set_option maxHeartbeats 4000000 in
set_option maxRecDepth 100000 in
theorem k_Model_under (l : Launch) (dC : Nat → ClassId) (dI : Nat → Nat → Nat) (cI cZ cJ : ClassId) (mo_a : Nat → Nat) (sz : Nat) {mo : Mo} {x1 : Int32} {x2 : Int32} {x3 : Int32} {x4 : Int32} {r : Int32} (hf : f_Model_under mo x1 x2 x3 x4 = some r) :
    Met l y_Model_under ws_Model_under ({ frames := 1, cells := 0, slots := 0, locals := 24 }) (va_Pc [.ref (mo_a 0), .int x1, .int x2, .int x3, .int x4] (kP (dC, dI) vwCl (TYS cI cZ cJ) (wMo cI cZ cJ mo_a mo) sz)) (va_Qi (fun (q : Int32) (_ : Unit) => q = r) (fun _ t => kQ (dC, dI) vwCl (TYS cI cZ cJ) (wMo cI cZ cJ mo_a mo) sz (wMo cI cZ cJ mo_a mo) t) (va_A (wMo cI cZ cJ mo_a mo) sz)) 0 0 (va_A (wMo cI cZ cJ mo_a mo) sz) := by
  refine Met.ofW (cc := c_Model_under) (maxL := 5) (ret := (some .int)) (by decide) rfl ?_
  intro p e s m args below meth c s₁ B hml hv
  obtain ⟨rfl, hsz, hP, hK, hD0, hN⟩ := hv
  have hr := B.returns
  have hlocks := B.notSynchronized
  subst hsz
  have hD := hD0.self (sz := s.heap.size)
  have hl := lv_entry ([.ref (mo_a 0), .int x1, .int x2, .int x3, .int x4]) (n := 5) (Nat.le_of_ble_eq_true rfl)
  rw [lg_entry_eq]
  generalize (lg_sl ([.ref (mo_a 0), .int x1, .int x2, .int x3, .int x4]) ++ List.replicate (5 - (lg_sl ([.ref (mo_a 0), .int x1, .int x2, .int x3, .int x4])).length) Slot.unset).toArray = ls at hl ⊢
  refine B_Model_under (A := va_A (wMo cI cZ cJ mo_a mo) s.heap.size) ⟨B.exec, B.bytes, hml, findClass_of_methodNamed B.named, fun w h => atoms_spec (ws := ws_Model_under) B.pre w (List.mem_cons_of_mem _ h), hK, fun q h => Or.inr h, Nat.le_of_ble_eq_true rfl, Nat.le_of_ble_eq_true rfl, hN, Nat.le_of_ble_eq_true rfl, Nat.le_of_ble_eq_true rfl⟩ (fun H locs ls v hP hD hS hf => ?_) hP hD va_S.rf hl hf
  · cases hf
    exact W.iret B.exec B.bytes hr (fun t ht hW => ⟨⟨_, (), rfl, rfl, ⟨by rw [ht]; exact hP, va_K.moved hW.alike hK, hD⟩⟩, hS.F ht⟩) hS.2.2 d_Model_under_30

