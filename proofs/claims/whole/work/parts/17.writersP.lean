theorem eq_P_PlainBits_startWriting {pb : Pb} {w : Br} {r : Pb × Br} (h : f_P_PlainBits_startWriting pb w = some r) : Br_byL r.2 = Br_byL w := by
  rw [f_P_PlainBits_startWriting] at h
  obtain ⟨w1, h1, h⟩ := bd_ex h
  obtain ⟨p1, e1, h⟩ := lt_ex h
  obtain ⟨p2, e2, h⟩ := lt_ex h
  cases h
  exact eq_ByteRow_removeAll h1
theorem mo_P_PlainBits_startWriting {pb : Pb} {w : Br} : mle (f_P_PlainBits_startWriting pb w) (Br_byL w) (fun r : Pb × Br => Br_byL r.2) := fun r hr => Nat.le_of_eq (eq_P_PlainBits_startWriting hr).symm
theorem eq_C_ChanceBits_startWriting {cb : Cb} {w : Br} {r : Cb × Br} (h : f_C_ChanceBits_startWriting cb w = some r) : Br_byL r.2 = Br_byL w := by
  rw [f_C_ChanceBits_startWriting] at h
  obtain ⟨w1, h1, h⟩ := bd_ex h
  obtain ⟨p1, e1, h⟩ := bd_ex h
  cases h
  exact eq_ByteRow_removeAll h1
theorem mo_C_ChanceBits_startWriting {cb : Cb} {w : Br} : mle (f_C_ChanceBits_startWriting cb w) (Br_byL w) (fun r : Cb × Br => Br_byL r.2) := fun r hr => Nat.le_of_eq (eq_C_ChanceBits_startWriting hr).symm
theorem t_166 : (.fieldLink R_Writer 9 "SymbolDictionaries$Writer" "order" "[I" : Cond) ∈ tb := List.mem_filter.mpr ⟨List.mem_of_getElem? (i := 166) (by decide +kernel), by decide +kernel⟩
theorem t_211 : (.fieldLink R_Writer 72 "SymbolDictionaries$Symbols" "heights" "[I" : Cond) ∈ tb := List.mem_filter.mpr ⟨List.mem_of_getElem? (i := 211) (by decide +kernel), by decide +kernel⟩
theorem t_207 : (.fieldLink R_Writer 75 "SymbolDictionaries$Symbols" "widths" "[I" : Cond) ∈ tb := List.mem_filter.mpr ⟨List.mem_of_getElem? (i := 207) (by decide +kernel), by decide +kernel⟩
theorem t_164 : (.fieldLink R_Writer 18 "SymbolDictionaries$Writer" "bits" "LSymbolDictionaries$Bits;" : Cond) ∈ tb := List.mem_filter.mpr ⟨List.mem_of_getElem? (i := 164) (by decide +kernel), by decide +kernel⟩
theorem t_385 : (.methodLink R_Writer 61 y_Bits_putBit : Cond) ∈ tb := List.mem_filter.mpr ⟨List.mem_of_getElem? (i := 385) (by decide +kernel), by decide +kernel⟩
theorem t_323 : (.selects R_PlainBits y_Bits_putNumber y_Bits_putNumber : Cond) ∈ tb := List.mem_filter.mpr ⟨List.mem_of_getElem? (i := 323) (by decide +kernel), by decide +kernel⟩
theorem t_319 : (.methodLink R_Writer 41 y_Bits_putNumber : Cond) ∈ tb := List.mem_filter.mpr ⟨List.mem_of_getElem? (i := 319) (by decide +kernel), by decide +kernel⟩
theorem t_321 : (.sameMethod R_Bits R_Bits "putNumber" "(I)V" : Cond) ∈ tb := List.mem_filter.mpr ⟨List.mem_of_getElem? (i := 321) (by decide +kernel), by decide +kernel⟩
theorem t_320 : (.instanceMethod y_Bits_putNumber : Cond) ∈ tb := List.mem_filter.mpr ⟨List.mem_of_getElem? (i := 320) (by decide +kernel), by decide +kernel⟩
theorem t_324 : (.code y_Bits_putNumber c_Bits_putNumber 4 none : Cond) ∈ tb := List.mem_filter.mpr ⟨List.mem_of_getElem? (i := 324) (by decide +kernel), by decide +kernel⟩
theorem t_219 : (.fieldLink R_Writer 78 "SymbolDictionaries$Symbols" "bases" "[I" : Cond) ∈ tb := List.mem_filter.mpr ⟨List.mem_of_getElem? (i := 219) (by decide +kernel), by decide +kernel⟩
theorem t_288 : (.methodLink R_Writer 32 y_Symbols_placeOf : Cond) ∈ tb := List.mem_filter.mpr ⟨List.mem_of_getElem? (i := 288) (by decide +kernel), by decide +kernel⟩
theorem t_289 : (.instanceMethod y_Symbols_placeOf : Cond) ∈ tb := List.mem_filter.mpr ⟨List.mem_of_getElem? (i := 289) (by decide +kernel), by decide +kernel⟩
theorem t_290 : (.selects R_Symbols y_Symbols_placeOf y_Symbols_placeOf : Cond) ∈ tb := List.mem_filter.mpr ⟨List.mem_of_getElem? (i := 290) (by decide +kernel), by decide +kernel⟩
theorem t_291 : (.code y_Symbols_placeOf c_Symbols_placeOf 4 (some .int) : Cond) ∈ tb := List.mem_filter.mpr ⟨List.mem_of_getElem? (i := 291) (by decide +kernel), by decide +kernel⟩
theorem t_223 : (.fieldLink R_Writer 81 "SymbolDictionaries$Symbols" "dxs" "[I" : Cond) ∈ tb := List.mem_filter.mpr ⟨List.mem_of_getElem? (i := 223) (by decide +kernel), by decide +kernel⟩
theorem t_390 : (.methodLink R_Writer 84 y_Bits_putBits : Cond) ∈ tb := List.mem_filter.mpr ⟨List.mem_of_getElem? (i := 390) (by decide +kernel), by decide +kernel⟩
theorem t_226 : (.fieldLink R_Writer 87 "SymbolDictionaries$Symbols" "dys" "[I" : Cond) ∈ tb := List.mem_filter.mpr ⟨List.mem_of_getElem? (i := 226) (by decide +kernel), by decide +kernel⟩
theorem t_167 : (.fieldLink R_Writer 15 "SymbolDictionaries$Writer" "plane" "[I" : Cond) ∈ tb := List.mem_filter.mpr ⟨List.mem_of_getElem? (i := 167) (by decide +kernel), by decide +kernel⟩
theorem t_395 : (.methodLink R_Writer 90 y_Symbols_rowOf : Cond) ∈ tb := List.mem_filter.mpr ⟨List.mem_of_getElem? (i := 395) (by decide +kernel), by decide +kernel⟩
theorem t_399 : (.methodLink R_Writer 94 y_Symbols_foretoldRow : Cond) ∈ tb := List.mem_filter.mpr ⟨List.mem_of_getElem? (i := 399) (by decide +kernel), by decide +kernel⟩
theorem t_231 : (.fieldLink R_Writer 26 "SymbolDictionaries$Symbols" "size" "I" : Cond) ∈ tb := List.mem_filter.mpr ⟨List.mem_of_getElem? (i := 231) (by decide +kernel), by decide +kernel⟩
theorem t_217 : (.fieldLink R_Writer 101 "SymbolDictionaries$Symbols" "exported" "[Z" : Cond) ∈ tb := List.mem_filter.mpr ⟨List.mem_of_getElem? (i := 217) (by decide +kernel), by decide +kernel⟩
theorem t_315 : (.selects R_PlainBits y_Bits_startWriting y_PlainBits_startWriting : Cond) ∈ tb := List.mem_filter.mpr ⟨List.mem_of_getElem? (i := 315) (by decide +kernel), by decide +kernel⟩
theorem t_296 : (.methodLink R_Writer 36 y_Bits_startWriting : Cond) ∈ tb := List.mem_filter.mpr ⟨List.mem_of_getElem? (i := 296) (by decide +kernel), by decide +kernel⟩
theorem t_298 : (.sameMethod R_Bits R_Bits "startWriting" "()V" : Cond) ∈ tb := List.mem_filter.mpr ⟨List.mem_of_getElem? (i := 298) (by decide +kernel), by decide +kernel⟩
theorem t_316 : (.instanceMethod y_PlainBits_startWriting : Cond) ∈ tb := List.mem_filter.mpr ⟨List.mem_of_getElem? (i := 316) (by decide +kernel), by decide +kernel⟩
theorem t_317 : (.code y_PlainBits_startWriting c_PlainBits_startWriting 1 none : Cond) ∈ tb := List.mem_filter.mpr ⟨List.mem_of_getElem? (i := 317) (by decide +kernel), by decide +kernel⟩
theorem t_381 : (.methodLink R_Writer 45 y_Writer_tellSize : Cond) ∈ tb := List.mem_filter.mpr ⟨List.mem_of_getElem? (i := 381) (by decide +kernel), by decide +kernel⟩
theorem t_383 : (.instanceMethod y_Writer_tellSize : Cond) ∈ tb := List.mem_filter.mpr ⟨List.mem_of_getElem? (i := 383) (by decide +kernel), by decide +kernel⟩
theorem t_5 : (.selects R_Writer y_Writer_tellSize y_Writer_tellSize : Cond) ∈ tb := List.mem_filter.mpr ⟨List.mem_of_getElem? (i := 5) (by decide +kernel), by decide +kernel⟩
theorem t_60 : (.initialized R_Writer : Cond) ∈ tb := List.mem_filter.mpr ⟨List.mem_of_getElem? (i := 60) (by decide +kernel), by decide +kernel⟩
theorem t_384 : (.code y_Writer_tellSize c_Writer_tellSize 6 none : Cond) ∈ tb := List.mem_filter.mpr ⟨List.mem_of_getElem? (i := 384) (by decide +kernel), by decide +kernel⟩
theorem t_386 : (.methodLink R_Writer 49 y_Writer_tellBase : Cond) ∈ tb := List.mem_filter.mpr ⟨List.mem_of_getElem? (i := 386) (by decide +kernel), by decide +kernel⟩
theorem t_388 : (.instanceMethod y_Writer_tellBase : Cond) ∈ tb := List.mem_filter.mpr ⟨List.mem_of_getElem? (i := 388) (by decide +kernel), by decide +kernel⟩
theorem t_6 : (.selects R_Writer y_Writer_tellBase y_Writer_tellBase : Cond) ∈ tb := List.mem_filter.mpr ⟨List.mem_of_getElem? (i := 6) (by decide +kernel), by decide +kernel⟩
theorem t_389 : (.code y_Writer_tellBase c_Writer_tellBase 5 none : Cond) ∈ tb := List.mem_filter.mpr ⟨List.mem_of_getElem? (i := 389) (by decide +kernel), by decide +kernel⟩
theorem t_391 : (.methodLink R_Writer 52 y_Writer_layPlane : Cond) ∈ tb := List.mem_filter.mpr ⟨List.mem_of_getElem? (i := 391) (by decide +kernel), by decide +kernel⟩
theorem t_393 : (.instanceMethod y_Writer_layPlane : Cond) ∈ tb := List.mem_filter.mpr ⟨List.mem_of_getElem? (i := 393) (by decide +kernel), by decide +kernel⟩
theorem t_7 : (.selects R_Writer y_Writer_layPlane y_Writer_layPlane : Cond) ∈ tb := List.mem_filter.mpr ⟨List.mem_of_getElem? (i := 7) (by decide +kernel), by decide +kernel⟩
theorem t_394 : (.code y_Writer_layPlane c_Writer_layPlane 4 none : Cond) ∈ tb := List.mem_filter.mpr ⟨List.mem_of_getElem? (i := 394) (by decide +kernel), by decide +kernel⟩
theorem t_165 : (.fieldLink R_Writer 22 "SymbolDictionaries$Writer" "byRuns" "Z" : Cond) ∈ tb := List.mem_filter.mpr ⟨List.mem_of_getElem? (i := 165) (by decide +kernel), by decide +kernel⟩
theorem t_412 : (.methodLink R_Writer 58 y_Writer_tellSamples : Cond) ∈ tb := List.mem_filter.mpr ⟨List.mem_of_getElem? (i := 412) (by decide +kernel), by decide +kernel⟩
theorem t_414 : (.instanceMethod y_Writer_tellSamples : Cond) ∈ tb := List.mem_filter.mpr ⟨List.mem_of_getElem? (i := 414) (by decide +kernel), by decide +kernel⟩
theorem t_10 : (.selects R_Writer y_Writer_tellSamples y_Writer_tellSamples : Cond) ∈ tb := List.mem_filter.mpr ⟨List.mem_of_getElem? (i := 10) (by decide +kernel), by decide +kernel⟩
theorem t_415 : (.code y_Writer_tellSamples c_Writer_tellSamples 7 none : Cond) ∈ tb := List.mem_filter.mpr ⟨List.mem_of_getElem? (i := 415) (by decide +kernel), by decide +kernel⟩
theorem t_408 : (.methodLink R_Writer 55 y_Writer_tellRuns : Cond) ∈ tb := List.mem_filter.mpr ⟨List.mem_of_getElem? (i := 408) (by decide +kernel), by decide +kernel⟩
theorem t_410 : (.instanceMethod y_Writer_tellRuns : Cond) ∈ tb := List.mem_filter.mpr ⟨List.mem_of_getElem? (i := 410) (by decide +kernel), by decide +kernel⟩
theorem t_9 : (.selects R_Writer y_Writer_tellRuns y_Writer_tellRuns : Cond) ∈ tb := List.mem_filter.mpr ⟨List.mem_of_getElem? (i := 9) (by decide +kernel), by decide +kernel⟩
theorem t_411 : (.code y_Writer_tellRuns c_Writer_tellRuns 7 none : Cond) ∈ tb := List.mem_filter.mpr ⟨List.mem_of_getElem? (i := 411) (by decide +kernel), by decide +kernel⟩
theorem t_419 : (.methodLink R_Writer 65 y_Writer_tellExports : Cond) ∈ tb := List.mem_filter.mpr ⟨List.mem_of_getElem? (i := 419) (by decide +kernel), by decide +kernel⟩
theorem t_421 : (.instanceMethod y_Writer_tellExports : Cond) ∈ tb := List.mem_filter.mpr ⟨List.mem_of_getElem? (i := 421) (by decide +kernel), by decide +kernel⟩
theorem t_11 : (.selects R_Writer y_Writer_tellExports y_Writer_tellExports : Cond) ∈ tb := List.mem_filter.mpr ⟨List.mem_of_getElem? (i := 11) (by decide +kernel), by decide +kernel⟩
theorem t_422 : (.code y_Writer_tellExports c_Writer_tellExports 5 none : Cond) ∈ tb := List.mem_filter.mpr ⟨List.mem_of_getElem? (i := 422) (by decide +kernel), by decide +kernel⟩
theorem t_430 : (.selects R_PlainBits y_Bits_finishWriting y_PlainBits_finishWriting : Cond) ∈ tb := List.mem_filter.mpr ⟨List.mem_of_getElem? (i := 430) (by decide +kernel), by decide +kernel⟩
theorem t_423 : (.methodLink R_Writer 69 y_Bits_finishWriting : Cond) ∈ tb := List.mem_filter.mpr ⟨List.mem_of_getElem? (i := 423) (by decide +kernel), by decide +kernel⟩
theorem t_425 : (.sameMethod R_Bits R_Bits "finishWriting" "()V" : Cond) ∈ tb := List.mem_filter.mpr ⟨List.mem_of_getElem? (i := 425) (by decide +kernel), by decide +kernel⟩
theorem t_431 : (.instanceMethod y_PlainBits_finishWriting : Cond) ∈ tb := List.mem_filter.mpr ⟨List.mem_of_getElem? (i := 431) (by decide +kernel), by decide +kernel⟩
theorem t_432 : (.code y_PlainBits_finishWriting c_PlainBits_finishWriting 1 none : Cond) ∈ tb := List.mem_filter.mpr ⟨List.mem_of_getElem? (i := 432) (by decide +kernel), by decide +kernel⟩
abbrev ws_Writer_tellSize : List Cond := .code y_Writer_tellSize c_Writer_tellSize 6 none :: tb
theorem hd_Writer_tellSize : y_Writer_tellSize.cls = R_Writer ∧ y_Writer_tellSize.cls ≠ "java/lang/invoke/MethodHandle" ∧ y_Writer_tellSize.cls ≠ "java/lang/invoke/VarHandle" ∧ (parseMethodDescriptor y_Writer_tellSize.desc).map (fun d => d.parameters.length) = some 2 := by decide +kernel
theorem d_Writer_tellSize_0 : decode c_Writer_tellSize 0 = .ok (.aload_n 0, 1) := by decide +kernel
theorem d_Writer_tellSize_1 : decode c_Writer_tellSize 1 = .ok (.getfield 9, 3) := by decide +kernel
theorem d_Writer_tellSize_4 : decode c_Writer_tellSize 4 = .ok (.iload_n 2, 1) := by decide +kernel
theorem d_Writer_tellSize_5 : decode c_Writer_tellSize 5 = .ok (.iaload, 1) := by decide +kernel
theorem d_Writer_tellSize_6 : decode c_Writer_tellSize 6 = .ok (.istore_n 3, 1) := by decide +kernel
theorem d_Writer_tellSize_7 : decode c_Writer_tellSize 7 = .ok (.iload_n 2, 1) := by decide +kernel
theorem d_Writer_tellSize_8 : decode c_Writer_tellSize 8 = .ok (.ifCond .le 19, 3) := by decide +kernel
theorem d_Writer_tellSize_11 : decode c_Writer_tellSize 11 = .ok (.aload_n 1, 1) := by decide +kernel
theorem d_Writer_tellSize_12 : decode c_Writer_tellSize 12 = .ok (.getfield 72, 3) := by decide +kernel
theorem d_Writer_tellSize_15 : decode c_Writer_tellSize 15 = .ok (.aload_n 0, 1) := by decide +kernel
theorem d_Writer_tellSize_16 : decode c_Writer_tellSize 16 = .ok (.getfield 9, 3) := by decide +kernel
theorem d_Writer_tellSize_19 : decode c_Writer_tellSize 19 = .ok (.iload_n 2, 1) := by decide +kernel
theorem d_Writer_tellSize_20 : decode c_Writer_tellSize 20 = .ok (.iconst 1, 1) := by decide +kernel
theorem d_Writer_tellSize_21 : decode c_Writer_tellSize 21 = .ok (.isub, 1) := by decide +kernel
theorem d_Writer_tellSize_22 : decode c_Writer_tellSize 22 = .ok (.iaload, 1) := by decide +kernel
theorem d_Writer_tellSize_23 : decode c_Writer_tellSize 23 = .ok (.iaload, 1) := by decide +kernel
theorem d_Writer_tellSize_24 : decode c_Writer_tellSize 24 = .ok (.goto 4, 3) := by decide +kernel
theorem d_Writer_tellSize_27 : decode c_Writer_tellSize 27 = .ok (.iconst 0, 1) := by decide +kernel
theorem d_Writer_tellSize_28 : decode c_Writer_tellSize 28 = .ok (.istore 4, 2) := by decide +kernel
theorem d_Writer_tellSize_30 : decode c_Writer_tellSize 30 = .ok (.iload_n 2, 1) := by decide +kernel
theorem d_Writer_tellSize_31 : decode c_Writer_tellSize 31 = .ok (.ifCond .le 19, 3) := by decide +kernel
theorem d_Writer_tellSize_34 : decode c_Writer_tellSize 34 = .ok (.aload_n 1, 1) := by decide +kernel
theorem d_Writer_tellSize_35 : decode c_Writer_tellSize 35 = .ok (.getfield 75, 3) := by decide +kernel
theorem d_Writer_tellSize_38 : decode c_Writer_tellSize 38 = .ok (.aload_n 0, 1) := by decide +kernel
theorem d_Writer_tellSize_39 : decode c_Writer_tellSize 39 = .ok (.getfield 9, 3) := by decide +kernel
theorem d_Writer_tellSize_42 : decode c_Writer_tellSize 42 = .ok (.iload_n 2, 1) := by decide +kernel
theorem d_Writer_tellSize_43 : decode c_Writer_tellSize 43 = .ok (.iconst 1, 1) := by decide +kernel
theorem d_Writer_tellSize_44 : decode c_Writer_tellSize 44 = .ok (.isub, 1) := by decide +kernel
theorem d_Writer_tellSize_45 : decode c_Writer_tellSize 45 = .ok (.iaload, 1) := by decide +kernel
theorem d_Writer_tellSize_46 : decode c_Writer_tellSize 46 = .ok (.iaload, 1) := by decide +kernel
theorem d_Writer_tellSize_47 : decode c_Writer_tellSize 47 = .ok (.goto 4, 3) := by decide +kernel
theorem d_Writer_tellSize_50 : decode c_Writer_tellSize 50 = .ok (.iconst 0, 1) := by decide +kernel
theorem d_Writer_tellSize_51 : decode c_Writer_tellSize 51 = .ok (.istore 5, 2) := by decide +kernel
theorem d_Writer_tellSize_53 : decode c_Writer_tellSize 53 = .ok (.aload_n 1, 1) := by decide +kernel
theorem d_Writer_tellSize_54 : decode c_Writer_tellSize 54 = .ok (.getfield 72, 3) := by decide +kernel
theorem d_Writer_tellSize_57 : decode c_Writer_tellSize 57 = .ok (.iload_n 3, 1) := by decide +kernel
theorem d_Writer_tellSize_58 : decode c_Writer_tellSize 58 = .ok (.iaload, 1) := by decide +kernel
theorem d_Writer_tellSize_59 : decode c_Writer_tellSize 59 = .ok (.iload 4, 2) := by decide +kernel
theorem d_Writer_tellSize_61 : decode c_Writer_tellSize 61 = .ok (.if_icmp .eq 37, 3) := by decide +kernel
theorem d_Writer_tellSize_64 : decode c_Writer_tellSize 64 = .ok (.iload_n 2, 1) := by decide +kernel
theorem d_Writer_tellSize_65 : decode c_Writer_tellSize 65 = .ok (.ifCond .le 12, 3) := by decide +kernel
theorem d_Writer_tellSize_68 : decode c_Writer_tellSize 68 = .ok (.aload_n 0, 1) := by decide +kernel
theorem d_Writer_tellSize_69 : decode c_Writer_tellSize 69 = .ok (.getfield 18, 3) := by decide +kernel
theorem d_Writer_tellSize_72 : decode c_Writer_tellSize 72 = .ok (.iconst 0, 1) := by decide +kernel
theorem d_Writer_tellSize_73 : decode c_Writer_tellSize 73 = .ok (.iconst (-1), 1) := by decide +kernel
theorem d_Writer_tellSize_74 : decode c_Writer_tellSize 74 = .ok (.invokevirtual 61, 3) := by decide +kernel
theorem d_Writer_tellSize_77 : decode c_Writer_tellSize 77 = .ok (.aload_n 0, 1) := by decide +kernel
theorem d_Writer_tellSize_78 : decode c_Writer_tellSize 78 = .ok (.getfield 18, 3) := by decide +kernel
theorem d_Writer_tellSize_81 : decode c_Writer_tellSize 81 = .ok (.aload_n 1, 1) := by decide +kernel
theorem d_Writer_tellSize_82 : decode c_Writer_tellSize 82 = .ok (.getfield 72, 3) := by decide +kernel
theorem d_Writer_tellSize_85 : decode c_Writer_tellSize 85 = .ok (.iload_n 3, 1) := by decide +kernel
theorem d_Writer_tellSize_86 : decode c_Writer_tellSize 86 = .ok (.iaload, 1) := by decide +kernel
theorem d_Writer_tellSize_87 : decode c_Writer_tellSize 87 = .ok (.iload 4, 2) := by decide +kernel
theorem d_Writer_tellSize_89 : decode c_Writer_tellSize 89 = .ok (.isub, 1) := by decide +kernel
theorem d_Writer_tellSize_90 : decode c_Writer_tellSize 90 = .ok (.iconst 1, 1) := by decide +kernel
theorem d_Writer_tellSize_91 : decode c_Writer_tellSize 91 = .ok (.isub, 1) := by decide +kernel
theorem d_Writer_tellSize_92 : decode c_Writer_tellSize 92 = .ok (.invokevirtual 41, 3) := by decide +kernel
theorem d_Writer_tellSize_95 : decode c_Writer_tellSize 95 = .ok (.iconst 0, 1) := by decide +kernel
theorem d_Writer_tellSize_96 : decode c_Writer_tellSize 96 = .ok (.istore 5, 2) := by decide +kernel
theorem d_Writer_tellSize_98 : decode c_Writer_tellSize 98 = .ok (.aload_n 0, 1) := by decide +kernel
theorem d_Writer_tellSize_99 : decode c_Writer_tellSize 99 = .ok (.getfield 18, 3) := by decide +kernel
theorem d_Writer_tellSize_102 : decode c_Writer_tellSize 102 = .ok (.iconst 1, 1) := by decide +kernel
theorem d_Writer_tellSize_103 : decode c_Writer_tellSize 103 = .ok (.iconst (-1), 1) := by decide +kernel
theorem d_Writer_tellSize_104 : decode c_Writer_tellSize 104 = .ok (.invokevirtual 61, 3) := by decide +kernel
theorem d_Writer_tellSize_107 : decode c_Writer_tellSize 107 = .ok (.aload_n 0, 1) := by decide +kernel
theorem d_Writer_tellSize_108 : decode c_Writer_tellSize 108 = .ok (.getfield 18, 3) := by decide +kernel
theorem d_Writer_tellSize_111 : decode c_Writer_tellSize 111 = .ok (.aload_n 1, 1) := by decide +kernel
theorem d_Writer_tellSize_112 : decode c_Writer_tellSize 112 = .ok (.getfield 75, 3) := by decide +kernel
theorem d_Writer_tellSize_115 : decode c_Writer_tellSize 115 = .ok (.iload_n 3, 1) := by decide +kernel
theorem d_Writer_tellSize_116 : decode c_Writer_tellSize 116 = .ok (.iaload, 1) := by decide +kernel
theorem d_Writer_tellSize_117 : decode c_Writer_tellSize 117 = .ok (.iload 5, 2) := by decide +kernel
theorem d_Writer_tellSize_119 : decode c_Writer_tellSize 119 = .ok (.isub, 1) := by decide +kernel
theorem d_Writer_tellSize_120 : decode c_Writer_tellSize 120 = .ok (.invokevirtual 41, 3) := by decide +kernel
theorem d_Writer_tellSize_123 : decode c_Writer_tellSize 123 = .ok (.return_, 1) := by decide +kernel
abbrev ws_Writer_tellBase : List Cond := .code y_Writer_tellBase c_Writer_tellBase 5 none :: tb
theorem hd_Writer_tellBase : y_Writer_tellBase.cls = R_Writer ∧ y_Writer_tellBase.cls ≠ "java/lang/invoke/MethodHandle" ∧ y_Writer_tellBase.cls ≠ "java/lang/invoke/VarHandle" ∧ (parseMethodDescriptor y_Writer_tellBase.desc).map (fun d => d.parameters.length) = some 2 := by decide +kernel
theorem d_Writer_tellBase_0 : decode c_Writer_tellBase 0 = .ok (.aload_n 0, 1) := by decide +kernel
theorem d_Writer_tellBase_1 : decode c_Writer_tellBase 1 = .ok (.getfield 9, 3) := by decide +kernel
theorem d_Writer_tellBase_4 : decode c_Writer_tellBase 4 = .ok (.iload_n 2, 1) := by decide +kernel
theorem d_Writer_tellBase_5 : decode c_Writer_tellBase 5 = .ok (.iaload, 1) := by decide +kernel
theorem d_Writer_tellBase_6 : decode c_Writer_tellBase 6 = .ok (.istore_n 3, 1) := by decide +kernel
theorem d_Writer_tellBase_7 : decode c_Writer_tellBase 7 = .ok (.aload_n 1, 1) := by decide +kernel
theorem d_Writer_tellBase_8 : decode c_Writer_tellBase 8 = .ok (.getfield 78, 3) := by decide +kernel
theorem d_Writer_tellBase_11 : decode c_Writer_tellBase 11 = .ok (.iload_n 3, 1) := by decide +kernel
theorem d_Writer_tellBase_12 : decode c_Writer_tellBase 12 = .ok (.iaload, 1) := by decide +kernel
theorem d_Writer_tellBase_13 : decode c_Writer_tellBase 13 = .ok (.istore 4, 2) := by decide +kernel
theorem d_Writer_tellBase_15 : decode c_Writer_tellBase 15 = .ok (.iload 4, 2) := by decide +kernel
theorem d_Writer_tellBase_17 : decode c_Writer_tellBase 17 = .ok (.iconst (-1), 1) := by decide +kernel
theorem d_Writer_tellBase_18 : decode c_Writer_tellBase 18 = .ok (.if_icmp .ne 13, 3) := by decide +kernel
theorem d_Writer_tellBase_21 : decode c_Writer_tellBase 21 = .ok (.aload_n 0, 1) := by decide +kernel
theorem d_Writer_tellBase_22 : decode c_Writer_tellBase 22 = .ok (.getfield 18, 3) := by decide +kernel
theorem d_Writer_tellBase_25 : decode c_Writer_tellBase 25 = .ok (.iconst 0, 1) := by decide +kernel
theorem d_Writer_tellBase_26 : decode c_Writer_tellBase 26 = .ok (.iconst (-1), 1) := by decide +kernel
theorem d_Writer_tellBase_27 : decode c_Writer_tellBase 27 = .ok (.invokevirtual 61, 3) := by decide +kernel
theorem d_Writer_tellBase_30 : decode c_Writer_tellBase 30 = .ok (.return_, 1) := by decide +kernel
theorem d_Writer_tellBase_31 : decode c_Writer_tellBase 31 = .ok (.aload_n 0, 1) := by decide +kernel
theorem d_Writer_tellBase_32 : decode c_Writer_tellBase 32 = .ok (.getfield 18, 3) := by decide +kernel
theorem d_Writer_tellBase_35 : decode c_Writer_tellBase 35 = .ok (.iconst 1, 1) := by decide +kernel
theorem d_Writer_tellBase_36 : decode c_Writer_tellBase 36 = .ok (.iconst (-1), 1) := by decide +kernel
theorem d_Writer_tellBase_37 : decode c_Writer_tellBase 37 = .ok (.invokevirtual 61, 3) := by decide +kernel
theorem d_Writer_tellBase_40 : decode c_Writer_tellBase 40 = .ok (.aload_n 0, 1) := by decide +kernel
theorem d_Writer_tellBase_41 : decode c_Writer_tellBase 41 = .ok (.getfield 18, 3) := by decide +kernel
theorem d_Writer_tellBase_44 : decode c_Writer_tellBase 44 = .ok (.iload_n 2, 1) := by decide +kernel
theorem d_Writer_tellBase_45 : decode c_Writer_tellBase 45 = .ok (.aload_n 1, 1) := by decide +kernel
theorem d_Writer_tellBase_46 : decode c_Writer_tellBase 46 = .ok (.iload 4, 2) := by decide +kernel
theorem d_Writer_tellBase_48 : decode c_Writer_tellBase 48 = .ok (.invokevirtual 32, 3) := by decide +kernel
theorem d_Writer_tellBase_51 : decode c_Writer_tellBase 51 = .ok (.isub, 1) := by decide +kernel
theorem d_Writer_tellBase_52 : decode c_Writer_tellBase 52 = .ok (.iconst 1, 1) := by decide +kernel
theorem d_Writer_tellBase_53 : decode c_Writer_tellBase 53 = .ok (.isub, 1) := by decide +kernel
theorem d_Writer_tellBase_54 : decode c_Writer_tellBase 54 = .ok (.invokevirtual 41, 3) := by decide +kernel
theorem d_Writer_tellBase_57 : decode c_Writer_tellBase 57 = .ok (.aload_n 0, 1) := by decide +kernel
theorem d_Writer_tellBase_58 : decode c_Writer_tellBase 58 = .ok (.getfield 18, 3) := by decide +kernel
theorem d_Writer_tellBase_61 : decode c_Writer_tellBase 61 = .ok (.aload_n 1, 1) := by decide +kernel
theorem d_Writer_tellBase_62 : decode c_Writer_tellBase 62 = .ok (.getfield 81, 3) := by decide +kernel
theorem d_Writer_tellBase_65 : decode c_Writer_tellBase 65 = .ok (.iload_n 3, 1) := by decide +kernel
theorem d_Writer_tellBase_66 : decode c_Writer_tellBase 66 = .ok (.iaload, 1) := by decide +kernel
theorem d_Writer_tellBase_67 : decode c_Writer_tellBase 67 = .ok (.iconst 4, 1) := by decide +kernel
theorem d_Writer_tellBase_68 : decode c_Writer_tellBase 68 = .ok (.iadd, 1) := by decide +kernel
theorem d_Writer_tellBase_69 : decode c_Writer_tellBase 69 = .ok (.iconst 4, 1) := by decide +kernel
theorem d_Writer_tellBase_70 : decode c_Writer_tellBase 70 = .ok (.invokevirtual 84, 3) := by decide +kernel
theorem d_Writer_tellBase_73 : decode c_Writer_tellBase 73 = .ok (.aload_n 0, 1) := by decide +kernel
theorem d_Writer_tellBase_74 : decode c_Writer_tellBase 74 = .ok (.getfield 18, 3) := by decide +kernel
theorem d_Writer_tellBase_77 : decode c_Writer_tellBase 77 = .ok (.aload_n 1, 1) := by decide +kernel
theorem d_Writer_tellBase_78 : decode c_Writer_tellBase 78 = .ok (.getfield 87, 3) := by decide +kernel
theorem d_Writer_tellBase_81 : decode c_Writer_tellBase 81 = .ok (.iload_n 3, 1) := by decide +kernel
theorem d_Writer_tellBase_82 : decode c_Writer_tellBase 82 = .ok (.iaload, 1) := by decide +kernel
theorem d_Writer_tellBase_83 : decode c_Writer_tellBase 83 = .ok (.iconst 4, 1) := by decide +kernel
theorem d_Writer_tellBase_84 : decode c_Writer_tellBase 84 = .ok (.iadd, 1) := by decide +kernel
theorem d_Writer_tellBase_85 : decode c_Writer_tellBase 85 = .ok (.iconst 4, 1) := by decide +kernel
theorem d_Writer_tellBase_86 : decode c_Writer_tellBase 86 = .ok (.invokevirtual 84, 3) := by decide +kernel
theorem d_Writer_tellBase_89 : decode c_Writer_tellBase 89 = .ok (.return_, 1) := by decide +kernel
abbrev ws_Writer_layPlane : List Cond := .code y_Writer_layPlane c_Writer_layPlane 4 none :: tb
theorem hd_Writer_layPlane : y_Writer_layPlane.cls = R_Writer ∧ y_Writer_layPlane.cls ≠ "java/lang/invoke/MethodHandle" ∧ y_Writer_layPlane.cls ≠ "java/lang/invoke/VarHandle" ∧ (parseMethodDescriptor y_Writer_layPlane.desc).map (fun d => d.parameters.length) = some 2 := by decide +kernel
theorem d_Writer_layPlane_0 : decode c_Writer_layPlane 0 = .ok (.iconst 0, 1) := by decide +kernel
theorem d_Writer_layPlane_1 : decode c_Writer_layPlane 1 = .ok (.istore_n 3, 1) := by decide +kernel
theorem d_Writer_layPlane_2 : decode c_Writer_layPlane 2 = .ok (.iload_n 3, 1) := by decide +kernel
theorem d_Writer_layPlane_3 : decode c_Writer_layPlane 3 = .ok (.aload_n 1, 1) := by decide +kernel
theorem d_Writer_layPlane_4 : decode c_Writer_layPlane 4 = .ok (.getfield 72, 3) := by decide +kernel
theorem d_Writer_layPlane_7 : decode c_Writer_layPlane 7 = .ok (.iload_n 2, 1) := by decide +kernel
theorem d_Writer_layPlane_8 : decode c_Writer_layPlane 8 = .ok (.iaload, 1) := by decide +kernel
theorem d_Writer_layPlane_9 : decode c_Writer_layPlane 9 = .ok (.if_icmp .ge 28, 3) := by decide +kernel
theorem d_Writer_layPlane_12 : decode c_Writer_layPlane 12 = .ok (.aload_n 0, 1) := by decide +kernel
theorem d_Writer_layPlane_13 : decode c_Writer_layPlane 13 = .ok (.getfield 15, 3) := by decide +kernel
theorem d_Writer_layPlane_16 : decode c_Writer_layPlane 16 = .ok (.iload_n 3, 1) := by decide +kernel
theorem d_Writer_layPlane_17 : decode c_Writer_layPlane 17 = .ok (.aload_n 1, 1) := by decide +kernel
theorem d_Writer_layPlane_18 : decode c_Writer_layPlane 18 = .ok (.iload_n 2, 1) := by decide +kernel
theorem d_Writer_layPlane_19 : decode c_Writer_layPlane 19 = .ok (.iload_n 3, 1) := by decide +kernel
theorem d_Writer_layPlane_20 : decode c_Writer_layPlane 20 = .ok (.invokevirtual 90, 3) := by decide +kernel
theorem d_Writer_layPlane_23 : decode c_Writer_layPlane 23 = .ok (.aload_n 1, 1) := by decide +kernel
theorem d_Writer_layPlane_24 : decode c_Writer_layPlane 24 = .ok (.iload_n 2, 1) := by decide +kernel
theorem d_Writer_layPlane_25 : decode c_Writer_layPlane 25 = .ok (.iload_n 3, 1) := by decide +kernel
theorem d_Writer_layPlane_26 : decode c_Writer_layPlane 26 = .ok (.invokevirtual 94, 3) := by decide +kernel
theorem d_Writer_layPlane_29 : decode c_Writer_layPlane 29 = .ok (.ixor, 1) := by decide +kernel
theorem d_Writer_layPlane_30 : decode c_Writer_layPlane 30 = .ok (.iastore, 1) := by decide +kernel
theorem d_Writer_layPlane_31 : decode c_Writer_layPlane 31 = .ok (.iinc 3 1, 3) := by decide +kernel
theorem d_Writer_layPlane_34 : decode c_Writer_layPlane 34 = .ok (.goto (-32), 3) := by decide +kernel
theorem d_Writer_layPlane_37 : decode c_Writer_layPlane 37 = .ok (.return_, 1) := by decide +kernel
abbrev ws_Writer_tellSamples : List Cond := .code y_Writer_tellSamples c_Writer_tellSamples 7 none :: tb
theorem hd_Writer_tellSamples : y_Writer_tellSamples.cls = R_Writer ∧ y_Writer_tellSamples.cls ≠ "java/lang/invoke/MethodHandle" ∧ y_Writer_tellSamples.cls ≠ "java/lang/invoke/VarHandle" ∧ (parseMethodDescriptor y_Writer_tellSamples.desc).map (fun d => d.parameters.length) = some 2 := by decide +kernel
theorem d_Writer_tellSamples_0 : decode c_Writer_tellSamples 0 = .ok (.aload_n 1, 1) := by decide +kernel
theorem d_Writer_tellSamples_1 : decode c_Writer_tellSamples 1 = .ok (.getfield 78, 3) := by decide +kernel
theorem d_Writer_tellSamples_4 : decode c_Writer_tellSamples 4 = .ok (.iload_n 2, 1) := by decide +kernel
theorem d_Writer_tellSamples_5 : decode c_Writer_tellSamples 5 = .ok (.iaload, 1) := by decide +kernel
theorem d_Writer_tellSamples_6 : decode c_Writer_tellSamples 6 = .ok (.iconst (-1), 1) := by decide +kernel
theorem d_Writer_tellSamples_7 : decode c_Writer_tellSamples 7 = .ok (.if_icmp .ne 7, 3) := by decide +kernel
theorem d_Writer_tellSamples_10 : decode c_Writer_tellSamples 10 = .ok (.iconst 0, 1) := by decide +kernel
theorem d_Writer_tellSamples_11 : decode c_Writer_tellSamples 11 = .ok (.goto 5, 3) := by decide +kernel
theorem d_Writer_tellSamples_14 : decode c_Writer_tellSamples 14 = .ok (.bipush 16, 2) := by decide +kernel
theorem d_Writer_tellSamples_16 : decode c_Writer_tellSamples 16 = .ok (.istore_n 3, 1) := by decide +kernel
theorem d_Writer_tellSamples_17 : decode c_Writer_tellSamples 17 = .ok (.iconst 0, 1) := by decide +kernel
theorem d_Writer_tellSamples_18 : decode c_Writer_tellSamples 18 = .ok (.istore 4, 2) := by decide +kernel
theorem d_Writer_tellSamples_20 : decode c_Writer_tellSamples 20 = .ok (.iconst 0, 1) := by decide +kernel
theorem d_Writer_tellSamples_21 : decode c_Writer_tellSamples 21 = .ok (.istore 5, 2) := by decide +kernel
theorem d_Writer_tellSamples_23 : decode c_Writer_tellSamples 23 = .ok (.iload 5, 2) := by decide +kernel
theorem d_Writer_tellSamples_25 : decode c_Writer_tellSamples 25 = .ok (.aload_n 1, 1) := by decide +kernel
theorem d_Writer_tellSamples_26 : decode c_Writer_tellSamples 26 = .ok (.getfield 72, 3) := by decide +kernel
theorem d_Writer_tellSamples_29 : decode c_Writer_tellSamples 29 = .ok (.iload_n 2, 1) := by decide +kernel
theorem d_Writer_tellSamples_30 : decode c_Writer_tellSamples 30 = .ok (.iaload, 1) := by decide +kernel
theorem d_Writer_tellSamples_31 : decode c_Writer_tellSamples 31 = .ok (.if_icmp .ge 72, 3) := by decide +kernel
theorem d_Writer_tellSamples_34 : decode c_Writer_tellSamples 34 = .ok (.iconst 0, 1) := by decide +kernel
theorem d_Writer_tellSamples_35 : decode c_Writer_tellSamples 35 = .ok (.istore 6, 2) := by decide +kernel
theorem d_Writer_tellSamples_37 : decode c_Writer_tellSamples 37 = .ok (.iload 6, 2) := by decide +kernel
theorem d_Writer_tellSamples_39 : decode c_Writer_tellSamples 39 = .ok (.aload_n 1, 1) := by decide +kernel
theorem d_Writer_tellSamples_40 : decode c_Writer_tellSamples 40 = .ok (.getfield 75, 3) := by decide +kernel
theorem d_Writer_tellSamples_43 : decode c_Writer_tellSamples 43 = .ok (.iload_n 2, 1) := by decide +kernel
theorem d_Writer_tellSamples_44 : decode c_Writer_tellSamples 44 = .ok (.iaload, 1) := by decide +kernel
theorem d_Writer_tellSamples_45 : decode c_Writer_tellSamples 45 = .ok (.if_icmp .ge 43, 3) := by decide +kernel
theorem d_Writer_tellSamples_48 : decode c_Writer_tellSamples 48 = .ok (.aload_n 0, 1) := by decide +kernel
theorem d_Writer_tellSamples_49 : decode c_Writer_tellSamples 49 = .ok (.getfield 18, 3) := by decide +kernel
theorem d_Writer_tellSamples_52 : decode c_Writer_tellSamples 52 = .ok (.aload_n 0, 1) := by decide +kernel
theorem d_Writer_tellSamples_53 : decode c_Writer_tellSamples 53 = .ok (.getfield 15, 3) := by decide +kernel
theorem d_Writer_tellSamples_56 : decode c_Writer_tellSamples 56 = .ok (.iload 5, 2) := by decide +kernel
theorem d_Writer_tellSamples_58 : decode c_Writer_tellSamples 58 = .ok (.iaload, 1) := by decide +kernel
theorem d_Writer_tellSamples_59 : decode c_Writer_tellSamples 59 = .ok (.iload 6, 2) := by decide +kernel
theorem d_Writer_tellSamples_61 : decode c_Writer_tellSamples 61 = .ok (.ishr, 1) := by decide +kernel
theorem d_Writer_tellSamples_62 : decode c_Writer_tellSamples 62 = .ok (.iconst 1, 1) := by decide +kernel
theorem d_Writer_tellSamples_63 : decode c_Writer_tellSamples 63 = .ok (.iand, 1) := by decide +kernel
theorem d_Writer_tellSamples_64 : decode c_Writer_tellSamples 64 = .ok (.aload_n 0, 1) := by decide +kernel
theorem d_Writer_tellSamples_65 : decode c_Writer_tellSamples 65 = .ok (.getfield 15, 3) := by decide +kernel
theorem d_Writer_tellSamples_68 : decode c_Writer_tellSamples 68 = .ok (.iload 5, 2) := by decide +kernel
theorem d_Writer_tellSamples_70 : decode c_Writer_tellSamples 70 = .ok (.iaload, 1) := by decide +kernel
theorem d_Writer_tellSamples_71 : decode c_Writer_tellSamples 71 = .ok (.iload 4, 2) := by decide +kernel
theorem d_Writer_tellSamples_73 : decode c_Writer_tellSamples 73 = .ok (.iload 6, 2) := by decide +kernel
theorem d_Writer_tellSamples_75 : decode c_Writer_tellSamples 75 = .ok (.iload_n 3, 1) := by decide +kernel
theorem d_Writer_tellSamples_76 : decode c_Writer_tellSamples 76 = .ok (.invokestatic 97, 3) := by decide +kernel
theorem d_Writer_tellSamples_79 : decode c_Writer_tellSamples 79 = .ok (.invokevirtual 61, 3) := by decide +kernel
theorem d_Writer_tellSamples_82 : decode c_Writer_tellSamples 82 = .ok (.iinc 6 1, 3) := by decide +kernel
theorem d_Writer_tellSamples_85 : decode c_Writer_tellSamples 85 = .ok (.goto (-48), 3) := by decide +kernel
theorem d_Writer_tellSamples_88 : decode c_Writer_tellSamples 88 = .ok (.aload_n 0, 1) := by decide +kernel
theorem d_Writer_tellSamples_89 : decode c_Writer_tellSamples 89 = .ok (.getfield 15, 3) := by decide +kernel
theorem d_Writer_tellSamples_92 : decode c_Writer_tellSamples 92 = .ok (.iload 5, 2) := by decide +kernel
theorem d_Writer_tellSamples_94 : decode c_Writer_tellSamples 94 = .ok (.iaload, 1) := by decide +kernel
theorem d_Writer_tellSamples_95 : decode c_Writer_tellSamples 95 = .ok (.istore 4, 2) := by decide +kernel
theorem d_Writer_tellSamples_97 : decode c_Writer_tellSamples 97 = .ok (.iinc 5 1, 3) := by decide +kernel
theorem d_Writer_tellSamples_100 : decode c_Writer_tellSamples 100 = .ok (.goto (-77), 3) := by decide +kernel
theorem d_Writer_tellSamples_103 : decode c_Writer_tellSamples 103 = .ok (.return_, 1) := by decide +kernel
abbrev ws_Writer_tellRuns : List Cond := .code y_Writer_tellRuns c_Writer_tellRuns 7 none :: tb
theorem hd_Writer_tellRuns : y_Writer_tellRuns.cls = R_Writer ∧ y_Writer_tellRuns.cls ≠ "java/lang/invoke/MethodHandle" ∧ y_Writer_tellRuns.cls ≠ "java/lang/invoke/VarHandle" ∧ (parseMethodDescriptor y_Writer_tellRuns.desc).map (fun d => d.parameters.length) = some 2 := by decide +kernel
theorem d_Writer_tellRuns_0 : decode c_Writer_tellRuns 0 = .ok (.iconst 0, 1) := by decide +kernel
theorem d_Writer_tellRuns_1 : decode c_Writer_tellRuns 1 = .ok (.istore_n 3, 1) := by decide +kernel
theorem d_Writer_tellRuns_2 : decode c_Writer_tellRuns 2 = .ok (.iconst 0, 1) := by decide +kernel
theorem d_Writer_tellRuns_3 : decode c_Writer_tellRuns 3 = .ok (.istore 4, 2) := by decide +kernel
theorem d_Writer_tellRuns_5 : decode c_Writer_tellRuns 5 = .ok (.iconst 0, 1) := by decide +kernel
theorem d_Writer_tellRuns_6 : decode c_Writer_tellRuns 6 = .ok (.istore 5, 2) := by decide +kernel
theorem d_Writer_tellRuns_8 : decode c_Writer_tellRuns 8 = .ok (.iload 5, 2) := by decide +kernel
theorem d_Writer_tellRuns_10 : decode c_Writer_tellRuns 10 = .ok (.aload_n 1, 1) := by decide +kernel
theorem d_Writer_tellRuns_11 : decode c_Writer_tellRuns 11 = .ok (.getfield 72, 3) := by decide +kernel
theorem d_Writer_tellRuns_14 : decode c_Writer_tellRuns 14 = .ok (.iload_n 2, 1) := by decide +kernel
theorem d_Writer_tellRuns_15 : decode c_Writer_tellRuns 15 = .ok (.iaload, 1) := by decide +kernel
theorem d_Writer_tellRuns_16 : decode c_Writer_tellRuns 16 = .ok (.if_icmp .ge 64, 3) := by decide +kernel
theorem d_Writer_tellRuns_19 : decode c_Writer_tellRuns 19 = .ok (.iconst 0, 1) := by decide +kernel
theorem d_Writer_tellRuns_20 : decode c_Writer_tellRuns 20 = .ok (.istore 6, 2) := by decide +kernel
theorem d_Writer_tellRuns_22 : decode c_Writer_tellRuns 22 = .ok (.iload 6, 2) := by decide +kernel
theorem d_Writer_tellRuns_24 : decode c_Writer_tellRuns 24 = .ok (.aload_n 1, 1) := by decide +kernel
theorem d_Writer_tellRuns_25 : decode c_Writer_tellRuns 25 = .ok (.getfield 75, 3) := by decide +kernel
theorem d_Writer_tellRuns_28 : decode c_Writer_tellRuns 28 = .ok (.iload_n 2, 1) := by decide +kernel
theorem d_Writer_tellRuns_29 : decode c_Writer_tellRuns 29 = .ok (.iaload, 1) := by decide +kernel
theorem d_Writer_tellRuns_30 : decode c_Writer_tellRuns 30 = .ok (.if_icmp .ge 44, 3) := by decide +kernel
theorem d_Writer_tellRuns_33 : decode c_Writer_tellRuns 33 = .ok (.aload_n 0, 1) := by decide +kernel
theorem d_Writer_tellRuns_34 : decode c_Writer_tellRuns 34 = .ok (.getfield 15, 3) := by decide +kernel
theorem d_Writer_tellRuns_37 : decode c_Writer_tellRuns 37 = .ok (.iload 5, 2) := by decide +kernel
theorem d_Writer_tellRuns_39 : decode c_Writer_tellRuns 39 = .ok (.iaload, 1) := by decide +kernel
theorem d_Writer_tellRuns_40 : decode c_Writer_tellRuns 40 = .ok (.iload 6, 2) := by decide +kernel
theorem d_Writer_tellRuns_42 : decode c_Writer_tellRuns 42 = .ok (.ishr, 1) := by decide +kernel
theorem d_Writer_tellRuns_43 : decode c_Writer_tellRuns 43 = .ok (.iconst 1, 1) := by decide +kernel
theorem d_Writer_tellRuns_44 : decode c_Writer_tellRuns 44 = .ok (.iand, 1) := by decide +kernel
theorem d_Writer_tellRuns_45 : decode c_Writer_tellRuns 45 = .ok (.iload_n 3, 1) := by decide +kernel
theorem d_Writer_tellRuns_46 : decode c_Writer_tellRuns 46 = .ok (.if_icmp .eq 19, 3) := by decide +kernel
theorem d_Writer_tellRuns_49 : decode c_Writer_tellRuns 49 = .ok (.aload_n 0, 1) := by decide +kernel
theorem d_Writer_tellRuns_50 : decode c_Writer_tellRuns 50 = .ok (.getfield 18, 3) := by decide +kernel
theorem d_Writer_tellRuns_53 : decode c_Writer_tellRuns 53 = .ok (.iload 4, 2) := by decide +kernel
theorem d_Writer_tellRuns_55 : decode c_Writer_tellRuns 55 = .ok (.invokevirtual 41, 3) := by decide +kernel
theorem d_Writer_tellRuns_58 : decode c_Writer_tellRuns 58 = .ok (.iconst 1, 1) := by decide +kernel
theorem d_Writer_tellRuns_59 : decode c_Writer_tellRuns 59 = .ok (.iload_n 3, 1) := by decide +kernel
theorem d_Writer_tellRuns_60 : decode c_Writer_tellRuns 60 = .ok (.isub, 1) := by decide +kernel
theorem d_Writer_tellRuns_61 : decode c_Writer_tellRuns 61 = .ok (.istore_n 3, 1) := by decide +kernel
theorem d_Writer_tellRuns_62 : decode c_Writer_tellRuns 62 = .ok (.iconst 0, 1) := by decide +kernel
theorem d_Writer_tellRuns_63 : decode c_Writer_tellRuns 63 = .ok (.istore 4, 2) := by decide +kernel
theorem d_Writer_tellRuns_65 : decode c_Writer_tellRuns 65 = .ok (.iinc 4 1, 3) := by decide +kernel
theorem d_Writer_tellRuns_68 : decode c_Writer_tellRuns 68 = .ok (.iinc 6 1, 3) := by decide +kernel
theorem d_Writer_tellRuns_71 : decode c_Writer_tellRuns 71 = .ok (.goto (-49), 3) := by decide +kernel
theorem d_Writer_tellRuns_74 : decode c_Writer_tellRuns 74 = .ok (.iinc 5 1, 3) := by decide +kernel
theorem d_Writer_tellRuns_77 : decode c_Writer_tellRuns 77 = .ok (.goto (-69), 3) := by decide +kernel
theorem d_Writer_tellRuns_80 : decode c_Writer_tellRuns 80 = .ok (.aload_n 0, 1) := by decide +kernel
theorem d_Writer_tellRuns_81 : decode c_Writer_tellRuns 81 = .ok (.getfield 18, 3) := by decide +kernel
theorem d_Writer_tellRuns_84 : decode c_Writer_tellRuns 84 = .ok (.iload 4, 2) := by decide +kernel
theorem d_Writer_tellRuns_86 : decode c_Writer_tellRuns 86 = .ok (.invokevirtual 41, 3) := by decide +kernel
theorem d_Writer_tellRuns_89 : decode c_Writer_tellRuns 89 = .ok (.return_, 1) := by decide +kernel
abbrev ws_Writer_tellExports : List Cond := .code y_Writer_tellExports c_Writer_tellExports 5 none :: tb
theorem hd_Writer_tellExports : y_Writer_tellExports.cls = R_Writer ∧ y_Writer_tellExports.cls ≠ "java/lang/invoke/MethodHandle" ∧ y_Writer_tellExports.cls ≠ "java/lang/invoke/VarHandle" ∧ (parseMethodDescriptor y_Writer_tellExports.desc).map (fun d => d.parameters.length) = some 1 := by decide +kernel
theorem d_Writer_tellExports_0 : decode c_Writer_tellExports 0 = .ok (.aload_n 1, 1) := by decide +kernel
theorem d_Writer_tellExports_1 : decode c_Writer_tellExports 1 = .ok (.getfield 26, 3) := by decide +kernel
theorem d_Writer_tellExports_4 : decode c_Writer_tellExports 4 = .ok (.ifCond .ne 4, 3) := by decide +kernel
theorem d_Writer_tellExports_7 : decode c_Writer_tellExports 7 = .ok (.return_, 1) := by decide +kernel
theorem d_Writer_tellExports_8 : decode c_Writer_tellExports 8 = .ok (.iconst 0, 1) := by decide +kernel
theorem d_Writer_tellExports_9 : decode c_Writer_tellExports 9 = .ok (.istore_n 2, 1) := by decide +kernel
theorem d_Writer_tellExports_10 : decode c_Writer_tellExports 10 = .ok (.iconst 0, 1) := by decide +kernel
theorem d_Writer_tellExports_11 : decode c_Writer_tellExports 11 = .ok (.istore_n 3, 1) := by decide +kernel
theorem d_Writer_tellExports_12 : decode c_Writer_tellExports 12 = .ok (.iconst 0, 1) := by decide +kernel
theorem d_Writer_tellExports_13 : decode c_Writer_tellExports 13 = .ok (.istore 4, 2) := by decide +kernel
theorem d_Writer_tellExports_15 : decode c_Writer_tellExports 15 = .ok (.iload 4, 2) := by decide +kernel
theorem d_Writer_tellExports_17 : decode c_Writer_tellExports 17 = .ok (.aload_n 1, 1) := by decide +kernel
theorem d_Writer_tellExports_18 : decode c_Writer_tellExports 18 = .ok (.getfield 26, 3) := by decide +kernel
theorem d_Writer_tellExports_21 : decode c_Writer_tellExports 21 = .ok (.if_icmp .ge 48, 3) := by decide +kernel
theorem d_Writer_tellExports_24 : decode c_Writer_tellExports 24 = .ok (.aload_n 1, 1) := by decide +kernel
theorem d_Writer_tellExports_25 : decode c_Writer_tellExports 25 = .ok (.getfield 101, 3) := by decide +kernel
theorem d_Writer_tellExports_28 : decode c_Writer_tellExports 28 = .ok (.aload_n 0, 1) := by decide +kernel
theorem d_Writer_tellExports_29 : decode c_Writer_tellExports 29 = .ok (.getfield 9, 3) := by decide +kernel
theorem d_Writer_tellExports_32 : decode c_Writer_tellExports 32 = .ok (.iload 4, 2) := by decide +kernel
theorem d_Writer_tellExports_34 : decode c_Writer_tellExports 34 = .ok (.iaload, 1) := by decide +kernel
theorem d_Writer_tellExports_35 : decode c_Writer_tellExports 35 = .ok (.baload, 1) := by decide +kernel
theorem d_Writer_tellExports_36 : decode c_Writer_tellExports 36 = .ok (.iload_n 2, 1) := by decide +kernel
theorem d_Writer_tellExports_37 : decode c_Writer_tellExports 37 = .ok (.if_icmp .eq 23, 3) := by decide +kernel
theorem d_Writer_tellExports_40 : decode c_Writer_tellExports 40 = .ok (.aload_n 0, 1) := by decide +kernel
theorem d_Writer_tellExports_41 : decode c_Writer_tellExports 41 = .ok (.getfield 18, 3) := by decide +kernel
theorem d_Writer_tellExports_44 : decode c_Writer_tellExports 44 = .ok (.iload_n 3, 1) := by decide +kernel
theorem d_Writer_tellExports_45 : decode c_Writer_tellExports 45 = .ok (.invokevirtual 41, 3) := by decide +kernel
theorem d_Writer_tellExports_48 : decode c_Writer_tellExports 48 = .ok (.iload_n 2, 1) := by decide +kernel
theorem d_Writer_tellExports_49 : decode c_Writer_tellExports 49 = .ok (.ifCond .ne 7, 3) := by decide +kernel
theorem d_Writer_tellExports_52 : decode c_Writer_tellExports 52 = .ok (.iconst 1, 1) := by decide +kernel
theorem d_Writer_tellExports_53 : decode c_Writer_tellExports 53 = .ok (.goto 4, 3) := by decide +kernel
theorem d_Writer_tellExports_56 : decode c_Writer_tellExports 56 = .ok (.iconst 0, 1) := by decide +kernel
theorem d_Writer_tellExports_57 : decode c_Writer_tellExports 57 = .ok (.istore_n 2, 1) := by decide +kernel
theorem d_Writer_tellExports_58 : decode c_Writer_tellExports 58 = .ok (.iconst 0, 1) := by decide +kernel
theorem d_Writer_tellExports_59 : decode c_Writer_tellExports 59 = .ok (.istore_n 3, 1) := by decide +kernel
theorem d_Writer_tellExports_60 : decode c_Writer_tellExports 60 = .ok (.iinc 3 1, 3) := by decide +kernel
theorem d_Writer_tellExports_63 : decode c_Writer_tellExports 63 = .ok (.iinc 4 1, 3) := by decide +kernel
theorem d_Writer_tellExports_66 : decode c_Writer_tellExports 66 = .ok (.goto (-51), 3) := by decide +kernel
theorem d_Writer_tellExports_69 : decode c_Writer_tellExports 69 = .ok (.aload_n 0, 1) := by decide +kernel
theorem d_Writer_tellExports_70 : decode c_Writer_tellExports 70 = .ok (.getfield 18, 3) := by decide +kernel
theorem d_Writer_tellExports_73 : decode c_Writer_tellExports 73 = .ok (.iload_n 3, 1) := by decide +kernel
theorem d_Writer_tellExports_74 : decode c_Writer_tellExports 74 = .ok (.invokevirtual 41, 3) := by decide +kernel
theorem d_Writer_tellExports_77 : decode c_Writer_tellExports 77 = .ok (.return_, 1) := by decide +kernel
abbrev ws_Writer_tell : List Cond := .code y_Writer_tell c_Writer_tell 3 none :: tb
theorem hd_Writer_tell : y_Writer_tell.cls = R_Writer ∧ y_Writer_tell.cls ≠ "java/lang/invoke/MethodHandle" ∧ y_Writer_tell.cls ≠ "java/lang/invoke/VarHandle" ∧ (parseMethodDescriptor y_Writer_tell.desc).map (fun d => d.parameters.length) = some 1 := by decide +kernel
theorem d_Writer_tell_0 : decode c_Writer_tell 0 = .ok (.iconst 0, 1) := by decide +kernel
theorem d_Writer_tell_1 : decode c_Writer_tell 1 = .ok (.istore_n 2, 1) := by decide +kernel
theorem d_Writer_tell_2 : decode c_Writer_tell 2 = .ok (.iload_n 2, 1) := by decide +kernel
theorem d_Writer_tell_3 : decode c_Writer_tell 3 = .ok (.aload_n 1, 1) := by decide +kernel
theorem d_Writer_tell_4 : decode c_Writer_tell 4 = .ok (.getfield 26, 3) := by decide +kernel
theorem d_Writer_tell_7 : decode c_Writer_tell 7 = .ok (.if_icmp .ge 20, 3) := by decide +kernel
theorem d_Writer_tell_10 : decode c_Writer_tell 10 = .ok (.aload_n 0, 1) := by decide +kernel
theorem d_Writer_tell_11 : decode c_Writer_tell 11 = .ok (.getfield 9, 3) := by decide +kernel
theorem d_Writer_tell_14 : decode c_Writer_tell 14 = .ok (.aload_n 1, 1) := by decide +kernel
theorem d_Writer_tell_15 : decode c_Writer_tell 15 = .ok (.iload_n 2, 1) := by decide +kernel
theorem d_Writer_tell_16 : decode c_Writer_tell 16 = .ok (.invokevirtual 32, 3) := by decide +kernel
theorem d_Writer_tell_19 : decode c_Writer_tell 19 = .ok (.iload_n 2, 1) := by decide +kernel
theorem d_Writer_tell_20 : decode c_Writer_tell 20 = .ok (.iastore, 1) := by decide +kernel
theorem d_Writer_tell_21 : decode c_Writer_tell 21 = .ok (.iinc 2 1, 3) := by decide +kernel
theorem d_Writer_tell_24 : decode c_Writer_tell 24 = .ok (.goto (-22), 3) := by decide +kernel
theorem d_Writer_tell_27 : decode c_Writer_tell 27 = .ok (.aload_n 0, 1) := by decide +kernel
theorem d_Writer_tell_28 : decode c_Writer_tell 28 = .ok (.getfield 18, 3) := by decide +kernel
theorem d_Writer_tell_31 : decode c_Writer_tell 31 = .ok (.invokevirtual 36, 3) := by decide +kernel
theorem d_Writer_tell_34 : decode c_Writer_tell 34 = .ok (.aload_n 0, 1) := by decide +kernel
theorem d_Writer_tell_35 : decode c_Writer_tell 35 = .ok (.getfield 18, 3) := by decide +kernel
theorem d_Writer_tell_38 : decode c_Writer_tell 38 = .ok (.aload_n 1, 1) := by decide +kernel
theorem d_Writer_tell_39 : decode c_Writer_tell 39 = .ok (.getfield 26, 3) := by decide +kernel
theorem d_Writer_tell_42 : decode c_Writer_tell 42 = .ok (.invokevirtual 41, 3) := by decide +kernel
theorem d_Writer_tell_45 : decode c_Writer_tell 45 = .ok (.iconst 0, 1) := by decide +kernel
theorem d_Writer_tell_46 : decode c_Writer_tell 46 = .ok (.istore_n 2, 1) := by decide +kernel
theorem d_Writer_tell_47 : decode c_Writer_tell 47 = .ok (.iload_n 2, 1) := by decide +kernel
theorem d_Writer_tell_48 : decode c_Writer_tell 48 = .ok (.aload_n 1, 1) := by decide +kernel
theorem d_Writer_tell_49 : decode c_Writer_tell 49 = .ok (.getfield 26, 3) := by decide +kernel
theorem d_Writer_tell_52 : decode c_Writer_tell 52 = .ok (.if_icmp .ge 64, 3) := by decide +kernel
theorem d_Writer_tell_55 : decode c_Writer_tell 55 = .ok (.aload_n 0, 1) := by decide +kernel
theorem d_Writer_tell_56 : decode c_Writer_tell 56 = .ok (.aload_n 1, 1) := by decide +kernel
theorem d_Writer_tell_57 : decode c_Writer_tell 57 = .ok (.iload_n 2, 1) := by decide +kernel
theorem d_Writer_tell_58 : decode c_Writer_tell 58 = .ok (.invokevirtual 45, 3) := by decide +kernel
theorem d_Writer_tell_61 : decode c_Writer_tell 61 = .ok (.aload_n 0, 1) := by decide +kernel
theorem d_Writer_tell_62 : decode c_Writer_tell 62 = .ok (.aload_n 1, 1) := by decide +kernel
theorem d_Writer_tell_63 : decode c_Writer_tell 63 = .ok (.iload_n 2, 1) := by decide +kernel
theorem d_Writer_tell_64 : decode c_Writer_tell 64 = .ok (.invokevirtual 49, 3) := by decide +kernel
theorem d_Writer_tell_67 : decode c_Writer_tell 67 = .ok (.aload_n 0, 1) := by decide +kernel
theorem d_Writer_tell_68 : decode c_Writer_tell 68 = .ok (.aload_n 1, 1) := by decide +kernel
theorem d_Writer_tell_69 : decode c_Writer_tell 69 = .ok (.aload_n 0, 1) := by decide +kernel
theorem d_Writer_tell_70 : decode c_Writer_tell 70 = .ok (.getfield 9, 3) := by decide +kernel
theorem d_Writer_tell_73 : decode c_Writer_tell 73 = .ok (.iload_n 2, 1) := by decide +kernel
theorem d_Writer_tell_74 : decode c_Writer_tell 74 = .ok (.iaload, 1) := by decide +kernel
theorem d_Writer_tell_75 : decode c_Writer_tell 75 = .ok (.invokevirtual 52, 3) := by decide +kernel
theorem d_Writer_tell_78 : decode c_Writer_tell 78 = .ok (.aload_n 0, 1) := by decide +kernel
theorem d_Writer_tell_79 : decode c_Writer_tell 79 = .ok (.getfield 22, 3) := by decide +kernel
theorem d_Writer_tell_82 : decode c_Writer_tell 82 = .ok (.ifCond .eq 17, 3) := by decide +kernel
theorem d_Writer_tell_85 : decode c_Writer_tell 85 = .ok (.aload_n 0, 1) := by decide +kernel
theorem d_Writer_tell_86 : decode c_Writer_tell 86 = .ok (.aload_n 1, 1) := by decide +kernel
theorem d_Writer_tell_87 : decode c_Writer_tell 87 = .ok (.aload_n 0, 1) := by decide +kernel
theorem d_Writer_tell_88 : decode c_Writer_tell 88 = .ok (.getfield 9, 3) := by decide +kernel
theorem d_Writer_tell_91 : decode c_Writer_tell 91 = .ok (.iload_n 2, 1) := by decide +kernel
theorem d_Writer_tell_92 : decode c_Writer_tell 92 = .ok (.iaload, 1) := by decide +kernel
theorem d_Writer_tell_93 : decode c_Writer_tell 93 = .ok (.invokevirtual 55, 3) := by decide +kernel
theorem d_Writer_tell_96 : decode c_Writer_tell 96 = .ok (.goto 14, 3) := by decide +kernel
theorem d_Writer_tell_99 : decode c_Writer_tell 99 = .ok (.aload_n 0, 1) := by decide +kernel
theorem d_Writer_tell_100 : decode c_Writer_tell 100 = .ok (.aload_n 1, 1) := by decide +kernel
theorem d_Writer_tell_101 : decode c_Writer_tell 101 = .ok (.aload_n 0, 1) := by decide +kernel
theorem d_Writer_tell_102 : decode c_Writer_tell 102 = .ok (.getfield 9, 3) := by decide +kernel
theorem d_Writer_tell_105 : decode c_Writer_tell 105 = .ok (.iload_n 2, 1) := by decide +kernel
theorem d_Writer_tell_106 : decode c_Writer_tell 106 = .ok (.iaload, 1) := by decide +kernel
theorem d_Writer_tell_107 : decode c_Writer_tell 107 = .ok (.invokevirtual 58, 3) := by decide +kernel
theorem d_Writer_tell_110 : decode c_Writer_tell 110 = .ok (.iinc 2 1, 3) := by decide +kernel
theorem d_Writer_tell_113 : decode c_Writer_tell 113 = .ok (.goto (-66), 3) := by decide +kernel
theorem d_Writer_tell_116 : decode c_Writer_tell 116 = .ok (.aload_n 1, 1) := by decide +kernel
theorem d_Writer_tell_117 : decode c_Writer_tell 117 = .ok (.getfield 26, 3) := by decide +kernel
theorem d_Writer_tell_120 : decode c_Writer_tell 120 = .ok (.ifCond .le 12, 3) := by decide +kernel
theorem d_Writer_tell_123 : decode c_Writer_tell 123 = .ok (.aload_n 0, 1) := by decide +kernel
theorem d_Writer_tell_124 : decode c_Writer_tell 124 = .ok (.getfield 18, 3) := by decide +kernel
theorem d_Writer_tell_127 : decode c_Writer_tell 127 = .ok (.iconst 0, 1) := by decide +kernel
theorem d_Writer_tell_128 : decode c_Writer_tell 128 = .ok (.iconst (-1), 1) := by decide +kernel
theorem d_Writer_tell_129 : decode c_Writer_tell 129 = .ok (.invokevirtual 61, 3) := by decide +kernel
theorem d_Writer_tell_132 : decode c_Writer_tell 132 = .ok (.aload_n 0, 1) := by decide +kernel
theorem d_Writer_tell_133 : decode c_Writer_tell 133 = .ok (.aload_n 1, 1) := by decide +kernel
theorem d_Writer_tell_134 : decode c_Writer_tell 134 = .ok (.invokevirtual 65, 3) := by decide +kernel
theorem d_Writer_tell_137 : decode c_Writer_tell 137 = .ok (.aload_n 0, 1) := by decide +kernel
theorem d_Writer_tell_138 : decode c_Writer_tell 138 = .ok (.getfield 18, 3) := by decide +kernel
theorem d_Writer_tell_141 : decode c_Writer_tell 141 = .ok (.invokevirtual 69, 3) := by decide +kernel
theorem d_Writer_tell_144 : decode c_Writer_tell 144 = .ok (.return_, 1) := by decide +kernel
/-! P_Writer_tellSize -/
def j_P_Writer_tellSize_98_11 (sy : Sy) (x3_2 : Int32) (pb_8 : Pb) (w_9 : Br) (x5_10 : Int32) : Option (Pb × Br) := bd (f_P_PlainBits_putBit pb_8 w_9 1 (-1)) <| fun (pb_12, w_13) => gd (inb x3_2 40) <| bd (f_P_Bits_putNumber pb_12 w_13 ((Sy_wd sy x3_2.toNatClampNeg) - x5_10)) <| fun (pb_16, w_17) => some (pb_16, w_17)
theorem mo_j_P_Writer_tellSize_98_11 (sy : Sy) (x3_2 : Int32) (pb_8 : Pb) (w_9 : Br) (x5_10 : Int32) : mle (j_P_Writer_tellSize_98_11 sy x3_2 pb_8 w_9 x5_10) (Br_byL w_9) (fun r : Pb × Br => Br_byL r.2) := by
  rw [j_P_Writer_tellSize_98_11]
  refine mle_bd (fun y9 hy9 => ?_)
  obtain ⟨pb_12, w_13⟩ := y9
  try dsimp only
  refine mle_le (mo_P_PlainBits_putBit _ hy9) ?_
  try dsimp only
  refine mle_gd ?_
  refine mle_bd (fun y9 hy9 => ?_)
  obtain ⟨pb_16, w_17⟩ := y9
  try dsimp only
  refine mle_le (mo_P_Bits_putNumber _ hy9) ?_
  try dsimp only
  exact mle_some (Nat.le_refl _)
def j_P_Writer_tellSize_77_22 (sy : Sy) (x3_2 : Int32) (z0_3 : Int32) (pb_20 : Pb) (w_21 : Br) : Option (Pb × Br) := gd (inb x3_2 40) <| bd (f_P_Bits_putNumber pb_20 w_21 (((Sy_ht sy x3_2.toNatClampNeg) - z0_3) - 1)) <| fun (pb_24, w_25) => j_P_Writer_tellSize_98_11 sy x3_2 pb_24 w_25 0
theorem mo_j_P_Writer_tellSize_77_22 (sy : Sy) (x3_2 : Int32) (z0_3 : Int32) (pb_20 : Pb) (w_21 : Br) : mle (j_P_Writer_tellSize_77_22 sy x3_2 z0_3 pb_20 w_21) (Br_byL w_21) (fun r : Pb × Br => Br_byL r.2) := by
  rw [j_P_Writer_tellSize_77_22]
  refine mle_gd ?_
  refine mle_bd (fun y9 hy9 => ?_)
  obtain ⟨pb_24, w_25⟩ := y9
  try dsimp only
  refine mle_le (mo_P_Bits_putNumber _ hy9) ?_
  try dsimp only
  exact mo_j_P_Writer_tellSize_98_11 sy x3_2 pb_24 w_25 0
def j_P_Writer_tellSize_51_6 (pb : Pb) (w : Br) (sy : Sy) (x2 : Int32) (x3_2 : Int32) (z0_3 : Int32) (z0_5 : Int32) : Option (Pb × Br) := gd (inb x3_2 40) <| (if (Sy_ht sy x3_2.toNatClampNeg) = z0_3 then j_P_Writer_tellSize_98_11 sy x3_2 pb w z0_5 else (if x2 ≤ 0 then j_P_Writer_tellSize_77_22 sy x3_2 z0_3 pb w else bd (f_P_PlainBits_putBit pb w 0 (-1)) <| fun (pb_28, w_29) => j_P_Writer_tellSize_77_22 sy x3_2 z0_3 pb_28 w_29))
theorem mo_j_P_Writer_tellSize_51_6 (pb : Pb) (w : Br) (sy : Sy) (x2 : Int32) (x3_2 : Int32) (z0_3 : Int32) (z0_5 : Int32) : mle (j_P_Writer_tellSize_51_6 pb w sy x2 x3_2 z0_3 z0_5) (Br_byL w) (fun r : Pb × Br => Br_byL r.2) := by
  rw [j_P_Writer_tellSize_51_6]
  refine mle_gd ?_
  refine mle_if (fun _ => ?_) (fun _ => ?_)
  · exact mo_j_P_Writer_tellSize_98_11 sy x3_2 pb w z0_5
  · refine mle_if (fun _ => ?_) (fun _ => ?_)
    · exact mo_j_P_Writer_tellSize_77_22 sy x3_2 z0_3 pb w
    · refine mle_bd (fun y9 hy9 => ?_)
      obtain ⟨pb_28, w_29⟩ := y9
      try dsimp only
      refine mle_le (mo_P_PlainBits_putBit _ hy9) ?_
      try dsimp only
      exact mo_j_P_Writer_tellSize_77_22 sy x3_2 z0_3 pb_28 w_29
def j_P_Writer_tellSize_28_4 (wr : Wr) (pb : Pb) (w : Br) (sy : Sy) (x2 : Int32) (x3_2 : Int32) (z0_3 : Int32) : Option (Pb × Br) := (if x2 ≤ 0 then j_P_Writer_tellSize_51_6 pb w sy x2 x3_2 z0_3 0 else gd (inb (x2 - 1) 40) <| gd (inb (Wr_od wr (x2 - 1).toNatClampNeg) 40) <| j_P_Writer_tellSize_51_6 pb w sy x2 x3_2 z0_3 (Sy_wd sy (Wr_od wr (x2 - 1).toNatClampNeg).toNatClampNeg))
theorem mo_j_P_Writer_tellSize_28_4 (wr : Wr) (pb : Pb) (w : Br) (sy : Sy) (x2 : Int32) (x3_2 : Int32) (z0_3 : Int32) : mle (j_P_Writer_tellSize_28_4 wr pb w sy x2 x3_2 z0_3) (Br_byL w) (fun r : Pb × Br => Br_byL r.2) := by
  rw [j_P_Writer_tellSize_28_4]
  refine mle_if (fun _ => ?_) (fun _ => ?_)
  · exact mo_j_P_Writer_tellSize_51_6 pb w sy x2 x3_2 z0_3 0
  · refine mle_gd ?_
    refine mle_gd ?_
    exact mo_j_P_Writer_tellSize_51_6 pb w sy x2 x3_2 z0_3 (Sy_wd sy (Wr_od wr (x2 - 1).toNatClampNeg).toNatClampNeg)
def f_P_Writer_tellSize (wr : Wr) (pb : Pb) (w : Br) (sy : Sy) (x2 : Int32) : Option (Pb × Br) := gd (inb x2 40) <| lt' (Wr_od wr x2.toNatClampNeg) <| fun x3_2 => (if x2 ≤ 0 then j_P_Writer_tellSize_28_4 wr pb w sy x2 x3_2 0 else gd (inb (x2 - 1) 40) <| gd (inb (Wr_od wr (x2 - 1).toNatClampNeg) 40) <| j_P_Writer_tellSize_28_4 wr pb w sy x2 x3_2 (Sy_ht sy (Wr_od wr (x2 - 1).toNatClampNeg).toNatClampNeg))
theorem mo_P_Writer_tellSize {wr : Wr} {pb : Pb} {w : Br} {sy : Sy} {x2 : Int32} : mle (f_P_Writer_tellSize wr pb w sy x2) (Br_byL w) (fun r : Pb × Br => Br_byL r.2) := by
  rw [f_P_Writer_tellSize]
  refine mle_gd ?_
  refine mle_lt (fun x3_2 ex3_2 => ?_)
  refine mle_if (fun _ => ?_) (fun _ => ?_)
  · exact mo_j_P_Writer_tellSize_28_4 wr pb w sy x2 x3_2 0
  · refine mle_gd ?_
    refine mle_gd ?_
    exact mo_j_P_Writer_tellSize_28_4 wr pb w sy x2 x3_2 (Sy_ht sy (Wr_od wr (x2 - 1).toNatClampNeg).toNatClampNeg)
section
variable {p : Program} {l : Launch} {e : Env} {R : Room} {s : State} {m : MethodId} {args : Array Value} {below : List Frame} {meth : Method} {c : Code} {Q : State → Prop} {A : Nat → Prop}
set_option maxHeartbeats 4000000 in
set_option maxRecDepth 100000 in
theorem B_P_Writer_tellSize {cells slots : Nat} {l0 : Nat} {dC : Nat → ClassId} {dI : Nat → Nat → Nat} {cI cZ cJ : ClassId} {wr_a : Nat → Nat} {pb_a : Nat → Nat} {w_a : Nat} {sy_a : Nat → Nat} {lk_v : Nat} {w_b : Nat} {wr : Wr} {pb : Pb} {w : Br} {sy : Sy} {x2 : Int32} {res : Pb × Br} (C0 : cxt p c m s args R 0 0 R_Writer c_Writer_tellSize tb 6 (dC, dI) vwCl (TYS cI cZ cJ) A 6 175) (hRc : gR l0 ((fun r : Pb × Br => Br_byL r.2) res) R)
    (hr123 : ∀ (H : Heap) (locs : List Loc) (ls : Array Slot) (cells slots : Nat) (w_b : Nat) (pb' : Pb) (w' : Br), gok R l0 (Br_byL w') cells slots → va_P (dC, dI) vwCl (wWr cI cZ cJ wr_a (pb_a 0) wr ++ wPb cI cZ cJ pb_a w_a lk_v pb' ++ wBr cI cZ cJ w_a w_b w' ++ wSy cI cZ cJ sy_a sy) H → va_D A (wWr cI cZ cJ wr_a (pb_a 0) wr ++ wPb cI cZ cJ pb_a w_a lk_v pb' ++ wBr cI cZ cJ w_a w_b w' ++ wSy cI cZ cJ sy_a sy) → va_S A s.heap H locs → some (pb', w') = some res → W p l e R s m args below meth c H locs cells slots Q (F0 m 123 ls []))
    {H : Heap} {locs : List Loc} {ls : Array Slot} (hg : gok R l0 (Br_byL w) cells slots) (hP : va_P (dC, dI) vwCl (wWr cI cZ cJ wr_a (pb_a 0) wr ++ wPb cI cZ cJ pb_a w_a lk_v pb ++ wBr cI cZ cJ w_a w_b w ++ wSy cI cZ cJ sy_a sy) H) (hD : va_D A (wWr cI cZ cJ wr_a (pb_a 0) wr ++ wPb cI cZ cJ pb_a w_a lk_v pb ++ wBr cI cZ cJ w_a w_b w ++ wSy cI cZ cJ sy_a sy)) (hS : va_S A s.heap H locs) (hl : lv_has ls 6 [(0, .ref (wr_a 0)), (1, .ref (sy_a 0)), (2, .int x2)]) (hf : f_P_Writer_tellSize wr pb w sy x2 = some res) : W p l e R s m args below meth c H locs cells slots Q (F0 m 0 ls []) := by
  obtain ⟨hx, hb, hml, hown, hts, hK, hA, hRf, hRl, hN, _⟩ := id C0
  rw [f_P_Writer_tellSize] at hf
  refine lv_aload_n hx hb d_Writer_tellSize_0 rfl (lv_at hl 0 rfl) ?_
  refine va_get (D := (dC, dI)) (ci := 4) (v := .ref (wr_a 1)) (C := R_Writer) (T := T_Writer) (N := 4) hx hb hts in_Writer hown hK hP 0 rfl rfl 2 (by decide) (hts _ t_166) (fun _ h9 => h9) rfl d_Writer_tellSize_1 ?_
  refine lv_iload_n hx hb d_Writer_tellSize_4 rfl (lv_at hl 2 rfl) ?_
  obtain ⟨h_1, hf⟩ := gd_ex hf
  refine va_iald (f := Wr_od wr) hx hb hK hP 1 0 rfl rfl (inb_in h_1) d_Writer_tellSize_5 ?_
  obtain ⟨x3_2, ex3_2, hf⟩ := lt_ex hf
  try dsimp only at hf
  refine tp_i ex3_2 ?_
  refine lv_istore_n (lv' := [(3, .int x3_2), (0, .ref (wr_a 0)), (1, .ref (sy_a 0)), (2, .int x2)]) hx hb d_Writer_tellSize_6 rfl hl (by decide) rfl (fun ls hl => ?_)
  refine lv_iload_n hx hb d_Writer_tellSize_7 rfl (lv_at hl 3 rfl) ?_
  have J28_3 : ∀ (H : Heap) (locs : List Loc) (ls : Array Slot) (cells slots : Nat) (w_b : Nat) (z0_3 : Int32), gok R l0 (Br_byL w) cells slots → va_P (dC, dI) vwCl (wWr cI cZ cJ wr_a (pb_a 0) wr ++ wPb cI cZ cJ pb_a w_a lk_v pb ++ wBr cI cZ cJ w_a w_b w ++ wSy cI cZ cJ sy_a sy) H → va_D A (wWr cI cZ cJ wr_a (pb_a 0) wr ++ wPb cI cZ cJ pb_a w_a lk_v pb ++ wBr cI cZ cJ w_a w_b w ++ wSy cI cZ cJ sy_a sy) → va_S A s.heap H locs → lv_has ls 6 [(0, .ref (wr_a 0)), (1, .ref (sy_a 0)), (2, .int x2), (3, .int x3_2)] → j_P_Writer_tellSize_28_4 wr pb w sy x2 x3_2 z0_3 = some res → W p l e R s m args below meth c H locs cells slots Q (F0 m 28 ls [.int z0_3]) := by
    intro H locs ls cells slots w_b z0_3 hg hP hD hS hl hf
    rw [j_P_Writer_tellSize_28_4] at hf
    refine lv_istore (lv' := [(4, .int z0_3), (0, .ref (wr_a 0)), (1, .ref (sy_a 0)), (2, .int x2), (3, .int x3_2)]) hx hb d_Writer_tellSize_28 hl (by decide) rfl (fun ls hl => ?_)
    refine lv_iload_n hx hb d_Writer_tellSize_30 rfl (lv_at hl 3 rfl) ?_
    have J51_5 : ∀ (H : Heap) (locs : List Loc) (ls : Array Slot) (cells slots : Nat) (w_b : Nat) (z0_5 : Int32), gok R l0 (Br_byL w) cells slots → va_P (dC, dI) vwCl (wWr cI cZ cJ wr_a (pb_a 0) wr ++ wPb cI cZ cJ pb_a w_a lk_v pb ++ wBr cI cZ cJ w_a w_b w ++ wSy cI cZ cJ sy_a sy) H → va_D A (wWr cI cZ cJ wr_a (pb_a 0) wr ++ wPb cI cZ cJ pb_a w_a lk_v pb ++ wBr cI cZ cJ w_a w_b w ++ wSy cI cZ cJ sy_a sy) → va_S A s.heap H locs → lv_has ls 6 [(0, .ref (wr_a 0)), (1, .ref (sy_a 0)), (2, .int x2), (3, .int x3_2), (4, .int z0_3)] → j_P_Writer_tellSize_51_6 pb w sy x2 x3_2 z0_3 z0_5 = some res → W p l e R s m args below meth c H locs cells slots Q (F0 m 51 ls [.int z0_5]) := by
      intro H locs ls cells slots w_b z0_5 hg hP hD hS hl hf
      rw [j_P_Writer_tellSize_51_6] at hf
      refine lv_istore (lv' := [(5, .int z0_5), (0, .ref (wr_a 0)), (1, .ref (sy_a 0)), (2, .int x2), (3, .int x3_2), (4, .int z0_3)]) hx hb d_Writer_tellSize_51 hl (by decide) rfl (fun ls hl => ?_)
      refine lv_aload_n hx hb d_Writer_tellSize_53 rfl (lv_at hl 2 rfl) ?_
      refine va_get (D := (dC, dI)) (ci := 0) (v := .ref (sy_a 2)) (C := R_Symbols) (T := T_Symbols) (N := 10) hx hb hts in_Symbols hown hK hP 6 rfl rfl 1 (by decide) (hts _ t_211) (fun _ h9 => h9) rfl d_Writer_tellSize_54 ?_
      refine lv_iload_n hx hb d_Writer_tellSize_57 rfl (lv_at hl 4 rfl) ?_
      obtain ⟨h_7, hf⟩ := gd_ex hf
      refine va_iald (f := Sy_ht sy) hx hb hK hP 8 0 rfl rfl (inb_in h_7) d_Writer_tellSize_58 ?_
      refine lv_iload hx hb d_Writer_tellSize_59 (lv_at hl 5 rfl) ?_
      have J98_10 : ∀ (H : Heap) (locs : List Loc) (ls : Array Slot) (cells slots : Nat) (w_b : Nat) (pb_8 : Pb) (w_9 : Br) (x5_10 : Int32), gok R l0 (Br_byL w_9) cells slots → va_P (dC, dI) vwCl (wWr cI cZ cJ wr_a (pb_a 0) wr ++ wPb cI cZ cJ pb_a w_a lk_v pb_8 ++ wBr cI cZ cJ w_a w_b w_9 ++ wSy cI cZ cJ sy_a sy) H → va_D A (wWr cI cZ cJ wr_a (pb_a 0) wr ++ wPb cI cZ cJ pb_a w_a lk_v pb_8 ++ wBr cI cZ cJ w_a w_b w_9 ++ wSy cI cZ cJ sy_a sy) → va_S A s.heap H locs → lv_has ls 6 [(0, .ref (wr_a 0)), (1, .ref (sy_a 0)), (3, .int x3_2), (5, .int x5_10)] → j_P_Writer_tellSize_98_11 sy x3_2 pb_8 w_9 x5_10 = some res → W p l e R s m args below meth c H locs cells slots Q (F0 m 98 ls []) := by
        intro H locs ls cells slots w_b pb_8 w_9 x5_10 hg hP hD hS hl hf
        rw [j_P_Writer_tellSize_98_11] at hf
        refine lv_aload_n hx hb d_Writer_tellSize_98 rfl (lv_at hl 0 rfl) ?_
        refine va_get (D := (dC, dI)) (ci := 4) (v := .ref (pb_a 0)) (C := R_Writer) (T := T_Writer) (N := 4) hx hb hts in_Writer hown hK hP 0 rfl rfl 0 (by decide) (hts _ t_164) (fun _ h9 => h9) rfl d_Writer_tellSize_99 ?_
        refine lv_iconst (v := 1) hx hb d_Writer_tellSize_102 (by decide) ?_
        refine lv_iconst (v := (-1)) hx hb d_Writer_tellSize_103 (by decide) ?_
        obtain ⟨⟨pb_12, w_13⟩, hf1, hf⟩ := bd_ex hf
        try dsimp only at hf
        have hm0 := mo_P_PlainBits_putBit _ hf1
        try dsimp only at hm0
        have hm : Br_byL w_13 ≤ (fun r : Pb × Br => Br_byL r.2) res := by
          refine mle_use (π := (fun r : Pb × Br => Br_byL r.2)) hf ?_
          refine mle_gd ?_
          refine mle_bd (fun y9 hy9 => ?_)
          obtain ⟨pb_16, w_17⟩ := y9
          try dsimp only
          refine mle_le (mo_P_Bits_putNumber _ hy9) ?_
          try dsimp only
          exact mle_some (Nat.le_refl _)
        have hPc := hP.sub (ws' := (wPb cI cZ cJ pb_a w_a lk_v pb_8 ++ wBr cI cZ cJ w_a w_b w_9)) [3, 4, 5] rfl
        have hDc := hD.sub (ws' := (wPb cI cZ cJ pb_a w_a lk_v pb_8 ++ wBr cI cZ cJ w_a w_b w_9)) [3, 4, 5] (by decide) rfl
        have hFc := va_free (wc := (wPb cI cZ cJ pb_a w_a lk_v pb_8 ++ wBr cI cZ cJ w_a w_b w_9)) hD hS hA [3, 4, 5] rfl
        refine va_callv (va_runU (As := [.int 1, .int (-1)]) (rest := []) ⟨hx, hb, hml, hown, hts⟩ (k_P_PlainBits_putBit l dC dI cI cZ cJ pb_a w_a w_b lk_v H.size hf1) (va_cwA 2 hts (gU t_385 t_333 t_377 t_378 t_59 t_379) rfl rfl rfl (hN.2 _ (by decide +kernel)) hdx_Bits_putBit ⟨Nat.le_trans (Nat.le_of_ble_eq_true rfl) hRf, Nat.le_trans (Nat.le_of_ble_eq_true rfl) hRl⟩) ⟨kP_blind, va_recv hK hP (ci := 2) (q0 := 3) rfl rfl, kP_at hPc hK hDc hN⟩ rfl rfl hl.1 rfl (lv_room (Nat.le_of_ble_eq_true rfl)) d_Writer_tellSize_104 (g_room hg hm0 hm hRc)) hS (fun q _ h => hFc q h) hFc (fun w_q_14 t H1 locs ht hvm hw hB hz1 hk1 hS => ?_)
        have hg := g_step (L0 := Br_byL w_9) (L1 := Br_byL w_13) hg hm0 hm hRc
        generalize cells + (Br_byL w_13 - Br_byL w_9) = cells at hg ⊢
        generalize slots + 2 * (Br_byL w_13 - Br_byL w_9) = slots at hg ⊢
        obtain ⟨hP, hD⟩ := kQ_join (wr := (wWr cI cZ cJ wr_a (pb_a 0) wr ++ wSy cI cZ cJ sy_a sy)) (w1 := (wPb cI cZ cJ pb_a w_a lk_v pb_12 ++ wBr cI cZ cJ w_a w_q_14 w_13)) hP hD [3, 4, 5] [0, 1, 2, 6, 7, 8, 9, 10, 11, 12, 13, 14, 15] rfl rfl (by decide) (by decide) ht hk1 hFc hB
        generalize H1 = H at hP hS ⊢
        have hP : va_P (dC, dI) vwCl (wWr cI cZ cJ wr_a (pb_a 0) wr ++ wPb cI cZ cJ pb_a w_a lk_v pb_12 ++ wBr cI cZ cJ w_a w_q_14 w_13 ++ wSy cI cZ cJ sy_a sy) H := hP.sub [0, 1, 2, 13, 14, 15, 3, 4, 5, 6, 7, 8, 9, 10, 11, 12] rfl
        have hD : va_D A (wWr cI cZ cJ wr_a (pb_a 0) wr ++ wPb cI cZ cJ pb_a w_a lk_v pb_12 ++ wBr cI cZ cJ w_a w_q_14 w_13 ++ wSy cI cZ cJ sy_a sy) := hD.sub [0, 1, 2, 13, 14, 15, 3, 4, 5, 6, 7, 8, 9, 10, 11, 12] (by decide) rfl
        refine lv_aload_n hx hb d_Writer_tellSize_107 rfl (lv_at hl 0 rfl) ?_
        refine va_get (D := (dC, dI)) (ci := 4) (v := .ref (pb_a 0)) (C := R_Writer) (T := T_Writer) (N := 4) hx hb hts in_Writer hown hK hP 0 rfl rfl 0 (by decide) (hts _ t_164) (fun _ h9 => h9) rfl d_Writer_tellSize_108 ?_
        refine lv_aload_n hx hb d_Writer_tellSize_111 rfl (lv_at hl 1 rfl) ?_
        refine va_get (D := (dC, dI)) (ci := 0) (v := .ref (sy_a 1)) (C := R_Symbols) (T := T_Symbols) (N := 10) hx hb hts in_Symbols hown hK hP 6 rfl rfl 0 (by decide) (hts _ t_207) (fun _ h9 => h9) rfl d_Writer_tellSize_112 ?_
        refine lv_iload_n hx hb d_Writer_tellSize_115 rfl (lv_at hl 2 rfl) ?_
        obtain ⟨h_15, hf⟩ := gd_ex hf
        refine va_iald (f := Sy_wd sy) hx hb hK hP 7 0 rfl rfl (inb_in h_15) d_Writer_tellSize_116 ?_
        refine lv_iload hx hb d_Writer_tellSize_117 (lv_at hl 3 rfl) ?_
        refine lv_isub hx hb d_Writer_tellSize_119 ?_
        obtain ⟨⟨pb_16, w_17⟩, hf1, hf⟩ := bd_ex hf
        try dsimp only at hf
        have hm0 := mo_P_Bits_putNumber _ hf1
        try dsimp only at hm0
        have hm : Br_byL w_17 ≤ (fun r : Pb × Br => Br_byL r.2) res := by
          refine mle_use (π := (fun r : Pb × Br => Br_byL r.2)) hf ?_
          exact mle_some (Nat.le_refl _)
        have hPc := hP.sub (ws' := (wPb cI cZ cJ pb_a w_a lk_v pb_12 ++ wBr cI cZ cJ w_a w_q_14 w_13)) [3, 4, 5] rfl
        have hDc := hD.sub (ws' := (wPb cI cZ cJ pb_a w_a lk_v pb_12 ++ wBr cI cZ cJ w_a w_q_14 w_13)) [3, 4, 5] (by decide) rfl
        have hFc := va_free (wc := (wPb cI cZ cJ pb_a w_a lk_v pb_12 ++ wBr cI cZ cJ w_a w_q_14 w_13)) hD hS hA [3, 4, 5] rfl
        refine va_callv (va_runU (As := [.int ((Sy_wd sy x3_2.toNatClampNeg) - x5_10)]) (rest := []) ⟨hx, hb, hml, hown, hts⟩ (k_P_Bits_putNumber l dC dI cI cZ cJ pb_a w_a w_q_14 lk_v H.size hf1) (va_cwU 1 hts (gU t_319 t_321 t_323 t_320 t_57 t_324) rfl rfl rfl rfl hd_Bits_putNumber.2 ⟨Nat.le_trans (Nat.le_of_ble_eq_true rfl) hRf, Nat.le_trans (Nat.le_of_ble_eq_true rfl) hRl⟩) ⟨kP_blind, va_recv hK hP (ci := 2) (q0 := 3) rfl rfl, kP_at hPc hK hDc hN⟩ rfl rfl hl.1 rfl (lv_room (Nat.le_of_ble_eq_true rfl)) d_Writer_tellSize_120 (g_room hg hm0 hm hRc)) hS (fun q _ h => hFc q h) hFc (fun w_q_18 t H1 locs ht hvm hw hB hz1 hk1 hS => ?_)
        have hg := g_step (L0 := Br_byL w_13) (L1 := Br_byL w_17) hg hm0 hm hRc
        generalize cells + (Br_byL w_17 - Br_byL w_13) = cells at hg ⊢
        generalize slots + 2 * (Br_byL w_17 - Br_byL w_13) = slots at hg ⊢
        obtain ⟨hP, hD⟩ := kQ_join (wr := (wWr cI cZ cJ wr_a (pb_a 0) wr ++ wSy cI cZ cJ sy_a sy)) (w1 := (wPb cI cZ cJ pb_a w_a lk_v pb_16 ++ wBr cI cZ cJ w_a w_q_18 w_17)) hP hD [3, 4, 5] [0, 1, 2, 6, 7, 8, 9, 10, 11, 12, 13, 14, 15] rfl rfl (by decide) (by decide) ht hk1 hFc hB
        generalize H1 = H at hP hS ⊢
        have hP : va_P (dC, dI) vwCl (wWr cI cZ cJ wr_a (pb_a 0) wr ++ wPb cI cZ cJ pb_a w_a lk_v pb_16 ++ wBr cI cZ cJ w_a w_q_18 w_17 ++ wSy cI cZ cJ sy_a sy) H := hP.sub [0, 1, 2, 13, 14, 15, 3, 4, 5, 6, 7, 8, 9, 10, 11, 12] rfl
        have hD : va_D A (wWr cI cZ cJ wr_a (pb_a 0) wr ++ wPb cI cZ cJ pb_a w_a lk_v pb_16 ++ wBr cI cZ cJ w_a w_q_18 w_17 ++ wSy cI cZ cJ sy_a sy) := hD.sub [0, 1, 2, 13, 14, 15, 3, 4, 5, 6, 7, 8, 9, 10, 11, 12] (by decide) rfl
        exact hr123 _ _ _ _ _ _ pb_16 w_17 hg hP hD hS hf
      refine lv_icmp_eq (tgt := 98) hx hb d_Writer_tellSize_61 (by decide) (fun c_19 => ?_) (fun c_19 => ?_)
      · rw [if_pos c_19] at hf
        exact J98_10 _ _ _ _ _ _ pb w z0_5 hg hP hD hS (lv_sub hl [1, 2, 4, 0] rfl) hf
      · rw [if_neg c_19] at hf
        refine lv_iload_n hx hb d_Writer_tellSize_64 rfl (lv_at hl 3 rfl) ?_
        have J77_21 : ∀ (H : Heap) (locs : List Loc) (ls : Array Slot) (cells slots : Nat) (w_b : Nat) (pb_20 : Pb) (w_21 : Br), gok R l0 (Br_byL w_21) cells slots → va_P (dC, dI) vwCl (wWr cI cZ cJ wr_a (pb_a 0) wr ++ wPb cI cZ cJ pb_a w_a lk_v pb_20 ++ wBr cI cZ cJ w_a w_b w_21 ++ wSy cI cZ cJ sy_a sy) H → va_D A (wWr cI cZ cJ wr_a (pb_a 0) wr ++ wPb cI cZ cJ pb_a w_a lk_v pb_20 ++ wBr cI cZ cJ w_a w_b w_21 ++ wSy cI cZ cJ sy_a sy) → va_S A s.heap H locs → lv_has ls 6 [(0, .ref (wr_a 0)), (1, .ref (sy_a 0)), (3, .int x3_2), (4, .int z0_3)] → j_P_Writer_tellSize_77_22 sy x3_2 z0_3 pb_20 w_21 = some res → W p l e R s m args below meth c H locs cells slots Q (F0 m 77 ls []) := by
          intro H locs ls cells slots w_b pb_20 w_21 hg hP hD hS hl hf
          rw [j_P_Writer_tellSize_77_22] at hf
          refine lv_aload_n hx hb d_Writer_tellSize_77 rfl (lv_at hl 0 rfl) ?_
          refine va_get (D := (dC, dI)) (ci := 4) (v := .ref (pb_a 0)) (C := R_Writer) (T := T_Writer) (N := 4) hx hb hts in_Writer hown hK hP 0 rfl rfl 0 (by decide) (hts _ t_164) (fun _ h9 => h9) rfl d_Writer_tellSize_78 ?_
          refine lv_aload_n hx hb d_Writer_tellSize_81 rfl (lv_at hl 1 rfl) ?_
          refine va_get (D := (dC, dI)) (ci := 0) (v := .ref (sy_a 2)) (C := R_Symbols) (T := T_Symbols) (N := 10) hx hb hts in_Symbols hown hK hP 6 rfl rfl 1 (by decide) (hts _ t_211) (fun _ h9 => h9) rfl d_Writer_tellSize_82 ?_
          refine lv_iload_n hx hb d_Writer_tellSize_85 rfl (lv_at hl 2 rfl) ?_
          obtain ⟨h_23, hf⟩ := gd_ex hf
          refine va_iald (f := Sy_ht sy) hx hb hK hP 8 0 rfl rfl (inb_in h_23) d_Writer_tellSize_86 ?_
          refine lv_iload hx hb d_Writer_tellSize_87 (lv_at hl 3 rfl) ?_
          refine lv_isub hx hb d_Writer_tellSize_89 ?_
          refine lv_iconst (v := 1) hx hb d_Writer_tellSize_90 (by decide) ?_
          refine lv_isub hx hb d_Writer_tellSize_91 ?_
          obtain ⟨⟨pb_24, w_25⟩, hf1, hf⟩ := bd_ex hf
          try dsimp only at hf
          have hm0 := mo_P_Bits_putNumber _ hf1
          try dsimp only at hm0
          have hm : Br_byL w_25 ≤ (fun r : Pb × Br => Br_byL r.2) res := by
            refine mle_use (π := (fun r : Pb × Br => Br_byL r.2)) hf ?_
            exact mo_j_P_Writer_tellSize_98_11 sy x3_2 pb_24 w_25 0
          have hPc := hP.sub (ws' := (wPb cI cZ cJ pb_a w_a lk_v pb_20 ++ wBr cI cZ cJ w_a w_b w_21)) [3, 4, 5] rfl
          have hDc := hD.sub (ws' := (wPb cI cZ cJ pb_a w_a lk_v pb_20 ++ wBr cI cZ cJ w_a w_b w_21)) [3, 4, 5] (by decide) rfl
          have hFc := va_free (wc := (wPb cI cZ cJ pb_a w_a lk_v pb_20 ++ wBr cI cZ cJ w_a w_b w_21)) hD hS hA [3, 4, 5] rfl
          refine va_callv (va_runU (As := [.int (((Sy_ht sy x3_2.toNatClampNeg) - z0_3) - 1)]) (rest := []) ⟨hx, hb, hml, hown, hts⟩ (k_P_Bits_putNumber l dC dI cI cZ cJ pb_a w_a w_b lk_v H.size hf1) (va_cwU 1 hts (gU t_319 t_321 t_323 t_320 t_57 t_324) rfl rfl rfl rfl hd_Bits_putNumber.2 ⟨Nat.le_trans (Nat.le_of_ble_eq_true rfl) hRf, Nat.le_trans (Nat.le_of_ble_eq_true rfl) hRl⟩) ⟨kP_blind, va_recv hK hP (ci := 2) (q0 := 3) rfl rfl, kP_at hPc hK hDc hN⟩ rfl rfl hl.1 rfl (lv_room (Nat.le_of_ble_eq_true rfl)) d_Writer_tellSize_92 (g_room hg hm0 hm hRc)) hS (fun q _ h => hFc q h) hFc (fun w_q_26 t H1 locs ht hvm hw hB hz1 hk1 hS => ?_)
          have hg := g_step (L0 := Br_byL w_21) (L1 := Br_byL w_25) hg hm0 hm hRc
          generalize cells + (Br_byL w_25 - Br_byL w_21) = cells at hg ⊢
          generalize slots + 2 * (Br_byL w_25 - Br_byL w_21) = slots at hg ⊢
          obtain ⟨hP, hD⟩ := kQ_join (wr := (wWr cI cZ cJ wr_a (pb_a 0) wr ++ wSy cI cZ cJ sy_a sy)) (w1 := (wPb cI cZ cJ pb_a w_a lk_v pb_24 ++ wBr cI cZ cJ w_a w_q_26 w_25)) hP hD [3, 4, 5] [0, 1, 2, 6, 7, 8, 9, 10, 11, 12, 13, 14, 15] rfl rfl (by decide) (by decide) ht hk1 hFc hB
          generalize H1 = H at hP hS ⊢
          have hP : va_P (dC, dI) vwCl (wWr cI cZ cJ wr_a (pb_a 0) wr ++ wPb cI cZ cJ pb_a w_a lk_v pb_24 ++ wBr cI cZ cJ w_a w_q_26 w_25 ++ wSy cI cZ cJ sy_a sy) H := hP.sub [0, 1, 2, 13, 14, 15, 3, 4, 5, 6, 7, 8, 9, 10, 11, 12] rfl
          have hD : va_D A (wWr cI cZ cJ wr_a (pb_a 0) wr ++ wPb cI cZ cJ pb_a w_a lk_v pb_24 ++ wBr cI cZ cJ w_a w_q_26 w_25 ++ wSy cI cZ cJ sy_a sy) := hD.sub [0, 1, 2, 13, 14, 15, 3, 4, 5, 6, 7, 8, 9, 10, 11, 12] (by decide) rfl
          refine lv_iconst (v := 0) hx hb d_Writer_tellSize_95 (by decide) ?_
          refine lv_istore (lv' := [(5, .int 0), (0, .ref (wr_a 0)), (1, .ref (sy_a 0)), (3, .int x3_2), (4, .int z0_3)]) hx hb d_Writer_tellSize_96 hl (by decide) rfl (fun ls hl => ?_)
          exact J98_10 _ _ _ _ _ _ pb_24 w_25 0 hg hP hD hS (lv_sub hl [1, 2, 3, 0] rfl) hf
        refine lv_if_le (tgt := 77) hx hb d_Writer_tellSize_65 (by decide) (fun c_27 => ?_) (fun c_27 => ?_)
        · rw [if_pos c_27] at hf
          exact J77_21 _ _ _ _ _ _ pb w hg hP hD hS (lv_sub hl [1, 2, 4, 5] rfl) hf
        · rw [if_neg c_27] at hf
          refine lv_aload_n hx hb d_Writer_tellSize_68 rfl (lv_at hl 1 rfl) ?_
          refine va_get (D := (dC, dI)) (ci := 4) (v := .ref (pb_a 0)) (C := R_Writer) (T := T_Writer) (N := 4) hx hb hts in_Writer hown hK hP 0 rfl rfl 0 (by decide) (hts _ t_164) (fun _ h9 => h9) rfl d_Writer_tellSize_69 ?_
          refine lv_iconst (v := 0) hx hb d_Writer_tellSize_72 (by decide) ?_
          refine lv_iconst (v := (-1)) hx hb d_Writer_tellSize_73 (by decide) ?_
          obtain ⟨⟨pb_28, w_29⟩, hf1, hf⟩ := bd_ex hf
          try dsimp only at hf
          have hm0 := mo_P_PlainBits_putBit _ hf1
          try dsimp only at hm0
          have hm : Br_byL w_29 ≤ (fun r : Pb × Br => Br_byL r.2) res := by
            refine mle_use (π := (fun r : Pb × Br => Br_byL r.2)) hf ?_
            exact mo_j_P_Writer_tellSize_77_22 sy x3_2 z0_3 pb_28 w_29
          have hPc := hP.sub (ws' := (wPb cI cZ cJ pb_a w_a lk_v pb ++ wBr cI cZ cJ w_a w_b w)) [3, 4, 5] rfl
          have hDc := hD.sub (ws' := (wPb cI cZ cJ pb_a w_a lk_v pb ++ wBr cI cZ cJ w_a w_b w)) [3, 4, 5] (by decide) rfl
          have hFc := va_free (wc := (wPb cI cZ cJ pb_a w_a lk_v pb ++ wBr cI cZ cJ w_a w_b w)) hD hS hA [3, 4, 5] rfl
          refine va_callv (va_runU (As := [.int 0, .int (-1)]) (rest := []) ⟨hx, hb, hml, hown, hts⟩ (k_P_PlainBits_putBit l dC dI cI cZ cJ pb_a w_a w_b lk_v H.size hf1) (va_cwA 2 hts (gU t_385 t_333 t_377 t_378 t_59 t_379) rfl rfl rfl (hN.2 _ (by decide +kernel)) hdx_Bits_putBit ⟨Nat.le_trans (Nat.le_of_ble_eq_true rfl) hRf, Nat.le_trans (Nat.le_of_ble_eq_true rfl) hRl⟩) ⟨kP_blind, va_recv hK hP (ci := 2) (q0 := 3) rfl rfl, kP_at hPc hK hDc hN⟩ rfl rfl hl.1 rfl (lv_room (Nat.le_of_ble_eq_true rfl)) d_Writer_tellSize_74 (g_room hg hm0 hm hRc)) hS (fun q _ h => hFc q h) hFc (fun w_q_30 t H1 locs ht hvm hw hB hz1 hk1 hS => ?_)
          have hg := g_step (L0 := Br_byL w) (L1 := Br_byL w_29) hg hm0 hm hRc
          generalize cells + (Br_byL w_29 - Br_byL w) = cells at hg ⊢
          generalize slots + 2 * (Br_byL w_29 - Br_byL w) = slots at hg ⊢
          obtain ⟨hP, hD⟩ := kQ_join (wr := (wWr cI cZ cJ wr_a (pb_a 0) wr ++ wSy cI cZ cJ sy_a sy)) (w1 := (wPb cI cZ cJ pb_a w_a lk_v pb_28 ++ wBr cI cZ cJ w_a w_q_30 w_29)) hP hD [3, 4, 5] [0, 1, 2, 6, 7, 8, 9, 10, 11, 12, 13, 14, 15] rfl rfl (by decide) (by decide) ht hk1 hFc hB
          generalize H1 = H at hP hS ⊢
          have hP : va_P (dC, dI) vwCl (wWr cI cZ cJ wr_a (pb_a 0) wr ++ wPb cI cZ cJ pb_a w_a lk_v pb_28 ++ wBr cI cZ cJ w_a w_q_30 w_29 ++ wSy cI cZ cJ sy_a sy) H := hP.sub [0, 1, 2, 13, 14, 15, 3, 4, 5, 6, 7, 8, 9, 10, 11, 12] rfl
          have hD : va_D A (wWr cI cZ cJ wr_a (pb_a 0) wr ++ wPb cI cZ cJ pb_a w_a lk_v pb_28 ++ wBr cI cZ cJ w_a w_q_30 w_29 ++ wSy cI cZ cJ sy_a sy) := hD.sub [0, 1, 2, 13, 14, 15, 3, 4, 5, 6, 7, 8, 9, 10, 11, 12] (by decide) rfl
          exact J77_21 _ _ _ _ _ _ pb_28 w_29 hg hP hD hS (lv_sub hl [1, 2, 4, 5] rfl) hf
    refine lv_if_le (tgt := 50) hx hb d_Writer_tellSize_31 (by decide) (fun c_31 => ?_) (fun c_31 => ?_)
    · rw [if_pos c_31] at hf
      refine lv_iconst (v := 0) hx hb d_Writer_tellSize_50 (by decide) ?_
      exact J51_5 _ _ _ _ _ _ 0 hg hP hD hS (lv_sub hl [1, 2, 3, 4, 0] rfl) hf
    · rw [if_neg c_31] at hf
      refine lv_aload_n hx hb d_Writer_tellSize_34 rfl (lv_at hl 2 rfl) ?_
      refine va_get (D := (dC, dI)) (ci := 0) (v := .ref (sy_a 1)) (C := R_Symbols) (T := T_Symbols) (N := 10) hx hb hts in_Symbols hown hK hP 6 rfl rfl 0 (by decide) (hts _ t_207) (fun _ h9 => h9) rfl d_Writer_tellSize_35 ?_
      refine lv_aload_n hx hb d_Writer_tellSize_38 rfl (lv_at hl 1 rfl) ?_
      refine va_get (D := (dC, dI)) (ci := 4) (v := .ref (wr_a 1)) (C := R_Writer) (T := T_Writer) (N := 4) hx hb hts in_Writer hown hK hP 0 rfl rfl 2 (by decide) (hts _ t_166) (fun _ h9 => h9) rfl d_Writer_tellSize_39 ?_
      refine lv_iload_n hx hb d_Writer_tellSize_42 rfl (lv_at hl 3 rfl) ?_
      refine lv_iconst (v := 1) hx hb d_Writer_tellSize_43 (by decide) ?_
      refine lv_isub hx hb d_Writer_tellSize_44 ?_
      obtain ⟨h_32, hf⟩ := gd_ex hf
      refine va_iald (f := Wr_od wr) hx hb hK hP 1 0 rfl rfl (inb_in h_32) d_Writer_tellSize_45 ?_
      obtain ⟨h_33, hf⟩ := gd_ex hf
      refine va_iald (f := Sy_wd sy) hx hb hK hP 7 0 rfl rfl (inb_in h_33) d_Writer_tellSize_46 ?_
      refine lv_goto (tgt := 51) hx hb d_Writer_tellSize_47 (by decide) ?_
      exact J51_5 _ _ _ _ _ _ (Sy_wd sy (Wr_od wr (x2 - 1).toNatClampNeg).toNatClampNeg) hg hP hD hS (lv_sub hl [1, 2, 3, 4, 0] rfl) hf
  refine lv_if_le (tgt := 27) hx hb d_Writer_tellSize_8 (by decide) (fun c_34 => ?_) (fun c_34 => ?_)
  · rw [if_pos c_34] at hf
    refine lv_iconst (v := 0) hx hb d_Writer_tellSize_27 (by decide) ?_
    exact J28_3 _ _ _ _ _ _ 0 hg hP hD hS (lv_sub hl [1, 2, 3, 0] rfl) hf
  · rw [if_neg c_34] at hf
    refine lv_aload_n hx hb d_Writer_tellSize_11 rfl (lv_at hl 2 rfl) ?_
    refine va_get (D := (dC, dI)) (ci := 0) (v := .ref (sy_a 2)) (C := R_Symbols) (T := T_Symbols) (N := 10) hx hb hts in_Symbols hown hK hP 6 rfl rfl 1 (by decide) (hts _ t_211) (fun _ h9 => h9) rfl d_Writer_tellSize_12 ?_
    refine lv_aload_n hx hb d_Writer_tellSize_15 rfl (lv_at hl 1 rfl) ?_
    refine va_get (D := (dC, dI)) (ci := 4) (v := .ref (wr_a 1)) (C := R_Writer) (T := T_Writer) (N := 4) hx hb hts in_Writer hown hK hP 0 rfl rfl 2 (by decide) (hts _ t_166) (fun _ h9 => h9) rfl d_Writer_tellSize_16 ?_
    refine lv_iload_n hx hb d_Writer_tellSize_19 rfl (lv_at hl 3 rfl) ?_
    refine lv_iconst (v := 1) hx hb d_Writer_tellSize_20 (by decide) ?_
    refine lv_isub hx hb d_Writer_tellSize_21 ?_
    obtain ⟨h_35, hf⟩ := gd_ex hf
    refine va_iald (f := Wr_od wr) hx hb hK hP 1 0 rfl rfl (inb_in h_35) d_Writer_tellSize_22 ?_
    obtain ⟨h_36, hf⟩ := gd_ex hf
    refine va_iald (f := Sy_ht sy) hx hb hK hP 8 0 rfl rfl (inb_in h_36) d_Writer_tellSize_23 ?_
    refine lv_goto (tgt := 28) hx hb d_Writer_tellSize_24 (by decide) ?_
    exact J28_3 _ _ _ _ _ _ (Sy_ht sy (Wr_od wr (x2 - 1).toNatClampNeg).toNatClampNeg) hg hP hD hS (lv_sub hl [1, 2, 3, 0] rfl) hf
end
set_option maxHeartbeats 4000000 in
set_option maxRecDepth 100000 in
theorem k_P_Writer_tellSize (l : Launch) (dC : Nat → ClassId) (dI : Nat → Nat → Nat) (cI cZ cJ : ClassId) (wr_a : Nat → Nat) (pb_a : Nat → Nat) (w_a w_b : Nat) (sy_a : Nat → Nat) (lk_v : Nat) (sz : Nat) {wr : Wr} {pb : Pb} {w : Br} {sy : Sy} {x2 : Int32} {pb' : Pb} {w' : Br} (hf : f_P_Writer_tellSize wr pb w sy x2 = some (pb', w')) :
    Met l y_Writer_tellSize ws_Writer_tellSize ({ frames := 6, cells := (Br_byL w' - Br_byL w), slots := (2 * (Br_byL w' - Br_byL w)), locals := 175 }) (va_Pc [.ref (wr_a 0), .ref (sy_a 0), .int x2] (kP (dC, dI) vwCl (TYS cI cZ cJ) (wWr cI cZ cJ wr_a (pb_a 0) wr ++ wPb cI cZ cJ pb_a w_a lk_v pb ++ wBr cI cZ cJ w_a w_b w ++ wSy cI cZ cJ sy_a sy) sz)) (va_Qv (fun (_ : Nat) => True) (fun q9 t => kQ (dC, dI) vwCl (TYS cI cZ cJ) (wWr cI cZ cJ wr_a (pb_a 0) wr ++ wPb cI cZ cJ pb_a w_a lk_v pb ++ wBr cI cZ cJ w_a w_b w ++ wSy cI cZ cJ sy_a sy) sz (wWr cI cZ cJ wr_a (pb_a 0) wr ++ wPb cI cZ cJ pb_a w_a lk_v pb' ++ wBr cI cZ cJ w_a q9 w' ++ wSy cI cZ cJ sy_a sy) t) (va_A (wWr cI cZ cJ wr_a (pb_a 0) wr ++ wPb cI cZ cJ pb_a w_a lk_v pb ++ wBr cI cZ cJ w_a w_b w ++ wSy cI cZ cJ sy_a sy) sz)) (Br_byL w' - Br_byL w) (2 * (Br_byL w' - Br_byL w)) (va_A (wWr cI cZ cJ wr_a (pb_a 0) wr ++ wPb cI cZ cJ pb_a w_a lk_v pb ++ wBr cI cZ cJ w_a w_b w ++ wSy cI cZ cJ sy_a sy) sz) := by
  refine Met.ofW (cc := c_Writer_tellSize) (maxL := 6) (ret := none) (by decide) rfl ?_
  intro p e s m args below meth c s₁ B hml hv
  obtain ⟨rfl, hsz, hP, hK, hD0, hN⟩ := hv
  have hr := B.returns
  have hlocks := B.notSynchronized
  subst hsz
  have hD := hD0.self (sz := s.heap.size)
  have hl := lv_entry ([.ref (wr_a 0), .ref (sy_a 0), .int x2]) (n := 6) (Nat.le_of_ble_eq_true rfl)
  rw [lg_entry_eq]
  generalize (lg_sl ([.ref (wr_a 0), .ref (sy_a 0), .int x2]) ++ List.replicate (6 - (lg_sl ([.ref (wr_a 0), .ref (sy_a 0), .int x2])).length) Slot.unset).toArray = ls at hl ⊢
  refine B_P_Writer_tellSize (A := va_A (wWr cI cZ cJ wr_a (pb_a 0) wr ++ wPb cI cZ cJ pb_a w_a lk_v pb ++ wBr cI cZ cJ w_a w_b w ++ wSy cI cZ cJ sy_a sy) s.heap.size) ⟨B.exec, B.bytes, hml, findClass_of_methodNamed B.named, fun w h => atoms_spec (ws := ws_Writer_tellSize) B.pre w (List.mem_cons_of_mem _ h), hK, fun q h => Or.inr h, Nat.le_of_ble_eq_true rfl, Nat.le_of_ble_eq_true rfl, hN, Nat.zero_le _, Nat.zero_le _⟩ ⟨Nat.le_refl _, Nat.le_refl _⟩ (fun H locs ls cells slots q9 pb'1 w'1 hg hP hD hS hf => ?_) ⟨Nat.le_refl _, Nat.zero_le _, Nat.zero_le _, Nat.zero_le _, Nat.zero_le _⟩ hP hD va_S.rf hl hf
  · cases hf
    refine W.widen (k := (Br_byL w' - Br_byL w)) (n := (2 * (Br_byL w' - Br_byL w))) hg.2.1 hg.2.2.1 ?_
    exact W.vret B.exec B.bytes hr (fun t ht hW => ⟨⟨q9, rfl, trivial, ⟨by rw [ht]; exact hP, va_K.moved hW.alike hK, hD⟩⟩, hS.F ht⟩) hS.2.2 d_Writer_tellSize_123

/-! P_Writer_tellBase -/
def f_P_Writer_tellBase (wr : Wr) (pb : Pb) (w : Br) (sy : Sy) (x2 : Int32) : Option (Pb × Br) := gd (inb x2 40) <| lt' (Wr_od wr x2.toNatClampNeg) <| fun x3_2 => gd (inb x3_2 40) <| lt' (Sy_bs sy x3_2.toNatClampNeg) <| fun x4_4 => (if x4_4 = (-1) then bd (f_P_PlainBits_putBit pb w 0 (-1)) <| fun (pb_21, w_22) => some (pb_21, w_22) else bd (f_P_PlainBits_putBit pb w 1 (-1)) <| fun (pb_6, w_7) => bd (f_Symbols_placeOf sy x4_4) <| fun r_9 => bd (f_P_Bits_putNumber pb_6 w_7 ((x2 - r_9) - 1)) <| fun (pb_10, w_11) => gd (inb x3_2 40) <| bd (f_P_Bits_putBits pb_10 w_11 ((Sy_dx sy x3_2.toNatClampNeg) + 4) 4) <| fun (pb_14, w_15) => gd (inb x3_2 40) <| bd (f_P_Bits_putBits pb_14 w_15 ((Sy_dy sy x3_2.toNatClampNeg) + 4) 4) <| fun (pb_18, w_19) => some (pb_18, w_19))
theorem mo_P_Writer_tellBase {wr : Wr} {pb : Pb} {w : Br} {sy : Sy} {x2 : Int32} : mle (f_P_Writer_tellBase wr pb w sy x2) (Br_byL w) (fun r : Pb × Br => Br_byL r.2) := by
  rw [f_P_Writer_tellBase]
  refine mle_gd ?_
  refine mle_lt (fun x3_2 ex3_2 => ?_)
  refine mle_gd ?_
  refine mle_lt (fun x4_4 ex4_4 => ?_)
  refine mle_if (fun _ => ?_) (fun _ => ?_)
  · refine mle_bd (fun y9 hy9 => ?_)
    obtain ⟨pb_21, w_22⟩ := y9
    try dsimp only
    refine mle_le (mo_P_PlainBits_putBit _ hy9) ?_
    try dsimp only
    exact mle_some (Nat.le_refl _)
  · refine mle_bd (fun y9 hy9 => ?_)
    obtain ⟨pb_6, w_7⟩ := y9
    try dsimp only
    refine mle_le (mo_P_PlainBits_putBit _ hy9) ?_
    try dsimp only
    refine mle_bd (fun y9 hy9 => ?_)
    obtain ⟨r_9, rfl⟩ : ∃ z, z = y9 := ⟨_, rfl⟩
    try dsimp only
    refine mle_bd (fun y9 hy9 => ?_)
    obtain ⟨pb_10, w_11⟩ := y9
    try dsimp only
    refine mle_le (mo_P_Bits_putNumber _ hy9) ?_
    try dsimp only
    refine mle_gd ?_
    refine mle_bd (fun y9 hy9 => ?_)
    obtain ⟨pb_14, w_15⟩ := y9
    try dsimp only
    refine mle_le (mo_P_Bits_putBits _ hy9) ?_
    try dsimp only
    refine mle_gd ?_
    refine mle_bd (fun y9 hy9 => ?_)
    obtain ⟨pb_18, w_19⟩ := y9
    try dsimp only
    refine mle_le (mo_P_Bits_putBits _ hy9) ?_
    try dsimp only
    exact mle_some (Nat.le_refl _)
section
variable {p : Program} {l : Launch} {e : Env} {R : Room} {s : State} {m : MethodId} {args : Array Value} {below : List Frame} {meth : Method} {c : Code} {Q : State → Prop} {A : Nat → Prop}
set_option maxHeartbeats 4000000 in
set_option maxRecDepth 100000 in
theorem B_P_Writer_tellBase {cells slots : Nat} {l0 : Nat} {dC : Nat → ClassId} {dI : Nat → Nat → Nat} {cI cZ cJ : ClassId} {wr_a : Nat → Nat} {pb_a : Nat → Nat} {w_a : Nat} {sy_a : Nat → Nat} {lk_v : Nat} {w_b : Nat} {wr : Wr} {pb : Pb} {w : Br} {sy : Sy} {x2 : Int32} {res : Pb × Br} (C0 : cxt p c m s args R 0 0 R_Writer c_Writer_tellBase tb 5 (dC, dI) vwCl (TYS cI cZ cJ) A 6 175) (hRc : gR l0 ((fun r : Pb × Br => Br_byL r.2) res) R)
    (hr30 : ∀ (H : Heap) (locs : List Loc) (ls : Array Slot) (cells slots : Nat) (w_b : Nat) (pb' : Pb) (w' : Br), gok R l0 (Br_byL w') cells slots → va_P (dC, dI) vwCl (wWr cI cZ cJ wr_a (pb_a 0) wr ++ wPb cI cZ cJ pb_a w_a lk_v pb' ++ wBr cI cZ cJ w_a w_b w' ++ wSy cI cZ cJ sy_a sy) H → va_D A (wWr cI cZ cJ wr_a (pb_a 0) wr ++ wPb cI cZ cJ pb_a w_a lk_v pb' ++ wBr cI cZ cJ w_a w_b w' ++ wSy cI cZ cJ sy_a sy) → va_S A s.heap H locs → some (pb', w') = some res → W p l e R s m args below meth c H locs cells slots Q (F0 m 30 ls []))
    (hr89 : ∀ (H : Heap) (locs : List Loc) (ls : Array Slot) (cells slots : Nat) (w_b : Nat) (pb' : Pb) (w' : Br), gok R l0 (Br_byL w') cells slots → va_P (dC, dI) vwCl (wWr cI cZ cJ wr_a (pb_a 0) wr ++ wPb cI cZ cJ pb_a w_a lk_v pb' ++ wBr cI cZ cJ w_a w_b w' ++ wSy cI cZ cJ sy_a sy) H → va_D A (wWr cI cZ cJ wr_a (pb_a 0) wr ++ wPb cI cZ cJ pb_a w_a lk_v pb' ++ wBr cI cZ cJ w_a w_b w' ++ wSy cI cZ cJ sy_a sy) → va_S A s.heap H locs → some (pb', w') = some res → W p l e R s m args below meth c H locs cells slots Q (F0 m 89 ls []))
    {H : Heap} {locs : List Loc} {ls : Array Slot} (hg : gok R l0 (Br_byL w) cells slots) (hP : va_P (dC, dI) vwCl (wWr cI cZ cJ wr_a (pb_a 0) wr ++ wPb cI cZ cJ pb_a w_a lk_v pb ++ wBr cI cZ cJ w_a w_b w ++ wSy cI cZ cJ sy_a sy) H) (hD : va_D A (wWr cI cZ cJ wr_a (pb_a 0) wr ++ wPb cI cZ cJ pb_a w_a lk_v pb ++ wBr cI cZ cJ w_a w_b w ++ wSy cI cZ cJ sy_a sy)) (hS : va_S A s.heap H locs) (hl : lv_has ls 5 [(0, .ref (wr_a 0)), (1, .ref (sy_a 0)), (2, .int x2)]) (hf : f_P_Writer_tellBase wr pb w sy x2 = some res) : W p l e R s m args below meth c H locs cells slots Q (F0 m 0 ls []) := by
  obtain ⟨hx, hb, hml, hown, hts, hK, hA, hRf, hRl, hN, _⟩ := id C0
  rw [f_P_Writer_tellBase] at hf
  refine lv_aload_n hx hb d_Writer_tellBase_0 rfl (lv_at hl 0 rfl) ?_
  refine va_get (D := (dC, dI)) (ci := 4) (v := .ref (wr_a 1)) (C := R_Writer) (T := T_Writer) (N := 4) hx hb hts in_Writer hown hK hP 0 rfl rfl 2 (by decide) (hts _ t_166) (fun _ h9 => h9) rfl d_Writer_tellBase_1 ?_
  refine lv_iload_n hx hb d_Writer_tellBase_4 rfl (lv_at hl 2 rfl) ?_
  obtain ⟨h_1, hf⟩ := gd_ex hf
  refine va_iald (f := Wr_od wr) hx hb hK hP 1 0 rfl rfl (inb_in h_1) d_Writer_tellBase_5 ?_
  obtain ⟨x3_2, ex3_2, hf⟩ := lt_ex hf
  try dsimp only at hf
  refine tp_i ex3_2 ?_
  refine lv_istore_n (lv' := [(3, .int x3_2), (0, .ref (wr_a 0)), (1, .ref (sy_a 0)), (2, .int x2)]) hx hb d_Writer_tellBase_6 rfl hl (by decide) rfl (fun ls hl => ?_)
  refine lv_aload_n hx hb d_Writer_tellBase_7 rfl (lv_at hl 2 rfl) ?_
  refine va_get (D := (dC, dI)) (ci := 0) (v := .ref (sy_a 4)) (C := R_Symbols) (T := T_Symbols) (N := 10) hx hb hts in_Symbols hown hK hP 6 rfl rfl 3 (by decide) (hts _ t_219) (fun _ h9 => h9) rfl d_Writer_tellBase_8 ?_
  refine lv_iload_n hx hb d_Writer_tellBase_11 rfl (lv_at hl 0 rfl) ?_
  obtain ⟨h_3, hf⟩ := gd_ex hf
  refine va_iald (f := Sy_bs sy) hx hb hK hP 10 0 rfl rfl (inb_in h_3) d_Writer_tellBase_12 ?_
  obtain ⟨x4_4, ex4_4, hf⟩ := lt_ex hf
  try dsimp only at hf
  refine tp_i ex4_4 ?_
  refine lv_istore (lv' := [(4, .int x4_4), (3, .int x3_2), (0, .ref (wr_a 0)), (1, .ref (sy_a 0)), (2, .int x2)]) hx hb d_Writer_tellBase_13 hl (by decide) rfl (fun ls hl => ?_)
  refine lv_iload hx hb d_Writer_tellBase_15 (lv_at hl 0 rfl) ?_
  refine lv_iconst (v := (-1)) hx hb d_Writer_tellBase_17 (by decide) ?_
  refine lv_icmp_ne (tgt := 31) hx hb d_Writer_tellBase_18 (by decide) (fun c_5 => ?_) (fun c_5 => ?_)
  · rw [if_neg c_5] at hf
    refine lv_aload_n hx hb d_Writer_tellBase_31 rfl (lv_at hl 2 rfl) ?_
    refine va_get (D := (dC, dI)) (ci := 4) (v := .ref (pb_a 0)) (C := R_Writer) (T := T_Writer) (N := 4) hx hb hts in_Writer hown hK hP 0 rfl rfl 0 (by decide) (hts _ t_164) (fun _ h9 => h9) rfl d_Writer_tellBase_32 ?_
    refine lv_iconst (v := 1) hx hb d_Writer_tellBase_35 (by decide) ?_
    refine lv_iconst (v := (-1)) hx hb d_Writer_tellBase_36 (by decide) ?_
    obtain ⟨⟨pb_6, w_7⟩, hf1, hf⟩ := bd_ex hf
    try dsimp only at hf
    have hm0 := mo_P_PlainBits_putBit _ hf1
    try dsimp only at hm0
    have hm : Br_byL w_7 ≤ (fun r : Pb × Br => Br_byL r.2) res := by
      refine mle_use (π := (fun r : Pb × Br => Br_byL r.2)) hf ?_
      refine mle_bd (fun y9 hy9 => ?_)
      obtain ⟨r_9, rfl⟩ : ∃ z, z = y9 := ⟨_, rfl⟩
      try dsimp only
      refine mle_bd (fun y9 hy9 => ?_)
      obtain ⟨pb_10, w_11⟩ := y9
      try dsimp only
      refine mle_le (mo_P_Bits_putNumber _ hy9) ?_
      try dsimp only
      refine mle_gd ?_
      refine mle_bd (fun y9 hy9 => ?_)
      obtain ⟨pb_14, w_15⟩ := y9
      try dsimp only
      refine mle_le (mo_P_Bits_putBits _ hy9) ?_
      try dsimp only
      refine mle_gd ?_
      refine mle_bd (fun y9 hy9 => ?_)
      obtain ⟨pb_18, w_19⟩ := y9
      try dsimp only
      refine mle_le (mo_P_Bits_putBits _ hy9) ?_
      try dsimp only
      exact mle_some (Nat.le_refl _)
    have hPc := hP.sub (ws' := (wPb cI cZ cJ pb_a w_a lk_v pb ++ wBr cI cZ cJ w_a w_b w)) [3, 4, 5] rfl
    have hDc := hD.sub (ws' := (wPb cI cZ cJ pb_a w_a lk_v pb ++ wBr cI cZ cJ w_a w_b w)) [3, 4, 5] (by decide) rfl
    have hFc := va_free (wc := (wPb cI cZ cJ pb_a w_a lk_v pb ++ wBr cI cZ cJ w_a w_b w)) hD hS hA [3, 4, 5] rfl
    refine va_callv (va_runU (As := [.int 1, .int (-1)]) (rest := []) ⟨hx, hb, hml, hown, hts⟩ (k_P_PlainBits_putBit l dC dI cI cZ cJ pb_a w_a w_b lk_v H.size hf1) (va_cwA 2 hts (gU t_385 t_333 t_377 t_378 t_59 t_379) rfl rfl rfl (hN.2 _ (by decide +kernel)) hdx_Bits_putBit ⟨Nat.le_trans (Nat.le_of_ble_eq_true rfl) hRf, Nat.le_trans (Nat.le_of_ble_eq_true rfl) hRl⟩) ⟨kP_blind, va_recv hK hP (ci := 2) (q0 := 3) rfl rfl, kP_at hPc hK hDc hN⟩ rfl rfl hl.1 rfl (lv_room (Nat.le_of_ble_eq_true rfl)) d_Writer_tellBase_37 (g_room hg hm0 hm hRc)) hS (fun q _ h => hFc q h) hFc (fun w_q_8 t H1 locs ht hvm hw hB hz1 hk1 hS => ?_)
    have hg := g_step (L0 := Br_byL w) (L1 := Br_byL w_7) hg hm0 hm hRc
    generalize cells + (Br_byL w_7 - Br_byL w) = cells at hg ⊢
    generalize slots + 2 * (Br_byL w_7 - Br_byL w) = slots at hg ⊢
    obtain ⟨hP, hD⟩ := kQ_join (wr := (wWr cI cZ cJ wr_a (pb_a 0) wr ++ wSy cI cZ cJ sy_a sy)) (w1 := (wPb cI cZ cJ pb_a w_a lk_v pb_6 ++ wBr cI cZ cJ w_a w_q_8 w_7)) hP hD [3, 4, 5] [0, 1, 2, 6, 7, 8, 9, 10, 11, 12, 13, 14, 15] rfl rfl (by decide) (by decide) ht hk1 hFc hB
    generalize H1 = H at hP hS ⊢
    have hP : va_P (dC, dI) vwCl (wWr cI cZ cJ wr_a (pb_a 0) wr ++ wPb cI cZ cJ pb_a w_a lk_v pb_6 ++ wBr cI cZ cJ w_a w_q_8 w_7 ++ wSy cI cZ cJ sy_a sy) H := hP.sub [0, 1, 2, 13, 14, 15, 3, 4, 5, 6, 7, 8, 9, 10, 11, 12] rfl
    have hD : va_D A (wWr cI cZ cJ wr_a (pb_a 0) wr ++ wPb cI cZ cJ pb_a w_a lk_v pb_6 ++ wBr cI cZ cJ w_a w_q_8 w_7 ++ wSy cI cZ cJ sy_a sy) := hD.sub [0, 1, 2, 13, 14, 15, 3, 4, 5, 6, 7, 8, 9, 10, 11, 12] (by decide) rfl
    refine lv_aload_n hx hb d_Writer_tellBase_40 rfl (lv_at hl 2 rfl) ?_
    refine va_get (D := (dC, dI)) (ci := 4) (v := .ref (pb_a 0)) (C := R_Writer) (T := T_Writer) (N := 4) hx hb hts in_Writer hown hK hP 0 rfl rfl 0 (by decide) (hts _ t_164) (fun _ h9 => h9) rfl d_Writer_tellBase_41 ?_
    refine lv_iload_n hx hb d_Writer_tellBase_44 rfl (lv_at hl 4 rfl) ?_
    refine lv_aload_n hx hb d_Writer_tellBase_45 rfl (lv_at hl 3 rfl) ?_
    refine lv_iload hx hb d_Writer_tellBase_46 (lv_at hl 0 rfl) ?_
    obtain ⟨r_9, hf1, hf⟩ := bd_ex hf
    try dsimp only at hf
    have hPc := hP.sub (ws' := (wSy cI cZ cJ sy_a sy)) [6, 7, 8, 9, 10, 11, 12, 13, 14, 15] rfl
    have hDc := hD.sub (ws' := (wSy cI cZ cJ sy_a sy)) [6, 7, 8, 9, 10, 11, 12, 13, 14, 15] (by decide) rfl
    have hFc := va_free (wc := (wSy cI cZ cJ sy_a sy)) hD hS hA [6, 7, 8, 9, 10, 11, 12, 13, 14, 15] rfl
    refine va_calli (va_runV (As := [.int x4_4]) (rest := [.int x2, .ref (pb_a 0)]) ⟨hx, hb, hml, hown, hts⟩ (k_Symbols_placeOf l dC dI cI cZ cJ sy_a H.size hf1) (cwV 1 hts (gV t_288 t_289 t_290 t_62 t_291) rfl rfl rfl hd_Symbols_placeOf ⟨Nat.le_trans (Nat.le_of_ble_eq_true rfl) hRf, Nat.le_trans (Nat.le_of_ble_eq_true rfl) hRl⟩) ⟨kP_blind, va_recv hK hP (ci := 0) (q0 := 6) rfl rfl, kP_at hPc hK hDc hN⟩ rfl rfl hl.1 rfl (lv_room (Nat.le_of_ble_eq_true rfl)) d_Writer_tellBase_48 hg.2.2.2) hS (fun q _ h => hFc q h) hFc (fun r9 u t H1 locs ht hvm hw hB hz1 hk1 hS => ?_)
    rw [hw]
    obtain ⟨hP, hD⟩ := kQ_join (wr := (wWr cI cZ cJ wr_a (pb_a 0) wr ++ wPb cI cZ cJ pb_a w_a lk_v pb_6 ++ wBr cI cZ cJ w_a w_q_8 w_7)) (w1 := (wSy cI cZ cJ sy_a sy)) hP hD [6, 7, 8, 9, 10, 11, 12, 13, 14, 15] [0, 1, 2, 3, 4, 5] rfl rfl (by decide) (by decide) ht hk1 hFc hB
    generalize H1 = H at hP hS ⊢
    have hP : va_P (dC, dI) vwCl (wWr cI cZ cJ wr_a (pb_a 0) wr ++ wPb cI cZ cJ pb_a w_a lk_v pb_6 ++ wBr cI cZ cJ w_a w_q_8 w_7 ++ wSy cI cZ cJ sy_a sy) H := hP.sub [0, 1, 2, 3, 4, 5, 6, 7, 8, 9, 10, 11, 12, 13, 14, 15] rfl
    have hD : va_D A (wWr cI cZ cJ wr_a (pb_a 0) wr ++ wPb cI cZ cJ pb_a w_a lk_v pb_6 ++ wBr cI cZ cJ w_a w_q_8 w_7 ++ wSy cI cZ cJ sy_a sy) := hD.sub [0, 1, 2, 3, 4, 5, 6, 7, 8, 9, 10, 11, 12, 13, 14, 15] (by decide) rfl
    refine lv_isub hx hb d_Writer_tellBase_51 ?_
    refine lv_iconst (v := 1) hx hb d_Writer_tellBase_52 (by decide) ?_
    refine lv_isub hx hb d_Writer_tellBase_53 ?_
    obtain ⟨⟨pb_10, w_11⟩, hf1, hf⟩ := bd_ex hf
    try dsimp only at hf
    have hm0 := mo_P_Bits_putNumber _ hf1
    try dsimp only at hm0
    have hm : Br_byL w_11 ≤ (fun r : Pb × Br => Br_byL r.2) res := by
      refine mle_use (π := (fun r : Pb × Br => Br_byL r.2)) hf ?_
      refine mle_gd ?_
      refine mle_bd (fun y9 hy9 => ?_)
      obtain ⟨pb_14, w_15⟩ := y9
      try dsimp only
      refine mle_le (mo_P_Bits_putBits _ hy9) ?_
      try dsimp only
      refine mle_gd ?_
      refine mle_bd (fun y9 hy9 => ?_)
      obtain ⟨pb_18, w_19⟩ := y9
      try dsimp only
      refine mle_le (mo_P_Bits_putBits _ hy9) ?_
      try dsimp only
      exact mle_some (Nat.le_refl _)
    have hPc := hP.sub (ws' := (wPb cI cZ cJ pb_a w_a lk_v pb_6 ++ wBr cI cZ cJ w_a w_q_8 w_7)) [3, 4, 5] rfl
    have hDc := hD.sub (ws' := (wPb cI cZ cJ pb_a w_a lk_v pb_6 ++ wBr cI cZ cJ w_a w_q_8 w_7)) [3, 4, 5] (by decide) rfl
    have hFc := va_free (wc := (wPb cI cZ cJ pb_a w_a lk_v pb_6 ++ wBr cI cZ cJ w_a w_q_8 w_7)) hD hS hA [3, 4, 5] rfl
    refine va_callv (va_runU (As := [.int ((x2 - r_9) - 1)]) (rest := []) ⟨hx, hb, hml, hown, hts⟩ (k_P_Bits_putNumber l dC dI cI cZ cJ pb_a w_a w_q_8 lk_v H.size hf1) (va_cwU 1 hts (gU t_319 t_321 t_323 t_320 t_57 t_324) rfl rfl rfl rfl hd_Bits_putNumber.2 ⟨Nat.le_trans (Nat.le_of_ble_eq_true rfl) hRf, Nat.le_trans (Nat.le_of_ble_eq_true rfl) hRl⟩) ⟨kP_blind, va_recv hK hP (ci := 2) (q0 := 3) rfl rfl, kP_at hPc hK hDc hN⟩ rfl rfl hl.1 rfl (lv_room (Nat.le_of_ble_eq_true rfl)) d_Writer_tellBase_54 (g_room hg hm0 hm hRc)) hS (fun q _ h => hFc q h) hFc (fun w_q_12 t H1 locs ht hvm hw hB hz1 hk1 hS => ?_)
    have hg := g_step (L0 := Br_byL w_7) (L1 := Br_byL w_11) hg hm0 hm hRc
    generalize cells + (Br_byL w_11 - Br_byL w_7) = cells at hg ⊢
    generalize slots + 2 * (Br_byL w_11 - Br_byL w_7) = slots at hg ⊢
    obtain ⟨hP, hD⟩ := kQ_join (wr := (wWr cI cZ cJ wr_a (pb_a 0) wr ++ wSy cI cZ cJ sy_a sy)) (w1 := (wPb cI cZ cJ pb_a w_a lk_v pb_10 ++ wBr cI cZ cJ w_a w_q_12 w_11)) hP hD [3, 4, 5] [0, 1, 2, 6, 7, 8, 9, 10, 11, 12, 13, 14, 15] rfl rfl (by decide) (by decide) ht hk1 hFc hB
    generalize H1 = H at hP hS ⊢
    have hP : va_P (dC, dI) vwCl (wWr cI cZ cJ wr_a (pb_a 0) wr ++ wPb cI cZ cJ pb_a w_a lk_v pb_10 ++ wBr cI cZ cJ w_a w_q_12 w_11 ++ wSy cI cZ cJ sy_a sy) H := hP.sub [0, 1, 2, 13, 14, 15, 3, 4, 5, 6, 7, 8, 9, 10, 11, 12] rfl
    have hD : va_D A (wWr cI cZ cJ wr_a (pb_a 0) wr ++ wPb cI cZ cJ pb_a w_a lk_v pb_10 ++ wBr cI cZ cJ w_a w_q_12 w_11 ++ wSy cI cZ cJ sy_a sy) := hD.sub [0, 1, 2, 13, 14, 15, 3, 4, 5, 6, 7, 8, 9, 10, 11, 12] (by decide) rfl
    refine lv_aload_n hx hb d_Writer_tellBase_57 rfl (lv_at hl 2 rfl) ?_
    refine va_get (D := (dC, dI)) (ci := 4) (v := .ref (pb_a 0)) (C := R_Writer) (T := T_Writer) (N := 4) hx hb hts in_Writer hown hK hP 0 rfl rfl 0 (by decide) (hts _ t_164) (fun _ h9 => h9) rfl d_Writer_tellBase_58 ?_
    refine lv_aload_n hx hb d_Writer_tellBase_61 rfl (lv_at hl 3 rfl) ?_
    refine va_get (D := (dC, dI)) (ci := 0) (v := .ref (sy_a 5)) (C := R_Symbols) (T := T_Symbols) (N := 10) hx hb hts in_Symbols hown hK hP 6 rfl rfl 4 (by decide) (hts _ t_223) (fun _ h9 => h9) rfl d_Writer_tellBase_62 ?_
    refine lv_iload_n hx hb d_Writer_tellBase_65 rfl (lv_at hl 1 rfl) ?_
    obtain ⟨h_13, hf⟩ := gd_ex hf
    refine va_iald (f := Sy_dx sy) hx hb hK hP 11 0 rfl rfl (inb_in h_13) d_Writer_tellBase_66 ?_
    refine lv_iconst (v := 4) hx hb d_Writer_tellBase_67 (by decide) ?_
    refine lv_iadd hx hb d_Writer_tellBase_68 ?_
    refine lv_iconst (v := 4) hx hb d_Writer_tellBase_69 (by decide) ?_
    obtain ⟨⟨pb_14, w_15⟩, hf1, hf⟩ := bd_ex hf
    try dsimp only at hf
    have hm0 := mo_P_Bits_putBits _ hf1
    try dsimp only at hm0
    have hm : Br_byL w_15 ≤ (fun r : Pb × Br => Br_byL r.2) res := by
      refine mle_use (π := (fun r : Pb × Br => Br_byL r.2)) hf ?_
      refine mle_gd ?_
      refine mle_bd (fun y9 hy9 => ?_)
      obtain ⟨pb_18, w_19⟩ := y9
      try dsimp only
      refine mle_le (mo_P_Bits_putBits _ hy9) ?_
      try dsimp only
      exact mle_some (Nat.le_refl _)
    have hPc := hP.sub (ws' := (wPb cI cZ cJ pb_a w_a lk_v pb_10 ++ wBr cI cZ cJ w_a w_q_12 w_11)) [3, 4, 5] rfl
    have hDc := hD.sub (ws' := (wPb cI cZ cJ pb_a w_a lk_v pb_10 ++ wBr cI cZ cJ w_a w_q_12 w_11)) [3, 4, 5] (by decide) rfl
    have hFc := va_free (wc := (wPb cI cZ cJ pb_a w_a lk_v pb_10 ++ wBr cI cZ cJ w_a w_q_12 w_11)) hD hS hA [3, 4, 5] rfl
    refine va_callv (va_runU (As := [.int ((Sy_dx sy x3_2.toNatClampNeg) + 4), .int 4]) (rest := []) ⟨hx, hb, hml, hown, hts⟩ (k_P_Bits_putBits l dC dI cI cZ cJ pb_a w_a w_q_12 lk_v H.size hf1) (va_cwU 2 hts (gU t_390 t_327 t_329 t_326 t_57 t_330) rfl rfl rfl rfl hd_Bits_putBits.2 ⟨Nat.le_trans (Nat.le_of_ble_eq_true rfl) hRf, Nat.le_trans (Nat.le_of_ble_eq_true rfl) hRl⟩) ⟨kP_blind, va_recv hK hP (ci := 2) (q0 := 3) rfl rfl, kP_at hPc hK hDc hN⟩ rfl rfl hl.1 rfl (lv_room (Nat.le_of_ble_eq_true rfl)) d_Writer_tellBase_70 (g_room hg hm0 hm hRc)) hS (fun q _ h => hFc q h) hFc (fun w_q_16 t H1 locs ht hvm hw hB hz1 hk1 hS => ?_)
    have hg := g_step (L0 := Br_byL w_11) (L1 := Br_byL w_15) hg hm0 hm hRc
    generalize cells + (Br_byL w_15 - Br_byL w_11) = cells at hg ⊢
    generalize slots + 2 * (Br_byL w_15 - Br_byL w_11) = slots at hg ⊢
    obtain ⟨hP, hD⟩ := kQ_join (wr := (wWr cI cZ cJ wr_a (pb_a 0) wr ++ wSy cI cZ cJ sy_a sy)) (w1 := (wPb cI cZ cJ pb_a w_a lk_v pb_14 ++ wBr cI cZ cJ w_a w_q_16 w_15)) hP hD [3, 4, 5] [0, 1, 2, 6, 7, 8, 9, 10, 11, 12, 13, 14, 15] rfl rfl (by decide) (by decide) ht hk1 hFc hB
    generalize H1 = H at hP hS ⊢
    have hP : va_P (dC, dI) vwCl (wWr cI cZ cJ wr_a (pb_a 0) wr ++ wPb cI cZ cJ pb_a w_a lk_v pb_14 ++ wBr cI cZ cJ w_a w_q_16 w_15 ++ wSy cI cZ cJ sy_a sy) H := hP.sub [0, 1, 2, 13, 14, 15, 3, 4, 5, 6, 7, 8, 9, 10, 11, 12] rfl
    have hD : va_D A (wWr cI cZ cJ wr_a (pb_a 0) wr ++ wPb cI cZ cJ pb_a w_a lk_v pb_14 ++ wBr cI cZ cJ w_a w_q_16 w_15 ++ wSy cI cZ cJ sy_a sy) := hD.sub [0, 1, 2, 13, 14, 15, 3, 4, 5, 6, 7, 8, 9, 10, 11, 12] (by decide) rfl
    refine lv_aload_n hx hb d_Writer_tellBase_73 rfl (lv_at hl 2 rfl) ?_
    refine va_get (D := (dC, dI)) (ci := 4) (v := .ref (pb_a 0)) (C := R_Writer) (T := T_Writer) (N := 4) hx hb hts in_Writer hown hK hP 0 rfl rfl 0 (by decide) (hts _ t_164) (fun _ h9 => h9) rfl d_Writer_tellBase_74 ?_
    refine lv_aload_n hx hb d_Writer_tellBase_77 rfl (lv_at hl 3 rfl) ?_
    refine va_get (D := (dC, dI)) (ci := 0) (v := .ref (sy_a 6)) (C := R_Symbols) (T := T_Symbols) (N := 10) hx hb hts in_Symbols hown hK hP 6 rfl rfl 5 (by decide) (hts _ t_226) (fun _ h9 => h9) rfl d_Writer_tellBase_78 ?_
    refine lv_iload_n hx hb d_Writer_tellBase_81 rfl (lv_at hl 1 rfl) ?_
    obtain ⟨h_17, hf⟩ := gd_ex hf
    refine va_iald (f := Sy_dy sy) hx hb hK hP 12 0 rfl rfl (inb_in h_17) d_Writer_tellBase_82 ?_
    refine lv_iconst (v := 4) hx hb d_Writer_tellBase_83 (by decide) ?_
    refine lv_iadd hx hb d_Writer_tellBase_84 ?_
    refine lv_iconst (v := 4) hx hb d_Writer_tellBase_85 (by decide) ?_
    obtain ⟨⟨pb_18, w_19⟩, hf1, hf⟩ := bd_ex hf
    try dsimp only at hf
    have hm0 := mo_P_Bits_putBits _ hf1
    try dsimp only at hm0
    have hm : Br_byL w_19 ≤ (fun r : Pb × Br => Br_byL r.2) res := by
      refine mle_use (π := (fun r : Pb × Br => Br_byL r.2)) hf ?_
      exact mle_some (Nat.le_refl _)
    have hPc := hP.sub (ws' := (wPb cI cZ cJ pb_a w_a lk_v pb_14 ++ wBr cI cZ cJ w_a w_q_16 w_15)) [3, 4, 5] rfl
    have hDc := hD.sub (ws' := (wPb cI cZ cJ pb_a w_a lk_v pb_14 ++ wBr cI cZ cJ w_a w_q_16 w_15)) [3, 4, 5] (by decide) rfl
    have hFc := va_free (wc := (wPb cI cZ cJ pb_a w_a lk_v pb_14 ++ wBr cI cZ cJ w_a w_q_16 w_15)) hD hS hA [3, 4, 5] rfl
    refine va_callv (va_runU (As := [.int ((Sy_dy sy x3_2.toNatClampNeg) + 4), .int 4]) (rest := []) ⟨hx, hb, hml, hown, hts⟩ (k_P_Bits_putBits l dC dI cI cZ cJ pb_a w_a w_q_16 lk_v H.size hf1) (va_cwU 2 hts (gU t_390 t_327 t_329 t_326 t_57 t_330) rfl rfl rfl rfl hd_Bits_putBits.2 ⟨Nat.le_trans (Nat.le_of_ble_eq_true rfl) hRf, Nat.le_trans (Nat.le_of_ble_eq_true rfl) hRl⟩) ⟨kP_blind, va_recv hK hP (ci := 2) (q0 := 3) rfl rfl, kP_at hPc hK hDc hN⟩ rfl rfl hl.1 rfl (lv_room (Nat.le_of_ble_eq_true rfl)) d_Writer_tellBase_86 (g_room hg hm0 hm hRc)) hS (fun q _ h => hFc q h) hFc (fun w_q_20 t H1 locs ht hvm hw hB hz1 hk1 hS => ?_)
    have hg := g_step (L0 := Br_byL w_15) (L1 := Br_byL w_19) hg hm0 hm hRc
    generalize cells + (Br_byL w_19 - Br_byL w_15) = cells at hg ⊢
    generalize slots + 2 * (Br_byL w_19 - Br_byL w_15) = slots at hg ⊢
    obtain ⟨hP, hD⟩ := kQ_join (wr := (wWr cI cZ cJ wr_a (pb_a 0) wr ++ wSy cI cZ cJ sy_a sy)) (w1 := (wPb cI cZ cJ pb_a w_a lk_v pb_18 ++ wBr cI cZ cJ w_a w_q_20 w_19)) hP hD [3, 4, 5] [0, 1, 2, 6, 7, 8, 9, 10, 11, 12, 13, 14, 15] rfl rfl (by decide) (by decide) ht hk1 hFc hB
    generalize H1 = H at hP hS ⊢
    have hP : va_P (dC, dI) vwCl (wWr cI cZ cJ wr_a (pb_a 0) wr ++ wPb cI cZ cJ pb_a w_a lk_v pb_18 ++ wBr cI cZ cJ w_a w_q_20 w_19 ++ wSy cI cZ cJ sy_a sy) H := hP.sub [0, 1, 2, 13, 14, 15, 3, 4, 5, 6, 7, 8, 9, 10, 11, 12] rfl
    have hD : va_D A (wWr cI cZ cJ wr_a (pb_a 0) wr ++ wPb cI cZ cJ pb_a w_a lk_v pb_18 ++ wBr cI cZ cJ w_a w_q_20 w_19 ++ wSy cI cZ cJ sy_a sy) := hD.sub [0, 1, 2, 13, 14, 15, 3, 4, 5, 6, 7, 8, 9, 10, 11, 12] (by decide) rfl
    exact hr89 _ _ _ _ _ _ pb_18 w_19 hg hP hD hS hf
  · rw [if_pos c_5] at hf
    refine lv_aload_n hx hb d_Writer_tellBase_21 rfl (lv_at hl 2 rfl) ?_
    refine va_get (D := (dC, dI)) (ci := 4) (v := .ref (pb_a 0)) (C := R_Writer) (T := T_Writer) (N := 4) hx hb hts in_Writer hown hK hP 0 rfl rfl 0 (by decide) (hts _ t_164) (fun _ h9 => h9) rfl d_Writer_tellBase_22 ?_
    refine lv_iconst (v := 0) hx hb d_Writer_tellBase_25 (by decide) ?_
    refine lv_iconst (v := (-1)) hx hb d_Writer_tellBase_26 (by decide) ?_
    obtain ⟨⟨pb_21, w_22⟩, hf1, hf⟩ := bd_ex hf
    try dsimp only at hf
    have hm0 := mo_P_PlainBits_putBit _ hf1
    try dsimp only at hm0
    have hm : Br_byL w_22 ≤ (fun r : Pb × Br => Br_byL r.2) res := by
      refine mle_use (π := (fun r : Pb × Br => Br_byL r.2)) hf ?_
      exact mle_some (Nat.le_refl _)
    have hPc := hP.sub (ws' := (wPb cI cZ cJ pb_a w_a lk_v pb ++ wBr cI cZ cJ w_a w_b w)) [3, 4, 5] rfl
    have hDc := hD.sub (ws' := (wPb cI cZ cJ pb_a w_a lk_v pb ++ wBr cI cZ cJ w_a w_b w)) [3, 4, 5] (by decide) rfl
    have hFc := va_free (wc := (wPb cI cZ cJ pb_a w_a lk_v pb ++ wBr cI cZ cJ w_a w_b w)) hD hS hA [3, 4, 5] rfl
    refine va_callv (va_runU (As := [.int 0, .int (-1)]) (rest := []) ⟨hx, hb, hml, hown, hts⟩ (k_P_PlainBits_putBit l dC dI cI cZ cJ pb_a w_a w_b lk_v H.size hf1) (va_cwA 2 hts (gU t_385 t_333 t_377 t_378 t_59 t_379) rfl rfl rfl (hN.2 _ (by decide +kernel)) hdx_Bits_putBit ⟨Nat.le_trans (Nat.le_of_ble_eq_true rfl) hRf, Nat.le_trans (Nat.le_of_ble_eq_true rfl) hRl⟩) ⟨kP_blind, va_recv hK hP (ci := 2) (q0 := 3) rfl rfl, kP_at hPc hK hDc hN⟩ rfl rfl hl.1 rfl (lv_room (Nat.le_of_ble_eq_true rfl)) d_Writer_tellBase_27 (g_room hg hm0 hm hRc)) hS (fun q _ h => hFc q h) hFc (fun w_q_23 t H1 locs ht hvm hw hB hz1 hk1 hS => ?_)
    have hg := g_step (L0 := Br_byL w) (L1 := Br_byL w_22) hg hm0 hm hRc
    generalize cells + (Br_byL w_22 - Br_byL w) = cells at hg ⊢
    generalize slots + 2 * (Br_byL w_22 - Br_byL w) = slots at hg ⊢
    obtain ⟨hP, hD⟩ := kQ_join (wr := (wWr cI cZ cJ wr_a (pb_a 0) wr ++ wSy cI cZ cJ sy_a sy)) (w1 := (wPb cI cZ cJ pb_a w_a lk_v pb_21 ++ wBr cI cZ cJ w_a w_q_23 w_22)) hP hD [3, 4, 5] [0, 1, 2, 6, 7, 8, 9, 10, 11, 12, 13, 14, 15] rfl rfl (by decide) (by decide) ht hk1 hFc hB
    generalize H1 = H at hP hS ⊢
    have hP : va_P (dC, dI) vwCl (wWr cI cZ cJ wr_a (pb_a 0) wr ++ wPb cI cZ cJ pb_a w_a lk_v pb_21 ++ wBr cI cZ cJ w_a w_q_23 w_22 ++ wSy cI cZ cJ sy_a sy) H := hP.sub [0, 1, 2, 13, 14, 15, 3, 4, 5, 6, 7, 8, 9, 10, 11, 12] rfl
    have hD : va_D A (wWr cI cZ cJ wr_a (pb_a 0) wr ++ wPb cI cZ cJ pb_a w_a lk_v pb_21 ++ wBr cI cZ cJ w_a w_q_23 w_22 ++ wSy cI cZ cJ sy_a sy) := hD.sub [0, 1, 2, 13, 14, 15, 3, 4, 5, 6, 7, 8, 9, 10, 11, 12] (by decide) rfl
    exact hr30 _ _ _ _ _ _ pb_21 w_22 hg hP hD hS hf
end
set_option maxHeartbeats 4000000 in
set_option maxRecDepth 100000 in
theorem k_P_Writer_tellBase (l : Launch) (dC : Nat → ClassId) (dI : Nat → Nat → Nat) (cI cZ cJ : ClassId) (wr_a : Nat → Nat) (pb_a : Nat → Nat) (w_a w_b : Nat) (sy_a : Nat → Nat) (lk_v : Nat) (sz : Nat) {wr : Wr} {pb : Pb} {w : Br} {sy : Sy} {x2 : Int32} {pb' : Pb} {w' : Br} (hf : f_P_Writer_tellBase wr pb w sy x2 = some (pb', w')) :
    Met l y_Writer_tellBase ws_Writer_tellBase ({ frames := 6, cells := (Br_byL w' - Br_byL w), slots := (2 * (Br_byL w' - Br_byL w)), locals := 175 }) (va_Pc [.ref (wr_a 0), .ref (sy_a 0), .int x2] (kP (dC, dI) vwCl (TYS cI cZ cJ) (wWr cI cZ cJ wr_a (pb_a 0) wr ++ wPb cI cZ cJ pb_a w_a lk_v pb ++ wBr cI cZ cJ w_a w_b w ++ wSy cI cZ cJ sy_a sy) sz)) (va_Qv (fun (_ : Nat) => True) (fun q9 t => kQ (dC, dI) vwCl (TYS cI cZ cJ) (wWr cI cZ cJ wr_a (pb_a 0) wr ++ wPb cI cZ cJ pb_a w_a lk_v pb ++ wBr cI cZ cJ w_a w_b w ++ wSy cI cZ cJ sy_a sy) sz (wWr cI cZ cJ wr_a (pb_a 0) wr ++ wPb cI cZ cJ pb_a w_a lk_v pb' ++ wBr cI cZ cJ w_a q9 w' ++ wSy cI cZ cJ sy_a sy) t) (va_A (wWr cI cZ cJ wr_a (pb_a 0) wr ++ wPb cI cZ cJ pb_a w_a lk_v pb ++ wBr cI cZ cJ w_a w_b w ++ wSy cI cZ cJ sy_a sy) sz)) (Br_byL w' - Br_byL w) (2 * (Br_byL w' - Br_byL w)) (va_A (wWr cI cZ cJ wr_a (pb_a 0) wr ++ wPb cI cZ cJ pb_a w_a lk_v pb ++ wBr cI cZ cJ w_a w_b w ++ wSy cI cZ cJ sy_a sy) sz) := by
  refine Met.ofW (cc := c_Writer_tellBase) (maxL := 5) (ret := none) (by decide) rfl ?_
  intro p e s m args below meth c s₁ B hml hv
  obtain ⟨rfl, hsz, hP, hK, hD0, hN⟩ := hv
  have hr := B.returns
  have hlocks := B.notSynchronized
  subst hsz
  have hD := hD0.self (sz := s.heap.size)
  have hl := lv_entry ([.ref (wr_a 0), .ref (sy_a 0), .int x2]) (n := 5) (Nat.le_of_ble_eq_true rfl)
  rw [lg_entry_eq]
  generalize (lg_sl ([.ref (wr_a 0), .ref (sy_a 0), .int x2]) ++ List.replicate (5 - (lg_sl ([.ref (wr_a 0), .ref (sy_a 0), .int x2])).length) Slot.unset).toArray = ls at hl ⊢
  refine B_P_Writer_tellBase (A := va_A (wWr cI cZ cJ wr_a (pb_a 0) wr ++ wPb cI cZ cJ pb_a w_a lk_v pb ++ wBr cI cZ cJ w_a w_b w ++ wSy cI cZ cJ sy_a sy) s.heap.size) ⟨B.exec, B.bytes, hml, findClass_of_methodNamed B.named, fun w h => atoms_spec (ws := ws_Writer_tellBase) B.pre w (List.mem_cons_of_mem _ h), hK, fun q h => Or.inr h, Nat.le_of_ble_eq_true rfl, Nat.le_of_ble_eq_true rfl, hN, Nat.zero_le _, Nat.zero_le _⟩ ⟨Nat.le_refl _, Nat.le_refl _⟩ (fun H locs ls cells slots q9 pb'1 w'1 hg hP hD hS hf => ?_) (fun H locs ls cells slots q9 pb'1 w'1 hg hP hD hS hf => ?_) ⟨Nat.le_refl _, Nat.zero_le _, Nat.zero_le _, Nat.zero_le _, Nat.zero_le _⟩ hP hD va_S.rf hl hf
  · cases hf
    refine W.widen (k := (Br_byL w' - Br_byL w)) (n := (2 * (Br_byL w' - Br_byL w))) hg.2.1 hg.2.2.1 ?_
    exact W.vret B.exec B.bytes hr (fun t ht hW => ⟨⟨q9, rfl, trivial, ⟨by rw [ht]; exact hP, va_K.moved hW.alike hK, hD⟩⟩, hS.F ht⟩) hS.2.2 d_Writer_tellBase_30
  · cases hf
    refine W.widen (k := (Br_byL w' - Br_byL w)) (n := (2 * (Br_byL w' - Br_byL w))) hg.2.1 hg.2.2.1 ?_
    exact W.vret B.exec B.bytes hr (fun t ht hW => ⟨⟨q9, rfl, trivial, ⟨by rw [ht]; exact hP, va_K.moved hW.alike hK, hD⟩⟩, hS.F ht⟩) hS.2.2 d_Writer_tellBase_89

/-! P_Writer_layPlane -/
def l_P_Writer_layPlane_2 (sy : Sy) (x2 : Int32) (k37 : Wr → Option (Wr)) : Nat → Wr → Int32 → Option (Wr)
  | 0, _, _ => none
  | n + 1, wr, x3 => gd (inb x2 40) <| (if (Sy_ht sy x2.toNatClampNeg) ≤ x3 then k37 wr else bd (f_Symbols_rowOf sy x2 x3) <| fun r_4 => bd (f_Symbols_foretoldRow sy x2 x3) <| fun r_5 => gd (inb x3 16) <| lt' (Wr_s_pl wr (upd (Wr_pl wr) x3.toNatClampNeg (r_4 ^^^ r_5))) <| fun wr_7 => lt' (x3 + 1) <| fun x3_9 => (l_P_Writer_layPlane_2 sy x2 k37 n) wr_7 x3_9)
def f_P_Writer_layPlane (wr : Wr) (sy : Sy) (x2 : Int32) : Option (Wr) := l_P_Writer_layPlane_2 sy x2 (fun wr_10 => some wr_10) 100000 wr 0
section
variable {p : Program} {l : Launch} {e : Env} {R : Room} {s : State} {m : MethodId} {args : Array Value} {below : List Frame} {meth : Method} {c : Code} {Q : State → Prop} {A : Nat → Prop}
set_option maxHeartbeats 4000000 in
set_option maxRecDepth 100000 in
theorem L_P_Writer_layPlane_2 {cells slots : Nat} {dC : Nat → ClassId} {dI : Nat → Nat → Nat} {cI cZ cJ : ClassId} {wr_a : Nat → Nat} {sy_a : Nat → Nat} {lk_pb : Nat} {sy : Sy} {x2 : Int32} {k37 : Wr → Option (Wr)} {res : Wr} (C0 : cxt p c m s args R cells slots R_Writer c_Writer_layPlane tb 4 (dC, dI) vwCl (TYS cI cZ cJ) A 2 49)
    (hk37 : ∀ (H : Heap) (locs : List Loc) (ls : Array Slot) (wr_1 : Wr), va_P (dC, dI) vwCl (wWr cI cZ cJ wr_a lk_pb wr_1 ++ wSy cI cZ cJ sy_a sy) H → va_D A (wWr cI cZ cJ wr_a lk_pb wr_1 ++ wSy cI cZ cJ sy_a sy) → va_S A s.heap H locs → lv_has ls 4 [] → k37 wr_1 = some res → W p l e R s m args below meth c H locs cells slots Q (F0 m 37 ls [])) :
    ∀ (n : Nat) (H : Heap) (locs : List Loc) (ls : Array Slot) (wr : Wr) (x3 : Int32), va_P (dC, dI) vwCl (wWr cI cZ cJ wr_a lk_pb wr ++ wSy cI cZ cJ sy_a sy) H → va_D A (wWr cI cZ cJ wr_a lk_pb wr ++ wSy cI cZ cJ sy_a sy) → va_S A s.heap H locs → lv_has ls 4 [(0, .ref (wr_a 0)), (1, .ref (sy_a 0)), (2, .int x2), (3, .int x3)] → l_P_Writer_layPlane_2 sy x2 k37 n wr x3 = some res → W p l e R s m args below meth c H locs cells slots Q (F0 m 2 ls []) := by
  obtain ⟨hx, hb, hml, hown, hts, hK, hA, hRf, hRl, hN, hRc⟩ := id C0
  intro n
  induction n with
  | zero =>
    intro H locs ls wr x3 hP hD hS hl hf
    exact absurd hf (by simp [l_P_Writer_layPlane_2])
  | succ n ih =>
    intro H locs ls wr x3 hP hD hS hl hf
    rw [l_P_Writer_layPlane_2] at hf
    refine lv_iload_n hx hb d_Writer_layPlane_2 rfl (lv_at hl 3 rfl) ?_
    refine lv_aload_n hx hb d_Writer_layPlane_3 rfl (lv_at hl 1 rfl) ?_
    refine va_get (D := (dC, dI)) (ci := 0) (v := .ref (sy_a 2)) (C := R_Symbols) (T := T_Symbols) (N := 10) hx hb hts in_Symbols hown hK hP 3 rfl rfl 1 (by decide) (hts _ t_211) (fun _ h9 => h9) rfl d_Writer_layPlane_4 ?_
    refine lv_iload_n hx hb d_Writer_layPlane_7 rfl (lv_at hl 2 rfl) ?_
    obtain ⟨h_2, hf⟩ := gd_ex hf
    refine va_iald (f := Sy_ht sy) hx hb hK hP 5 0 rfl rfl (inb_in h_2) d_Writer_layPlane_8 ?_
    refine lv_icmp_ge (tgt := 37) hx hb d_Writer_layPlane_9 (by decide) (fun c_3 => ?_) (fun c_3 => ?_)
    · rw [if_pos c_3] at hf
      exact hk37 _ _ _ wr hP hD hS (lv_sub hl [] rfl) hf
    · rw [if_neg c_3] at hf
      refine lv_aload_n hx hb d_Writer_layPlane_12 rfl (lv_at hl 0 rfl) ?_
      refine va_get (D := (dC, dI)) (ci := 4) (v := .ref (wr_a 2)) (C := R_Writer) (T := T_Writer) (N := 4) hx hb hts in_Writer hown hK hP 0 rfl rfl 3 (by decide) (hts _ t_167) (fun _ h9 => h9) rfl d_Writer_layPlane_13 ?_
      refine lv_iload_n hx hb d_Writer_layPlane_16 rfl (lv_at hl 3 rfl) ?_
      refine lv_aload_n hx hb d_Writer_layPlane_17 rfl (lv_at hl 1 rfl) ?_
      refine lv_iload_n hx hb d_Writer_layPlane_18 rfl (lv_at hl 2 rfl) ?_
      refine lv_iload_n hx hb d_Writer_layPlane_19 rfl (lv_at hl 3 rfl) ?_
      obtain ⟨r_4, hf1, hf⟩ := bd_ex hf
      try dsimp only at hf
      have hPc := hP.sub (ws' := (wSy cI cZ cJ sy_a sy)) [3, 4, 5, 6, 7, 8, 9, 10, 11, 12] rfl
      have hDc := hD.sub (ws' := (wSy cI cZ cJ sy_a sy)) [3, 4, 5, 6, 7, 8, 9, 10, 11, 12] (by decide) rfl
      have hFc := va_free (wc := (wSy cI cZ cJ sy_a sy)) hD hS hA [3, 4, 5, 6, 7, 8, 9, 10, 11, 12] rfl
      refine va_calli (va_runV (As := [.int x2, .int x3]) (rest := [.int x3, .ref (wr_a 2)]) ⟨hx, hb, hml, hown, hts⟩ (k_Symbols_rowOf l dC dI cI cZ cJ sy_a H.size hf1) (cwV 2 hts (gV t_395 t_396 t_397 t_62 t_398) rfl rfl rfl hd_Symbols_rowOf ⟨Nat.le_trans (Nat.le_of_ble_eq_true rfl) hRf, Nat.le_trans (Nat.le_of_ble_eq_true rfl) hRl⟩) ⟨kP_blind, va_recv hK hP (ci := 0) (q0 := 3) rfl rfl, kP_at hPc hK hDc hN⟩ rfl rfl hl.1 rfl (lv_room (Nat.le_of_ble_eq_true rfl)) d_Writer_layPlane_20 hRc) hS (fun q _ h => hFc q h) hFc (fun r9 u t H1 locs ht hvm hw hB hz1 hk1 hS => ?_)
      rw [hw]
      obtain ⟨hP, hD⟩ := kQ_join (wr := (wWr cI cZ cJ wr_a lk_pb wr)) (w1 := (wSy cI cZ cJ sy_a sy)) hP hD [3, 4, 5, 6, 7, 8, 9, 10, 11, 12] [0, 1, 2] rfl rfl (by decide) (by decide) ht hk1 hFc hB
      generalize H1 = H at hP hS ⊢
      have hP : va_P (dC, dI) vwCl (wWr cI cZ cJ wr_a lk_pb wr ++ wSy cI cZ cJ sy_a sy) H := hP.sub [0, 1, 2, 3, 4, 5, 6, 7, 8, 9, 10, 11, 12] rfl
      have hD : va_D A (wWr cI cZ cJ wr_a lk_pb wr ++ wSy cI cZ cJ sy_a sy) := hD.sub [0, 1, 2, 3, 4, 5, 6, 7, 8, 9, 10, 11, 12] (by decide) rfl
      refine lv_aload_n hx hb d_Writer_layPlane_23 rfl (lv_at hl 1 rfl) ?_
      refine lv_iload_n hx hb d_Writer_layPlane_24 rfl (lv_at hl 2 rfl) ?_
      refine lv_iload_n hx hb d_Writer_layPlane_25 rfl (lv_at hl 3 rfl) ?_
      obtain ⟨r_5, hf1, hf⟩ := bd_ex hf
      try dsimp only at hf
      have hPc := hP.sub (ws' := (wSy cI cZ cJ sy_a sy)) [3, 4, 5, 6, 7, 8, 9, 10, 11, 12] rfl
      have hDc := hD.sub (ws' := (wSy cI cZ cJ sy_a sy)) [3, 4, 5, 6, 7, 8, 9, 10, 11, 12] (by decide) rfl
      have hFc := va_free (wc := (wSy cI cZ cJ sy_a sy)) hD hS hA [3, 4, 5, 6, 7, 8, 9, 10, 11, 12] rfl
      refine va_calli (va_runV (As := [.int x2, .int x3]) (rest := [.int r_4, .int x3, .ref (wr_a 2)]) ⟨hx, hb, hml, hown, hts⟩ (k_Symbols_foretoldRow l dC dI cI cZ cJ sy_a H.size hf1) (cwV 2 hts (gV t_399 t_400 t_401 t_62 t_402) rfl rfl rfl hd_Symbols_foretoldRow ⟨Nat.le_trans (Nat.le_of_ble_eq_true rfl) hRf, Nat.le_trans (Nat.le_of_ble_eq_true rfl) hRl⟩) ⟨kP_blind, va_recv hK hP (ci := 0) (q0 := 3) rfl rfl, kP_at hPc hK hDc hN⟩ rfl rfl hl.1 rfl (lv_room (Nat.le_of_ble_eq_true rfl)) d_Writer_layPlane_26 hRc) hS (fun q _ h => hFc q h) hFc (fun r9 u t H1 locs ht hvm hw hB hz1 hk1 hS => ?_)
      rw [hw]
      obtain ⟨hP, hD⟩ := kQ_join (wr := (wWr cI cZ cJ wr_a lk_pb wr)) (w1 := (wSy cI cZ cJ sy_a sy)) hP hD [3, 4, 5, 6, 7, 8, 9, 10, 11, 12] [0, 1, 2] rfl rfl (by decide) (by decide) ht hk1 hFc hB
      generalize H1 = H at hP hS ⊢
      have hP : va_P (dC, dI) vwCl (wWr cI cZ cJ wr_a lk_pb wr ++ wSy cI cZ cJ sy_a sy) H := hP.sub [0, 1, 2, 3, 4, 5, 6, 7, 8, 9, 10, 11, 12] rfl
      have hD : va_D A (wWr cI cZ cJ wr_a lk_pb wr ++ wSy cI cZ cJ sy_a sy) := hD.sub [0, 1, 2, 3, 4, 5, 6, 7, 8, 9, 10, 11, 12] (by decide) rfl
      refine lv_ixor hx hb d_Writer_layPlane_29 ?_
      obtain ⟨h_6, hf⟩ := gd_ex hf
      refine va_iast (f := Wr_pl wr) hx hb hK hP hD hS 2 0 rfl rfl (inb_in h_6) d_Writer_layPlane_30 (fun H locs hP hD hS => ?_)
      obtain ⟨wr_7, ewr_7, hf⟩ := lt_ex hf
      try dsimp only at hf
      have hP : va_P (dC, dI) vwCl (wWr cI cZ cJ wr_a lk_pb wr_7 ++ wSy cI cZ cJ sy_a sy) H := by rw [ewr_7]; exact hP
      have hD : va_D A (wWr cI cZ cJ wr_a lk_pb wr_7 ++ wSy cI cZ cJ sy_a sy) := by rw [ewr_7]; exact hD
      obtain ⟨x3_9, ex3_9, hf⟩ := lt_ex hf
      try dsimp only at hf
      refine lv_iinc (v := x3_9) (lv' := [(3, .int x3_9), (0, .ref (wr_a 0)), (1, .ref (sy_a 0)), (2, .int x2)]) hx hb d_Writer_layPlane_31 hl (k := 3) rfl (by rw [ex3_9]; rfl) (by decide) rfl (fun ls hl => ?_)
      refine lv_goto (tgt := 2) hx hb d_Writer_layPlane_34 (by decide) ?_
      exact ih _ _ _ wr_7 x3_9 hP hD hS (lv_sub hl [1, 2, 3, 0] rfl) hf
set_option maxHeartbeats 4000000 in
set_option maxRecDepth 100000 in
theorem B_P_Writer_layPlane {cells slots : Nat} {dC : Nat → ClassId} {dI : Nat → Nat → Nat} {cI cZ cJ : ClassId} {wr_a : Nat → Nat} {sy_a : Nat → Nat} {lk_pb : Nat} {wr : Wr} {sy : Sy} {x2 : Int32} {res : Wr} (C0 : cxt p c m s args R cells slots R_Writer c_Writer_layPlane tb 4 (dC, dI) vwCl (TYS cI cZ cJ) A 2 49)
    (hr37 : ∀ (H : Heap) (locs : List Loc) (ls : Array Slot) (wr' : Wr), va_P (dC, dI) vwCl (wWr cI cZ cJ wr_a lk_pb wr' ++ wSy cI cZ cJ sy_a sy) H → va_D A (wWr cI cZ cJ wr_a lk_pb wr' ++ wSy cI cZ cJ sy_a sy) → va_S A s.heap H locs → some wr' = some res → W p l e R s m args below meth c H locs cells slots Q (F0 m 37 ls []))
    {H : Heap} {locs : List Loc} {ls : Array Slot} (hP : va_P (dC, dI) vwCl (wWr cI cZ cJ wr_a lk_pb wr ++ wSy cI cZ cJ sy_a sy) H) (hD : va_D A (wWr cI cZ cJ wr_a lk_pb wr ++ wSy cI cZ cJ sy_a sy)) (hS : va_S A s.heap H locs) (hl : lv_has ls 4 [(0, .ref (wr_a 0)), (1, .ref (sy_a 0)), (2, .int x2)]) (hf : f_P_Writer_layPlane wr sy x2 = some res) : W p l e R s m args below meth c H locs cells slots Q (F0 m 0 ls []) := by
  obtain ⟨hx, hb, hml, hown, hts, hK, hA, hRf, hRl, hN, hRc⟩ := id C0
  rw [f_P_Writer_layPlane] at hf
  refine lv_iconst (v := 0) hx hb d_Writer_layPlane_0 (by decide) ?_
  refine lv_istore_n (lv' := [(3, .int 0), (0, .ref (wr_a 0)), (1, .ref (sy_a 0)), (2, .int x2)]) hx hb d_Writer_layPlane_1 rfl hl (by decide) rfl (fun ls hl => ?_)
  refine L_P_Writer_layPlane_2 C0 (fun H locs ls wr_10 hP hD hS hl hf => ?_) 100000 _ _ _ wr 0 hP hD hS (lv_sub hl [1, 2, 3, 0] rfl) hf
  try dsimp only at hf
  exact hr37 _ _ _ wr_10 hP hD hS hf
end
set_option maxHeartbeats 4000000 in
set_option maxRecDepth 100000 in
theorem k_P_Writer_layPlane (l : Launch) (dC : Nat → ClassId) (dI : Nat → Nat → Nat) (cI cZ cJ : ClassId) (wr_a : Nat → Nat) (sy_a : Nat → Nat) (lk_pb : Nat) (sz : Nat) {wr : Wr} {sy : Sy} {x2 : Int32} {wr' : Wr} (hf : f_P_Writer_layPlane wr sy x2 = some wr') :
    Met l y_Writer_layPlane ws_Writer_layPlane ({ frames := 2, cells := 0, slots := 0, locals := 49 }) (va_Pc [.ref (wr_a 0), .ref (sy_a 0), .int x2] (kP (dC, dI) vwCl (TYS cI cZ cJ) (wWr cI cZ cJ wr_a lk_pb wr ++ wSy cI cZ cJ sy_a sy) sz)) (va_Qv (fun (_ : Unit) => True) (fun _ t => kQ (dC, dI) vwCl (TYS cI cZ cJ) (wWr cI cZ cJ wr_a lk_pb wr ++ wSy cI cZ cJ sy_a sy) sz (wWr cI cZ cJ wr_a lk_pb wr' ++ wSy cI cZ cJ sy_a sy) t) (va_A (wWr cI cZ cJ wr_a lk_pb wr ++ wSy cI cZ cJ sy_a sy) sz)) 0 0 (va_A (wWr cI cZ cJ wr_a lk_pb wr ++ wSy cI cZ cJ sy_a sy) sz) := by
  refine Met.ofW (cc := c_Writer_layPlane) (maxL := 4) (ret := none) (by decide) rfl ?_
  intro p e s m args below meth c s₁ B hml hv
  obtain ⟨rfl, hsz, hP, hK, hD0, hN⟩ := hv
  have hr := B.returns
  have hlocks := B.notSynchronized
  subst hsz
  have hD := hD0.self (sz := s.heap.size)
  have hl := lv_entry ([.ref (wr_a 0), .ref (sy_a 0), .int x2]) (n := 4) (Nat.le_of_ble_eq_true rfl)
  rw [lg_entry_eq]
  generalize (lg_sl ([.ref (wr_a 0), .ref (sy_a 0), .int x2]) ++ List.replicate (4 - (lg_sl ([.ref (wr_a 0), .ref (sy_a 0), .int x2])).length) Slot.unset).toArray = ls at hl ⊢
  refine B_P_Writer_layPlane (A := va_A (wWr cI cZ cJ wr_a lk_pb wr ++ wSy cI cZ cJ sy_a sy) s.heap.size) ⟨B.exec, B.bytes, hml, findClass_of_methodNamed B.named, fun w h => atoms_spec (ws := ws_Writer_layPlane) B.pre w (List.mem_cons_of_mem _ h), hK, fun q h => Or.inr h, Nat.le_of_ble_eq_true rfl, Nat.le_of_ble_eq_true rfl, hN, Nat.le_of_ble_eq_true rfl, Nat.le_of_ble_eq_true rfl⟩ (fun H locs ls wr'1 hP hD hS hf => ?_) hP hD va_S.rf hl hf
  · cases hf
    exact W.vret B.exec B.bytes hr (fun t ht hW => ⟨⟨(), rfl, trivial, ⟨by rw [ht]; exact hP, va_K.moved hW.alike hK, hD⟩⟩, hS.F ht⟩) hS.2.2 d_Writer_layPlane_37

/-! P_Writer_tellSamples -/
def l_P_Writer_tellSamples_37 (wr : Wr) (sy : Sy) (x2 : Int32) (x3 : Int32) (x4 : Int32) (x5 : Int32) (k88 : Pb → Br → Option (Pb × Br)) : Nat → Pb → Br → Int32 → Option (Pb × Br)
  | 0, _, _, _ => none
  | n + 1, pb, w, x6 => gd (inb x2 40) <| (if (Sy_wd sy x2.toNatClampNeg) ≤ x6 then k88 pb w else gd (inb x5 16) <| gd (inb x5 16) <| bd (f_SD_contextAt (Wr_pl wr x5.toNatClampNeg) x4 x6 x3) <| fun r_14 => bd (f_P_PlainBits_putBit pb w (((Wr_pl wr x5.toNatClampNeg) >>> (x6 &&& 31)) &&& 1) r_14) <| fun (pb_15, w_16) => lt' (x6 + 1) <| fun x6_18 => (l_P_Writer_tellSamples_37 wr sy x2 x3 x4 x5 k88 n) pb_15 w_16 x6_18)
theorem mo_l_P_Writer_tellSamples_37 {wr : Wr} {sy : Sy} {x2 : Int32} {x3 : Int32} {x4 : Int32} {x5 : Int32} {k88 : Pb → Br → Option (Pb × Br)} (hkm88 : ∀ (pb_8 : Pb) (w_9 : Br), mle (k88 pb_8 w_9) (Br_byL w_9) (fun r : Pb × Br => Br_byL r.2)) : ∀ (n : Nat) (pb : Pb) (w : Br) (x6 : Int32), mle (l_P_Writer_tellSamples_37 wr sy x2 x3 x4 x5 k88 n pb w x6) (Br_byL w) (fun r : Pb × Br => Br_byL r.2) := by
  intro n
  induction n with
  | zero => intro pb w x6 r hr; exact absurd hr (by simp [l_P_Writer_tellSamples_37])
  | succ n ih =>
    intro pb w x6
    rw [l_P_Writer_tellSamples_37]
    refine mle_gd ?_
    refine mle_if (fun _ => ?_) (fun _ => ?_)
    · exact hkm88 pb w
    · refine mle_gd ?_
      refine mle_gd ?_
      refine mle_bd (fun y9 hy9 => ?_)
      obtain ⟨r_14, rfl⟩ : ∃ z, z = y9 := ⟨_, rfl⟩
      try dsimp only
      refine mle_bd (fun y9 hy9 => ?_)
      obtain ⟨pb_15, w_16⟩ := y9
      try dsimp only
      refine mle_le (mo_P_PlainBits_putBit _ hy9) ?_
      try dsimp only
      refine mle_lt (fun x6_18 ex6_18 => ?_)
      exact ih pb_15 w_16 x6_18
def l_P_Writer_tellSamples_23 (wr : Wr) (sy : Sy) (x2 : Int32) (x3 : Int32) (k103 : Pb → Br → Option (Pb × Br)) : Nat → Pb → Br → Int32 → Int32 → Option (Pb × Br)
  | 0, _, _, _, _ => none
  | n + 1, pb, w, x4, x5 => gd (inb x2 40) <| (if (Sy_ht sy x2.toNatClampNeg) ≤ x5 then k103 pb w else l_P_Writer_tellSamples_37 wr sy x2 x3 x4 x5 (fun pb_19 w_20 => gd (inb x5 16) <| lt' (Wr_pl wr x5.toNatClampNeg) <| fun x4_22 => lt' (x5 + 1) <| fun x5_23 => (l_P_Writer_tellSamples_23 wr sy x2 x3 k103 n) pb_19 w_20 x4_22 x5_23) 100000 pb w 0)
theorem mo_l_P_Writer_tellSamples_23 {wr : Wr} {sy : Sy} {x2 : Int32} {x3 : Int32} {k103 : Pb → Br → Option (Pb × Br)} (hkm103 : ∀ (pb_4 : Pb) (w_5 : Br), mle (k103 pb_4 w_5) (Br_byL w_5) (fun r : Pb × Br => Br_byL r.2)) : ∀ (n : Nat) (pb : Pb) (w : Br) (x4 : Int32) (x5 : Int32), mle (l_P_Writer_tellSamples_23 wr sy x2 x3 k103 n pb w x4 x5) (Br_byL w) (fun r : Pb × Br => Br_byL r.2) := by
  intro n
  induction n with
  | zero => intro pb w x4 x5 r hr; exact absurd hr (by simp [l_P_Writer_tellSamples_23])
  | succ n ih =>
    intro pb w x4 x5
    rw [l_P_Writer_tellSamples_23]
    refine mle_gd ?_
    refine mle_if (fun _ => ?_) (fun _ => ?_)
    · exact hkm103 pb w
    · refine mo_l_P_Writer_tellSamples_37 (fun pb_19 w_20 => ?_) 100000 pb w 0
      try dsimp only
      refine mle_gd ?_
      refine mle_lt (fun x4_22 ex4_22 => ?_)
      refine mle_lt (fun x5_23 ex5_23 => ?_)
      exact ih pb_19 w_20 x4_22 x5_23
def j_P_Writer_tellSamples_16_3 (wr : Wr) (pb : Pb) (w : Br) (sy : Sy) (x2 : Int32) (z0_2 : Int32) : Option (Pb × Br) := l_P_Writer_tellSamples_23 wr sy x2 z0_2 (fun pb_24 w_25 => some (pb_24, w_25)) 100000 pb w 0 0
theorem mo_j_P_Writer_tellSamples_16_3 (wr : Wr) (pb : Pb) (w : Br) (sy : Sy) (x2 : Int32) (z0_2 : Int32) : mle (j_P_Writer_tellSamples_16_3 wr pb w sy x2 z0_2) (Br_byL w) (fun r : Pb × Br => Br_byL r.2) := by
  rw [j_P_Writer_tellSamples_16_3]
  refine mo_l_P_Writer_tellSamples_23 (fun pb_24 w_25 => ?_) 100000 pb w 0 0
  try dsimp only
  exact mle_some (Nat.le_refl _)
def f_P_Writer_tellSamples (wr : Wr) (pb : Pb) (w : Br) (sy : Sy) (x2 : Int32) : Option (Pb × Br) := gd (inb x2 40) <| (if (Sy_bs sy x2.toNatClampNeg) = (-1) then j_P_Writer_tellSamples_16_3 wr pb w sy x2 0 else j_P_Writer_tellSamples_16_3 wr pb w sy x2 16)
theorem mo_P_Writer_tellSamples {wr : Wr} {pb : Pb} {w : Br} {sy : Sy} {x2 : Int32} : mle (f_P_Writer_tellSamples wr pb w sy x2) (Br_byL w) (fun r : Pb × Br => Br_byL r.2) := by
  rw [f_P_Writer_tellSamples]
  refine mle_gd ?_
  refine mle_if (fun _ => ?_) (fun _ => ?_)
  · exact mo_j_P_Writer_tellSamples_16_3 wr pb w sy x2 0
  · exact mo_j_P_Writer_tellSamples_16_3 wr pb w sy x2 16
section
variable {p : Program} {l : Launch} {e : Env} {R : Room} {s : State} {m : MethodId} {args : Array Value} {below : List Frame} {meth : Method} {c : Code} {Q : State → Prop} {A : Nat → Prop}
set_option maxHeartbeats 4000000 in
set_option maxRecDepth 100000 in
theorem L_P_Writer_tellSamples_37 {l0 : Nat} {dC : Nat → ClassId} {dI : Nat → Nat → Nat} {cI cZ cJ : ClassId} {wr_a : Nat → Nat} {pb_a : Nat → Nat} {w_a : Nat} {sy_a : Nat → Nat} {lk_v : Nat} {wr : Wr} {sy : Sy} {x2 : Int32} {x3 : Int32} {x4 : Int32} {x5 : Int32} {k88 : Pb → Br → Option (Pb × Br)} {res : Pb × Br} (C0 : cxt p c m s args R 0 0 R_Writer c_Writer_tellSamples tb 7 (dC, dI) vwCl (TYS cI cZ cJ) A 4 129) (hRc : gR l0 ((fun r : Pb × Br => Br_byL r.2) res) R)
    (hk88 : ∀ (H : Heap) (locs : List Loc) (ls : Array Slot) (cells slots : Nat) (w_b : Nat) (pb_8 : Pb) (w_9 : Br), gok R l0 (Br_byL w_9) cells slots → va_P (dC, dI) vwCl (wWr cI cZ cJ wr_a (pb_a 0) wr ++ wPb cI cZ cJ pb_a w_a lk_v pb_8 ++ wBr cI cZ cJ w_a w_b w_9 ++ wSy cI cZ cJ sy_a sy) H → va_D A (wWr cI cZ cJ wr_a (pb_a 0) wr ++ wPb cI cZ cJ pb_a w_a lk_v pb_8 ++ wBr cI cZ cJ w_a w_b w_9 ++ wSy cI cZ cJ sy_a sy) → va_S A s.heap H locs → lv_has ls 7 [(0, .ref (wr_a 0)), (1, .ref (sy_a 0)), (2, .int x2), (3, .int x3), (5, .int x5)] → k88 pb_8 w_9 = some res → W p l e R s m args below meth c H locs cells slots Q (F0 m 88 ls []))
    (hkm88 : ∀ (pb_8 : Pb) (w_9 : Br), mle (k88 pb_8 w_9) (Br_byL w_9) (fun r : Pb × Br => Br_byL r.2)) :
    ∀ (n : Nat) (H : Heap) (locs : List Loc) (ls : Array Slot) (cells slots : Nat) (w_b : Nat) (pb : Pb) (w : Br) (x6 : Int32), gok R l0 (Br_byL w) cells slots → va_P (dC, dI) vwCl (wWr cI cZ cJ wr_a (pb_a 0) wr ++ wPb cI cZ cJ pb_a w_a lk_v pb ++ wBr cI cZ cJ w_a w_b w ++ wSy cI cZ cJ sy_a sy) H → va_D A (wWr cI cZ cJ wr_a (pb_a 0) wr ++ wPb cI cZ cJ pb_a w_a lk_v pb ++ wBr cI cZ cJ w_a w_b w ++ wSy cI cZ cJ sy_a sy) → va_S A s.heap H locs → lv_has ls 7 [(0, .ref (wr_a 0)), (1, .ref (sy_a 0)), (2, .int x2), (3, .int x3), (4, .int x4), (5, .int x5), (6, .int x6)] → l_P_Writer_tellSamples_37 wr sy x2 x3 x4 x5 k88 n pb w x6 = some res → W p l e R s m args below meth c H locs cells slots Q (F0 m 37 ls []) := by
  obtain ⟨hx, hb, hml, hown, hts, hK, hA, hRf, hRl, hN, _⟩ := id C0
  intro n
  induction n with
  | zero =>
    intro H locs ls cells slots w_b pb w x6 hg hP hD hS hl hf
    exact absurd hf (by simp [l_P_Writer_tellSamples_37])
  | succ n ih =>
    intro H locs ls cells slots w_b pb w x6 hg hP hD hS hl hf
    rw [l_P_Writer_tellSamples_37] at hf
    refine lv_iload hx hb d_Writer_tellSamples_37 (lv_at hl 6 rfl) ?_
    refine lv_aload_n hx hb d_Writer_tellSamples_39 rfl (lv_at hl 1 rfl) ?_
    refine va_get (D := (dC, dI)) (ci := 0) (v := .ref (sy_a 1)) (C := R_Symbols) (T := T_Symbols) (N := 10) hx hb hts in_Symbols hown hK hP 6 rfl rfl 0 (by decide) (hts _ t_207) (fun _ h9 => h9) rfl d_Writer_tellSamples_40 ?_
    refine lv_iload_n hx hb d_Writer_tellSamples_43 rfl (lv_at hl 2 rfl) ?_
    obtain ⟨h_10, hf⟩ := gd_ex hf
    refine va_iald (f := Sy_wd sy) hx hb hK hP 7 0 rfl rfl (inb_in h_10) d_Writer_tellSamples_44 ?_
    refine lv_icmp_ge (tgt := 88) hx hb d_Writer_tellSamples_45 (by decide) (fun c_11 => ?_) (fun c_11 => ?_)
    · rw [if_pos c_11] at hf
      exact hk88 _ _ _ _ _ _ pb w hg hP hD hS (lv_sub hl [0, 1, 2, 3, 5] rfl) hf
    · rw [if_neg c_11] at hf
      refine lv_aload_n hx hb d_Writer_tellSamples_48 rfl (lv_at hl 0 rfl) ?_
      refine va_get (D := (dC, dI)) (ci := 4) (v := .ref (pb_a 0)) (C := R_Writer) (T := T_Writer) (N := 4) hx hb hts in_Writer hown hK hP 0 rfl rfl 0 (by decide) (hts _ t_164) (fun _ h9 => h9) rfl d_Writer_tellSamples_49 ?_
      refine lv_aload_n hx hb d_Writer_tellSamples_52 rfl (lv_at hl 0 rfl) ?_
      refine va_get (D := (dC, dI)) (ci := 4) (v := .ref (wr_a 2)) (C := R_Writer) (T := T_Writer) (N := 4) hx hb hts in_Writer hown hK hP 0 rfl rfl 3 (by decide) (hts _ t_167) (fun _ h9 => h9) rfl d_Writer_tellSamples_53 ?_
      refine lv_iload hx hb d_Writer_tellSamples_56 (lv_at hl 5 rfl) ?_
      obtain ⟨h_12, hf⟩ := gd_ex hf
      refine va_iald (f := Wr_pl wr) hx hb hK hP 2 0 rfl rfl (inb_in h_12) d_Writer_tellSamples_58 ?_
      refine lv_iload hx hb d_Writer_tellSamples_59 (lv_at hl 6 rfl) ?_
      refine lv_ishr hx hb d_Writer_tellSamples_61 ?_
      refine lv_iconst (v := 1) hx hb d_Writer_tellSamples_62 (by decide) ?_
      refine lv_iand hx hb d_Writer_tellSamples_63 ?_
      refine lv_aload_n hx hb d_Writer_tellSamples_64 rfl (lv_at hl 0 rfl) ?_
      refine va_get (D := (dC, dI)) (ci := 4) (v := .ref (wr_a 2)) (C := R_Writer) (T := T_Writer) (N := 4) hx hb hts in_Writer hown hK hP 0 rfl rfl 3 (by decide) (hts _ t_167) (fun _ h9 => h9) rfl d_Writer_tellSamples_65 ?_
      refine lv_iload hx hb d_Writer_tellSamples_68 (lv_at hl 5 rfl) ?_
      obtain ⟨h_13, hf⟩ := gd_ex hf
      refine va_iald (f := Wr_pl wr) hx hb hK hP 2 0 rfl rfl (inb_in h_13) d_Writer_tellSamples_70 ?_
      refine lv_iload hx hb d_Writer_tellSamples_71 (lv_at hl 4 rfl) ?_
      refine lv_iload hx hb d_Writer_tellSamples_73 (lv_at hl 6 rfl) ?_
      refine lv_iload_n hx hb d_Writer_tellSamples_75 rfl (lv_at hl 3 rfl) ?_
      obtain ⟨r_14, hf1, hf⟩ := bd_ex hf
      try dsimp only at hf
      have hPc := hP.sub (ws' := ([] : va_W)) [] rfl
      have hDc := hD.sub (ws' := ([] : va_W)) [] (by decide) rfl
      have hFc := va_free (wc := ([] : va_W)) hD hS hA [] rfl
      refine va_calli (va_runSN (As := [.int (Wr_pl wr x5.toNatClampNeg), .int x4, .int x6, .int x3]) (rest := [.int (((Wr_pl wr x5.toNatClampNeg) >>> (x6 &&& 31)) &&& 1), .ref (pb_a 0)]) ⟨hx, hb, hml, hown, hts⟩ (k_SD_contextAt l dC dI cI cZ cJ H.size hf1) ⟨va_cnB 4 hts (tb_GI (tb_code t_418)) rfl rfl rfl hN.1.2.1 (hts _ t_54) hd_SD_contextAt.2 ⟨Nat.le_trans (Nat.le_of_ble_eq_true rfl) hRf, Nat.le_trans (Nat.le_of_ble_eq_true rfl) hRl⟩, hts _ t_417, trivial⟩ ⟨kP_blind, kP_at hPc hK hDc hN⟩ rfl rfl hl.1 rfl (lv_room (Nat.le_of_ble_eq_true rfl)) d_Writer_tellSamples_76 hg.2.2.2) hS (fun q _ h => hFc q h) hFc (fun r9 u t H1 locs ht hvm hw hB hz1 hk1 hS => ?_)
      rw [hw]
      obtain ⟨hP, hD⟩ := kQ_join (wr := (wWr cI cZ cJ wr_a (pb_a 0) wr ++ wPb cI cZ cJ pb_a w_a lk_v pb ++ wBr cI cZ cJ w_a w_b w ++ wSy cI cZ cJ sy_a sy)) (w1 := ([] : va_W)) hP hD [] [0, 1, 2, 3, 4, 5, 6, 7, 8, 9, 10, 11, 12, 13, 14, 15] rfl rfl (by decide) (by decide) ht hk1 hFc hB
      generalize H1 = H at hP hS ⊢
      have hP : va_P (dC, dI) vwCl (wWr cI cZ cJ wr_a (pb_a 0) wr ++ wPb cI cZ cJ pb_a w_a lk_v pb ++ wBr cI cZ cJ w_a w_b w ++ wSy cI cZ cJ sy_a sy) H := hP.sub [0, 1, 2, 3, 4, 5, 6, 7, 8, 9, 10, 11, 12, 13, 14, 15] rfl
      have hD : va_D A (wWr cI cZ cJ wr_a (pb_a 0) wr ++ wPb cI cZ cJ pb_a w_a lk_v pb ++ wBr cI cZ cJ w_a w_b w ++ wSy cI cZ cJ sy_a sy) := hD.sub [0, 1, 2, 3, 4, 5, 6, 7, 8, 9, 10, 11, 12, 13, 14, 15] (by decide) rfl
      obtain ⟨⟨pb_15, w_16⟩, hf1, hf⟩ := bd_ex hf
      try dsimp only at hf
      have hm0 := mo_P_PlainBits_putBit _ hf1
      try dsimp only at hm0
      have hm : Br_byL w_16 ≤ (fun r : Pb × Br => Br_byL r.2) res := by
        refine mle_use (π := (fun r : Pb × Br => Br_byL r.2)) hf ?_
        refine mle_lt (fun x6_18 ex6_18 => ?_)
        exact mo_l_P_Writer_tellSamples_37 hkm88 n pb_15 w_16 x6_18
      have hPc := hP.sub (ws' := (wPb cI cZ cJ pb_a w_a lk_v pb ++ wBr cI cZ cJ w_a w_b w)) [3, 4, 5] rfl
      have hDc := hD.sub (ws' := (wPb cI cZ cJ pb_a w_a lk_v pb ++ wBr cI cZ cJ w_a w_b w)) [3, 4, 5] (by decide) rfl
      have hFc := va_free (wc := (wPb cI cZ cJ pb_a w_a lk_v pb ++ wBr cI cZ cJ w_a w_b w)) hD hS hA [3, 4, 5] rfl
      refine va_callv (va_runU (As := [.int (((Wr_pl wr x5.toNatClampNeg) >>> (x6 &&& 31)) &&& 1), .int r_14]) (rest := []) ⟨hx, hb, hml, hown, hts⟩ (k_P_PlainBits_putBit l dC dI cI cZ cJ pb_a w_a w_b lk_v H.size hf1) (va_cwA 2 hts (gU t_385 t_333 t_377 t_378 t_59 t_379) rfl rfl rfl (hN.2 _ (by decide +kernel)) hdx_Bits_putBit ⟨Nat.le_trans (Nat.le_of_ble_eq_true rfl) hRf, Nat.le_trans (Nat.le_of_ble_eq_true rfl) hRl⟩) ⟨kP_blind, va_recv hK hP (ci := 2) (q0 := 3) rfl rfl, kP_at hPc hK hDc hN⟩ rfl rfl hl.1 rfl (lv_room (Nat.le_of_ble_eq_true rfl)) d_Writer_tellSamples_79 (g_room hg hm0 hm hRc)) hS (fun q _ h => hFc q h) hFc (fun w_q_17 t H1 locs ht hvm hw hB hz1 hk1 hS => ?_)
      have hg := g_step (L0 := Br_byL w) (L1 := Br_byL w_16) hg hm0 hm hRc
      generalize cells + (Br_byL w_16 - Br_byL w) = cells at hg ⊢
      generalize slots + 2 * (Br_byL w_16 - Br_byL w) = slots at hg ⊢
      obtain ⟨hP, hD⟩ := kQ_join (wr := (wWr cI cZ cJ wr_a (pb_a 0) wr ++ wSy cI cZ cJ sy_a sy)) (w1 := (wPb cI cZ cJ pb_a w_a lk_v pb_15 ++ wBr cI cZ cJ w_a w_q_17 w_16)) hP hD [3, 4, 5] [0, 1, 2, 6, 7, 8, 9, 10, 11, 12, 13, 14, 15] rfl rfl (by decide) (by decide) ht hk1 hFc hB
      generalize H1 = H at hP hS ⊢
      have hP : va_P (dC, dI) vwCl (wWr cI cZ cJ wr_a (pb_a 0) wr ++ wPb cI cZ cJ pb_a w_a lk_v pb_15 ++ wBr cI cZ cJ w_a w_q_17 w_16 ++ wSy cI cZ cJ sy_a sy) H := hP.sub [0, 1, 2, 13, 14, 15, 3, 4, 5, 6, 7, 8, 9, 10, 11, 12] rfl
      have hD : va_D A (wWr cI cZ cJ wr_a (pb_a 0) wr ++ wPb cI cZ cJ pb_a w_a lk_v pb_15 ++ wBr cI cZ cJ w_a w_q_17 w_16 ++ wSy cI cZ cJ sy_a sy) := hD.sub [0, 1, 2, 13, 14, 15, 3, 4, 5, 6, 7, 8, 9, 10, 11, 12] (by decide) rfl
      obtain ⟨x6_18, ex6_18, hf⟩ := lt_ex hf
      try dsimp only at hf
      refine lv_iinc (v := x6_18) (lv' := [(6, .int x6_18), (0, .ref (wr_a 0)), (1, .ref (sy_a 0)), (2, .int x2), (3, .int x3), (4, .int x4), (5, .int x5)]) hx hb d_Writer_tellSamples_82 hl (k := 6) rfl (by rw [ex6_18]; rfl) (by decide) rfl (fun ls hl => ?_)
      refine lv_goto (tgt := 37) hx hb d_Writer_tellSamples_85 (by decide) ?_
      exact ih _ _ _ _ _ _ pb_15 w_16 x6_18 hg hP hD hS (lv_sub hl [1, 2, 3, 4, 5, 6, 0] rfl) hf
set_option maxHeartbeats 4000000 in
set_option maxRecDepth 100000 in
theorem L_P_Writer_tellSamples_23 {l0 : Nat} {dC : Nat → ClassId} {dI : Nat → Nat → Nat} {cI cZ cJ : ClassId} {wr_a : Nat → Nat} {pb_a : Nat → Nat} {w_a : Nat} {sy_a : Nat → Nat} {lk_v : Nat} {wr : Wr} {sy : Sy} {x2 : Int32} {x3 : Int32} {k103 : Pb → Br → Option (Pb × Br)} {res : Pb × Br} (C0 : cxt p c m s args R 0 0 R_Writer c_Writer_tellSamples tb 7 (dC, dI) vwCl (TYS cI cZ cJ) A 4 129) (hRc : gR l0 ((fun r : Pb × Br => Br_byL r.2) res) R)
    (hk103 : ∀ (H : Heap) (locs : List Loc) (ls : Array Slot) (cells slots : Nat) (w_b : Nat) (pb_4 : Pb) (w_5 : Br), gok R l0 (Br_byL w_5) cells slots → va_P (dC, dI) vwCl (wWr cI cZ cJ wr_a (pb_a 0) wr ++ wPb cI cZ cJ pb_a w_a lk_v pb_4 ++ wBr cI cZ cJ w_a w_b w_5 ++ wSy cI cZ cJ sy_a sy) H → va_D A (wWr cI cZ cJ wr_a (pb_a 0) wr ++ wPb cI cZ cJ pb_a w_a lk_v pb_4 ++ wBr cI cZ cJ w_a w_b w_5 ++ wSy cI cZ cJ sy_a sy) → va_S A s.heap H locs → lv_has ls 7 [] → k103 pb_4 w_5 = some res → W p l e R s m args below meth c H locs cells slots Q (F0 m 103 ls []))
    (hkm103 : ∀ (pb_4 : Pb) (w_5 : Br), mle (k103 pb_4 w_5) (Br_byL w_5) (fun r : Pb × Br => Br_byL r.2)) :
    ∀ (n : Nat) (H : Heap) (locs : List Loc) (ls : Array Slot) (cells slots : Nat) (w_b : Nat) (pb : Pb) (w : Br) (x4 : Int32) (x5 : Int32), gok R l0 (Br_byL w) cells slots → va_P (dC, dI) vwCl (wWr cI cZ cJ wr_a (pb_a 0) wr ++ wPb cI cZ cJ pb_a w_a lk_v pb ++ wBr cI cZ cJ w_a w_b w ++ wSy cI cZ cJ sy_a sy) H → va_D A (wWr cI cZ cJ wr_a (pb_a 0) wr ++ wPb cI cZ cJ pb_a w_a lk_v pb ++ wBr cI cZ cJ w_a w_b w ++ wSy cI cZ cJ sy_a sy) → va_S A s.heap H locs → lv_has ls 7 [(0, .ref (wr_a 0)), (1, .ref (sy_a 0)), (2, .int x2), (3, .int x3), (4, .int x4), (5, .int x5)] → l_P_Writer_tellSamples_23 wr sy x2 x3 k103 n pb w x4 x5 = some res → W p l e R s m args below meth c H locs cells slots Q (F0 m 23 ls []) := by
  obtain ⟨hx, hb, hml, hown, hts, hK, hA, hRf, hRl, hN, _⟩ := id C0
  intro n
  induction n with
  | zero =>
    intro H locs ls cells slots w_b pb w x4 x5 hg hP hD hS hl hf
    exact absurd hf (by simp [l_P_Writer_tellSamples_23])
  | succ n ih =>
    intro H locs ls cells slots w_b pb w x4 x5 hg hP hD hS hl hf
    rw [l_P_Writer_tellSamples_23] at hf
    refine lv_iload hx hb d_Writer_tellSamples_23 (lv_at hl 5 rfl) ?_
    refine lv_aload_n hx hb d_Writer_tellSamples_25 rfl (lv_at hl 1 rfl) ?_
    refine va_get (D := (dC, dI)) (ci := 0) (v := .ref (sy_a 2)) (C := R_Symbols) (T := T_Symbols) (N := 10) hx hb hts in_Symbols hown hK hP 6 rfl rfl 1 (by decide) (hts _ t_211) (fun _ h9 => h9) rfl d_Writer_tellSamples_26 ?_
    refine lv_iload_n hx hb d_Writer_tellSamples_29 rfl (lv_at hl 2 rfl) ?_
    obtain ⟨h_6, hf⟩ := gd_ex hf
    refine va_iald (f := Sy_ht sy) hx hb hK hP 8 0 rfl rfl (inb_in h_6) d_Writer_tellSamples_30 ?_
    refine lv_icmp_ge (tgt := 103) hx hb d_Writer_tellSamples_31 (by decide) (fun c_7 => ?_) (fun c_7 => ?_)
    · rw [if_pos c_7] at hf
      exact hk103 _ _ _ _ _ _ pb w hg hP hD hS (lv_sub hl [] rfl) hf
    · rw [if_neg c_7] at hf
      refine lv_iconst (v := 0) hx hb d_Writer_tellSamples_34 (by decide) ?_
      refine lv_istore (lv' := [(6, .int 0), (0, .ref (wr_a 0)), (1, .ref (sy_a 0)), (2, .int x2), (3, .int x3), (4, .int x4), (5, .int x5)]) hx hb d_Writer_tellSamples_35 hl (by decide) rfl (fun ls hl => ?_)
      refine L_P_Writer_tellSamples_37 C0 hRc (fun H locs ls cells slots w_b pb_19 w_20 hg hP hD hS hl hf => ?_) (fun pb_19 w_20 => ?_) 100000 _ _ _ _ _ _ pb w 0 hg hP hD hS (lv_sub hl [1, 2, 3, 4, 5, 6, 0] rfl) hf
      · try dsimp only at hf
        refine lv_aload_n hx hb d_Writer_tellSamples_88 rfl (lv_at hl 0 rfl) ?_
        refine va_get (D := (dC, dI)) (ci := 4) (v := .ref (wr_a 2)) (C := R_Writer) (T := T_Writer) (N := 4) hx hb hts in_Writer hown hK hP 0 rfl rfl 3 (by decide) (hts _ t_167) (fun _ h9 => h9) rfl d_Writer_tellSamples_89 ?_
        refine lv_iload hx hb d_Writer_tellSamples_92 (lv_at hl 4 rfl) ?_
        obtain ⟨h_21, hf⟩ := gd_ex hf
        refine va_iald (f := Wr_pl wr) hx hb hK hP 2 0 rfl rfl (inb_in h_21) d_Writer_tellSamples_94 ?_
        obtain ⟨x4_22, ex4_22, hf⟩ := lt_ex hf
        try dsimp only at hf
        refine tp_i ex4_22 ?_
        refine lv_istore (lv' := [(4, .int x4_22), (0, .ref (wr_a 0)), (1, .ref (sy_a 0)), (2, .int x2), (3, .int x3), (5, .int x5)]) hx hb d_Writer_tellSamples_95 hl (by decide) rfl (fun ls hl => ?_)
        obtain ⟨x5_23, ex5_23, hf⟩ := lt_ex hf
        try dsimp only at hf
        refine lv_iinc (v := x5_23) (lv' := [(5, .int x5_23), (4, .int x4_22), (0, .ref (wr_a 0)), (1, .ref (sy_a 0)), (2, .int x2), (3, .int x3)]) hx hb d_Writer_tellSamples_97 hl (k := 5) rfl (by rw [ex5_23]; rfl) (by decide) rfl (fun ls hl => ?_)
        refine lv_goto (tgt := 23) hx hb d_Writer_tellSamples_100 (by decide) ?_
        exact ih _ _ _ _ _ _ pb_19 w_20 x4_22 x5_23 hg hP hD hS (lv_sub hl [2, 3, 4, 5, 1, 0] rfl) hf
      · try dsimp only
        refine mle_gd ?_
        refine mle_lt (fun x4_22 ex4_22 => ?_)
        refine mle_lt (fun x5_23 ex5_23 => ?_)
        exact mo_l_P_Writer_tellSamples_23 hkm103 n pb_19 w_20 x4_22 x5_23
set_option maxHeartbeats 4000000 in
set_option maxRecDepth 100000 in
theorem B_P_Writer_tellSamples {cells slots : Nat} {l0 : Nat} {dC : Nat → ClassId} {dI : Nat → Nat → Nat} {cI cZ cJ : ClassId} {wr_a : Nat → Nat} {pb_a : Nat → Nat} {w_a : Nat} {sy_a : Nat → Nat} {lk_v : Nat} {w_b : Nat} {wr : Wr} {pb : Pb} {w : Br} {sy : Sy} {x2 : Int32} {res : Pb × Br} (C0 : cxt p c m s args R 0 0 R_Writer c_Writer_tellSamples tb 7 (dC, dI) vwCl (TYS cI cZ cJ) A 4 129) (hRc : gR l0 ((fun r : Pb × Br => Br_byL r.2) res) R)
    (hr103 : ∀ (H : Heap) (locs : List Loc) (ls : Array Slot) (cells slots : Nat) (w_b : Nat) (pb' : Pb) (w' : Br), gok R l0 (Br_byL w') cells slots → va_P (dC, dI) vwCl (wWr cI cZ cJ wr_a (pb_a 0) wr ++ wPb cI cZ cJ pb_a w_a lk_v pb' ++ wBr cI cZ cJ w_a w_b w' ++ wSy cI cZ cJ sy_a sy) H → va_D A (wWr cI cZ cJ wr_a (pb_a 0) wr ++ wPb cI cZ cJ pb_a w_a lk_v pb' ++ wBr cI cZ cJ w_a w_b w' ++ wSy cI cZ cJ sy_a sy) → va_S A s.heap H locs → some (pb', w') = some res → W p l e R s m args below meth c H locs cells slots Q (F0 m 103 ls []))
    {H : Heap} {locs : List Loc} {ls : Array Slot} (hg : gok R l0 (Br_byL w) cells slots) (hP : va_P (dC, dI) vwCl (wWr cI cZ cJ wr_a (pb_a 0) wr ++ wPb cI cZ cJ pb_a w_a lk_v pb ++ wBr cI cZ cJ w_a w_b w ++ wSy cI cZ cJ sy_a sy) H) (hD : va_D A (wWr cI cZ cJ wr_a (pb_a 0) wr ++ wPb cI cZ cJ pb_a w_a lk_v pb ++ wBr cI cZ cJ w_a w_b w ++ wSy cI cZ cJ sy_a sy)) (hS : va_S A s.heap H locs) (hl : lv_has ls 7 [(0, .ref (wr_a 0)), (1, .ref (sy_a 0)), (2, .int x2)]) (hf : f_P_Writer_tellSamples wr pb w sy x2 = some res) : W p l e R s m args below meth c H locs cells slots Q (F0 m 0 ls []) := by
  obtain ⟨hx, hb, hml, hown, hts, hK, hA, hRf, hRl, hN, _⟩ := id C0
  rw [f_P_Writer_tellSamples] at hf
  refine lv_aload_n hx hb d_Writer_tellSamples_0 rfl (lv_at hl 1 rfl) ?_
  refine va_get (D := (dC, dI)) (ci := 0) (v := .ref (sy_a 4)) (C := R_Symbols) (T := T_Symbols) (N := 10) hx hb hts in_Symbols hown hK hP 6 rfl rfl 3 (by decide) (hts _ t_219) (fun _ h9 => h9) rfl d_Writer_tellSamples_1 ?_
  refine lv_iload_n hx hb d_Writer_tellSamples_4 rfl (lv_at hl 2 rfl) ?_
  obtain ⟨h_1, hf⟩ := gd_ex hf
  refine va_iald (f := Sy_bs sy) hx hb hK hP 10 0 rfl rfl (inb_in h_1) d_Writer_tellSamples_5 ?_
  refine lv_iconst (v := (-1)) hx hb d_Writer_tellSamples_6 (by decide) ?_
  have J16_2 : ∀ (H : Heap) (locs : List Loc) (ls : Array Slot) (cells slots : Nat) (w_b : Nat) (z0_2 : Int32), gok R l0 (Br_byL w) cells slots → va_P (dC, dI) vwCl (wWr cI cZ cJ wr_a (pb_a 0) wr ++ wPb cI cZ cJ pb_a w_a lk_v pb ++ wBr cI cZ cJ w_a w_b w ++ wSy cI cZ cJ sy_a sy) H → va_D A (wWr cI cZ cJ wr_a (pb_a 0) wr ++ wPb cI cZ cJ pb_a w_a lk_v pb ++ wBr cI cZ cJ w_a w_b w ++ wSy cI cZ cJ sy_a sy) → va_S A s.heap H locs → lv_has ls 7 [(0, .ref (wr_a 0)), (1, .ref (sy_a 0)), (2, .int x2)] → j_P_Writer_tellSamples_16_3 wr pb w sy x2 z0_2 = some res → W p l e R s m args below meth c H locs cells slots Q (F0 m 16 ls [.int z0_2]) := by
    intro H locs ls cells slots w_b z0_2 hg hP hD hS hl hf
    rw [j_P_Writer_tellSamples_16_3] at hf
    refine lv_istore_n (lv' := [(3, .int z0_2), (0, .ref (wr_a 0)), (1, .ref (sy_a 0)), (2, .int x2)]) hx hb d_Writer_tellSamples_16 rfl hl (by decide) rfl (fun ls hl => ?_)
    refine lv_iconst (v := 0) hx hb d_Writer_tellSamples_17 (by decide) ?_
    refine lv_istore (lv' := [(4, .int 0), (3, .int z0_2), (0, .ref (wr_a 0)), (1, .ref (sy_a 0)), (2, .int x2)]) hx hb d_Writer_tellSamples_18 hl (by decide) rfl (fun ls hl => ?_)
    refine lv_iconst (v := 0) hx hb d_Writer_tellSamples_20 (by decide) ?_
    refine lv_istore (lv' := [(5, .int 0), (4, .int 0), (3, .int z0_2), (0, .ref (wr_a 0)), (1, .ref (sy_a 0)), (2, .int x2)]) hx hb d_Writer_tellSamples_21 hl (by decide) rfl (fun ls hl => ?_)
    refine L_P_Writer_tellSamples_23 C0 hRc (fun H locs ls cells slots w_b pb_24 w_25 hg hP hD hS hl hf => ?_) (fun pb_24 w_25 => ?_) 100000 _ _ _ _ _ _ pb w 0 0 hg hP hD hS (lv_sub hl [3, 4, 5, 2, 1, 0] rfl) hf
    · try dsimp only at hf
      exact hr103 _ _ _ _ _ _ pb_24 w_25 hg hP hD hS hf
    · try dsimp only
      exact mle_some (Nat.le_refl _)
  refine lv_icmp_ne (tgt := 14) hx hb d_Writer_tellSamples_7 (by decide) (fun c_26 => ?_) (fun c_26 => ?_)
  · rw [if_neg c_26] at hf
    refine lv_bipush (v := 16) hx hb d_Writer_tellSamples_14 (by decide) ?_
    exact J16_2 _ _ _ _ _ _ 16 hg hP hD hS (lv_sub hl [0, 1, 2] rfl) hf
  · rw [if_pos c_26] at hf
    refine lv_iconst (v := 0) hx hb d_Writer_tellSamples_10 (by decide) ?_
    refine lv_goto (tgt := 16) hx hb d_Writer_tellSamples_11 (by decide) ?_
    exact J16_2 _ _ _ _ _ _ 0 hg hP hD hS (lv_sub hl [0, 1, 2] rfl) hf
end
set_option maxHeartbeats 4000000 in
set_option maxRecDepth 100000 in
theorem k_P_Writer_tellSamples (l : Launch) (dC : Nat → ClassId) (dI : Nat → Nat → Nat) (cI cZ cJ : ClassId) (wr_a : Nat → Nat) (pb_a : Nat → Nat) (w_a w_b : Nat) (sy_a : Nat → Nat) (lk_v : Nat) (sz : Nat) {wr : Wr} {pb : Pb} {w : Br} {sy : Sy} {x2 : Int32} {pb' : Pb} {w' : Br} (hf : f_P_Writer_tellSamples wr pb w sy x2 = some (pb', w')) :
    Met l y_Writer_tellSamples ws_Writer_tellSamples ({ frames := 4, cells := (Br_byL w' - Br_byL w), slots := (2 * (Br_byL w' - Br_byL w)), locals := 129 }) (va_Pc [.ref (wr_a 0), .ref (sy_a 0), .int x2] (kP (dC, dI) vwCl (TYS cI cZ cJ) (wWr cI cZ cJ wr_a (pb_a 0) wr ++ wPb cI cZ cJ pb_a w_a lk_v pb ++ wBr cI cZ cJ w_a w_b w ++ wSy cI cZ cJ sy_a sy) sz)) (va_Qv (fun (_ : Nat) => True) (fun q9 t => kQ (dC, dI) vwCl (TYS cI cZ cJ) (wWr cI cZ cJ wr_a (pb_a 0) wr ++ wPb cI cZ cJ pb_a w_a lk_v pb ++ wBr cI cZ cJ w_a w_b w ++ wSy cI cZ cJ sy_a sy) sz (wWr cI cZ cJ wr_a (pb_a 0) wr ++ wPb cI cZ cJ pb_a w_a lk_v pb' ++ wBr cI cZ cJ w_a q9 w' ++ wSy cI cZ cJ sy_a sy) t) (va_A (wWr cI cZ cJ wr_a (pb_a 0) wr ++ wPb cI cZ cJ pb_a w_a lk_v pb ++ wBr cI cZ cJ w_a w_b w ++ wSy cI cZ cJ sy_a sy) sz)) (Br_byL w' - Br_byL w) (2 * (Br_byL w' - Br_byL w)) (va_A (wWr cI cZ cJ wr_a (pb_a 0) wr ++ wPb cI cZ cJ pb_a w_a lk_v pb ++ wBr cI cZ cJ w_a w_b w ++ wSy cI cZ cJ sy_a sy) sz) := by
  refine Met.ofW (cc := c_Writer_tellSamples) (maxL := 7) (ret := none) (by decide) rfl ?_
  intro p e s m args below meth c s₁ B hml hv
  obtain ⟨rfl, hsz, hP, hK, hD0, hN⟩ := hv
  have hr := B.returns
  have hlocks := B.notSynchronized
  subst hsz
  have hD := hD0.self (sz := s.heap.size)
  have hl := lv_entry ([.ref (wr_a 0), .ref (sy_a 0), .int x2]) (n := 7) (Nat.le_of_ble_eq_true rfl)
  rw [lg_entry_eq]
  generalize (lg_sl ([.ref (wr_a 0), .ref (sy_a 0), .int x2]) ++ List.replicate (7 - (lg_sl ([.ref (wr_a 0), .ref (sy_a 0), .int x2])).length) Slot.unset).toArray = ls at hl ⊢
  refine B_P_Writer_tellSamples (A := va_A (wWr cI cZ cJ wr_a (pb_a 0) wr ++ wPb cI cZ cJ pb_a w_a lk_v pb ++ wBr cI cZ cJ w_a w_b w ++ wSy cI cZ cJ sy_a sy) s.heap.size) ⟨B.exec, B.bytes, hml, findClass_of_methodNamed B.named, fun w h => atoms_spec (ws := ws_Writer_tellSamples) B.pre w (List.mem_cons_of_mem _ h), hK, fun q h => Or.inr h, Nat.le_of_ble_eq_true rfl, Nat.le_of_ble_eq_true rfl, hN, Nat.zero_le _, Nat.zero_le _⟩ ⟨Nat.le_refl _, Nat.le_refl _⟩ (fun H locs ls cells slots q9 pb'1 w'1 hg hP hD hS hf => ?_) ⟨Nat.le_refl _, Nat.zero_le _, Nat.zero_le _, Nat.zero_le _, Nat.zero_le _⟩ hP hD va_S.rf hl hf
  · cases hf
    refine W.widen (k := (Br_byL w' - Br_byL w)) (n := (2 * (Br_byL w' - Br_byL w))) hg.2.1 hg.2.2.1 ?_
    exact W.vret B.exec B.bytes hr (fun t ht hW => ⟨⟨q9, rfl, trivial, ⟨by rw [ht]; exact hP, va_K.moved hW.alike hK, hD⟩⟩, hS.F ht⟩) hS.2.2 d_Writer_tellSamples_103

/-! P_Writer_tellRuns -/
def l_P_Writer_tellRuns_22 (wr : Wr) (sy : Sy) (x2 : Int32) (x5 : Int32) (k74 : Pb → Br → Int32 → Int32 → Option (Pb × Br)) : Nat → Pb → Br → Int32 → Int32 → Int32 → Option (Pb × Br)
  | 0, _, _, _, _, _ => none
  | n + 1, pb, w, x3, x4, x6 => gd (inb x2 40) <| (if (Sy_wd sy x2.toNatClampNeg) ≤ x6 then k74 pb w x3 x4 else gd (inb x5 16) <| (if (((Wr_pl wr x5.toNatClampNeg) >>> (x6 &&& 31)) &&& 1) = x3 then lt' (x4 + 1) <| fun x4_14 => lt' (x6 + 1) <| fun x6_15 => (l_P_Writer_tellRuns_22 wr sy x2 x5 k74 n) pb w x3 x4_14 x6_15 else bd (f_P_Bits_putNumber pb w x4) <| fun (pb_16, w_17) => lt' (1 - x3) <| fun x3_19 => lt' (0 + 1) <| fun x4_20 => lt' (x6 + 1) <| fun x6_21 => (l_P_Writer_tellRuns_22 wr sy x2 x5 k74 n) pb_16 w_17 x3_19 x4_20 x6_21))
theorem mo_l_P_Writer_tellRuns_22 {wr : Wr} {sy : Sy} {x2 : Int32} {x5 : Int32} {k74 : Pb → Br → Int32 → Int32 → Option (Pb × Br)} (hkm74 : ∀ (pb_6 : Pb) (w_7 : Br) (x3_8 : Int32) (x4_9 : Int32), mle (k74 pb_6 w_7 x3_8 x4_9) (Br_byL w_7) (fun r : Pb × Br => Br_byL r.2)) : ∀ (n : Nat) (pb : Pb) (w : Br) (x3 : Int32) (x4 : Int32) (x6 : Int32), mle (l_P_Writer_tellRuns_22 wr sy x2 x5 k74 n pb w x3 x4 x6) (Br_byL w) (fun r : Pb × Br => Br_byL r.2) := by
  intro n
  induction n with
  | zero => intro pb w x3 x4 x6 r hr; exact absurd hr (by simp [l_P_Writer_tellRuns_22])
  | succ n ih =>
    intro pb w x3 x4 x6
    rw [l_P_Writer_tellRuns_22]
    refine mle_gd ?_
    refine mle_if (fun _ => ?_) (fun _ => ?_)
    · exact hkm74 pb w x3 x4
    · refine mle_gd ?_
      refine mle_if (fun _ => ?_) (fun _ => ?_)
      · refine mle_lt (fun x4_14 ex4_14 => ?_)
        refine mle_lt (fun x6_15 ex6_15 => ?_)
        exact ih pb w x3 x4_14 x6_15
      · refine mle_bd (fun y9 hy9 => ?_)
        obtain ⟨pb_16, w_17⟩ := y9
        try dsimp only
        refine mle_le (mo_P_Bits_putNumber _ hy9) ?_
        try dsimp only
        refine mle_lt (fun x3_19 ex3_19 => ?_)
        refine mle_lt (fun x4_20 ex4_20 => ?_)
        refine mle_lt (fun x6_21 ex6_21 => ?_)
        exact ih pb_16 w_17 x3_19 x4_20 x6_21
def l_P_Writer_tellRuns_8 (wr : Wr) (sy : Sy) (x2 : Int32) (k80 : Pb → Br → Int32 → Option (Pb × Br)) : Nat → Pb → Br → Int32 → Int32 → Int32 → Option (Pb × Br)
  | 0, _, _, _, _, _ => none
  | n + 1, pb, w, x3, x4, x5 => gd (inb x2 40) <| (if (Sy_ht sy x2.toNatClampNeg) ≤ x5 then k80 pb w x4 else l_P_Writer_tellRuns_22 wr sy x2 x5 (fun pb_22 w_23 x3_24 x4_25 => lt' (x5 + 1) <| fun x5_26 => (l_P_Writer_tellRuns_8 wr sy x2 k80 n) pb_22 w_23 x3_24 x4_25 x5_26) 100000 pb w x3 x4 0)
theorem mo_l_P_Writer_tellRuns_8 {wr : Wr} {sy : Sy} {x2 : Int32} {k80 : Pb → Br → Int32 → Option (Pb × Br)} (hkm80 : ∀ (pb_1 : Pb) (w_2 : Br) (x4_3 : Int32), mle (k80 pb_1 w_2 x4_3) (Br_byL w_2) (fun r : Pb × Br => Br_byL r.2)) : ∀ (n : Nat) (pb : Pb) (w : Br) (x3 : Int32) (x4 : Int32) (x5 : Int32), mle (l_P_Writer_tellRuns_8 wr sy x2 k80 n pb w x3 x4 x5) (Br_byL w) (fun r : Pb × Br => Br_byL r.2) := by
  intro n
  induction n with
  | zero => intro pb w x3 x4 x5 r hr; exact absurd hr (by simp [l_P_Writer_tellRuns_8])
  | succ n ih =>
    intro pb w x3 x4 x5
    rw [l_P_Writer_tellRuns_8]
    refine mle_gd ?_
    refine mle_if (fun _ => ?_) (fun _ => ?_)
    · exact hkm80 pb w x4
    · refine mo_l_P_Writer_tellRuns_22 (fun pb_22 w_23 x3_24 x4_25 => ?_) 100000 pb w x3 x4 0
      try dsimp only
      refine mle_lt (fun x5_26 ex5_26 => ?_)
      exact ih pb_22 w_23 x3_24 x4_25 x5_26
def f_P_Writer_tellRuns (wr : Wr) (pb : Pb) (w : Br) (sy : Sy) (x2 : Int32) : Option (Pb × Br) := l_P_Writer_tellRuns_8 wr sy x2 (fun pb_27 w_28 x4_29 => bd (f_P_Bits_putNumber pb_27 w_28 x4_29) <| fun (pb_30, w_31) => some (pb_30, w_31)) 100000 pb w 0 0 0
theorem mo_P_Writer_tellRuns {wr : Wr} {pb : Pb} {w : Br} {sy : Sy} {x2 : Int32} : mle (f_P_Writer_tellRuns wr pb w sy x2) (Br_byL w) (fun r : Pb × Br => Br_byL r.2) := by
  rw [f_P_Writer_tellRuns]
  refine mo_l_P_Writer_tellRuns_8 (fun pb_27 w_28 x4_29 => ?_) 100000 pb w 0 0 0
  try dsimp only
  refine mle_bd (fun y9 hy9 => ?_)
  obtain ⟨pb_30, w_31⟩ := y9
  try dsimp only
  refine mle_le (mo_P_Bits_putNumber _ hy9) ?_
  try dsimp only
  exact mle_some (Nat.le_refl _)
section
variable {p : Program} {l : Launch} {e : Env} {R : Room} {s : State} {m : MethodId} {args : Array Value} {below : List Frame} {meth : Method} {c : Code} {Q : State → Prop} {A : Nat → Prop}
set_option maxHeartbeats 4000000 in
set_option maxRecDepth 100000 in
theorem L_P_Writer_tellRuns_22 {l0 : Nat} {dC : Nat → ClassId} {dI : Nat → Nat → Nat} {cI cZ cJ : ClassId} {wr_a : Nat → Nat} {pb_a : Nat → Nat} {w_a : Nat} {sy_a : Nat → Nat} {lk_v : Nat} {wr : Wr} {sy : Sy} {x2 : Int32} {x5 : Int32} {k74 : Pb → Br → Int32 → Int32 → Option (Pb × Br)} {res : Pb × Br} (C0 : cxt p c m s args R 0 0 R_Writer c_Writer_tellRuns tb 7 (dC, dI) vwCl (TYS cI cZ cJ) A 6 175) (hRc : gR l0 ((fun r : Pb × Br => Br_byL r.2) res) R)
    (hk74 : ∀ (H : Heap) (locs : List Loc) (ls : Array Slot) (cells slots : Nat) (w_b : Nat) (pb_6 : Pb) (w_7 : Br) (x3_8 : Int32) (x4_9 : Int32), gok R l0 (Br_byL w_7) cells slots → va_P (dC, dI) vwCl (wWr cI cZ cJ wr_a (pb_a 0) wr ++ wPb cI cZ cJ pb_a w_a lk_v pb_6 ++ wBr cI cZ cJ w_a w_b w_7 ++ wSy cI cZ cJ sy_a sy) H → va_D A (wWr cI cZ cJ wr_a (pb_a 0) wr ++ wPb cI cZ cJ pb_a w_a lk_v pb_6 ++ wBr cI cZ cJ w_a w_b w_7 ++ wSy cI cZ cJ sy_a sy) → va_S A s.heap H locs → lv_has ls 7 [(0, .ref (wr_a 0)), (1, .ref (sy_a 0)), (2, .int x2), (3, .int x3_8), (4, .int x4_9), (5, .int x5)] → k74 pb_6 w_7 x3_8 x4_9 = some res → W p l e R s m args below meth c H locs cells slots Q (F0 m 74 ls []))
    (hkm74 : ∀ (pb_6 : Pb) (w_7 : Br) (x3_8 : Int32) (x4_9 : Int32), mle (k74 pb_6 w_7 x3_8 x4_9) (Br_byL w_7) (fun r : Pb × Br => Br_byL r.2)) :
    ∀ (n : Nat) (H : Heap) (locs : List Loc) (ls : Array Slot) (cells slots : Nat) (w_b : Nat) (pb : Pb) (w : Br) (x3 : Int32) (x4 : Int32) (x6 : Int32), gok R l0 (Br_byL w) cells slots → va_P (dC, dI) vwCl (wWr cI cZ cJ wr_a (pb_a 0) wr ++ wPb cI cZ cJ pb_a w_a lk_v pb ++ wBr cI cZ cJ w_a w_b w ++ wSy cI cZ cJ sy_a sy) H → va_D A (wWr cI cZ cJ wr_a (pb_a 0) wr ++ wPb cI cZ cJ pb_a w_a lk_v pb ++ wBr cI cZ cJ w_a w_b w ++ wSy cI cZ cJ sy_a sy) → va_S A s.heap H locs → lv_has ls 7 [(0, .ref (wr_a 0)), (1, .ref (sy_a 0)), (2, .int x2), (3, .int x3), (4, .int x4), (5, .int x5), (6, .int x6)] → l_P_Writer_tellRuns_22 wr sy x2 x5 k74 n pb w x3 x4 x6 = some res → W p l e R s m args below meth c H locs cells slots Q (F0 m 22 ls []) := by
  obtain ⟨hx, hb, hml, hown, hts, hK, hA, hRf, hRl, hN, _⟩ := id C0
  intro n
  induction n with
  | zero =>
    intro H locs ls cells slots w_b pb w x3 x4 x6 hg hP hD hS hl hf
    exact absurd hf (by simp [l_P_Writer_tellRuns_22])
  | succ n ih =>
    intro H locs ls cells slots w_b pb w x3 x4 x6 hg hP hD hS hl hf
    rw [l_P_Writer_tellRuns_22] at hf
    refine lv_iload hx hb d_Writer_tellRuns_22 (lv_at hl 6 rfl) ?_
    refine lv_aload_n hx hb d_Writer_tellRuns_24 rfl (lv_at hl 1 rfl) ?_
    refine va_get (D := (dC, dI)) (ci := 0) (v := .ref (sy_a 1)) (C := R_Symbols) (T := T_Symbols) (N := 10) hx hb hts in_Symbols hown hK hP 6 rfl rfl 0 (by decide) (hts _ t_207) (fun _ h9 => h9) rfl d_Writer_tellRuns_25 ?_
    refine lv_iload_n hx hb d_Writer_tellRuns_28 rfl (lv_at hl 2 rfl) ?_
    obtain ⟨h_10, hf⟩ := gd_ex hf
    refine va_iald (f := Sy_wd sy) hx hb hK hP 7 0 rfl rfl (inb_in h_10) d_Writer_tellRuns_29 ?_
    refine lv_icmp_ge (tgt := 74) hx hb d_Writer_tellRuns_30 (by decide) (fun c_11 => ?_) (fun c_11 => ?_)
    · rw [if_pos c_11] at hf
      exact hk74 _ _ _ _ _ _ pb w x3 x4 hg hP hD hS (lv_sub hl [0, 1, 2, 3, 4, 5] rfl) hf
    · rw [if_neg c_11] at hf
      refine lv_aload_n hx hb d_Writer_tellRuns_33 rfl (lv_at hl 0 rfl) ?_
      refine va_get (D := (dC, dI)) (ci := 4) (v := .ref (wr_a 2)) (C := R_Writer) (T := T_Writer) (N := 4) hx hb hts in_Writer hown hK hP 0 rfl rfl 3 (by decide) (hts _ t_167) (fun _ h9 => h9) rfl d_Writer_tellRuns_34 ?_
      refine lv_iload hx hb d_Writer_tellRuns_37 (lv_at hl 5 rfl) ?_
      obtain ⟨h_12, hf⟩ := gd_ex hf
      refine va_iald (f := Wr_pl wr) hx hb hK hP 2 0 rfl rfl (inb_in h_12) d_Writer_tellRuns_39 ?_
      refine lv_iload hx hb d_Writer_tellRuns_40 (lv_at hl 6 rfl) ?_
      refine lv_ishr hx hb d_Writer_tellRuns_42 ?_
      refine lv_iconst (v := 1) hx hb d_Writer_tellRuns_43 (by decide) ?_
      refine lv_iand hx hb d_Writer_tellRuns_44 ?_
      refine lv_iload_n hx hb d_Writer_tellRuns_45 rfl (lv_at hl 3 rfl) ?_
      refine lv_icmp_eq (tgt := 65) hx hb d_Writer_tellRuns_46 (by decide) (fun c_13 => ?_) (fun c_13 => ?_)
      · rw [if_pos c_13] at hf
        obtain ⟨x4_14, ex4_14, hf⟩ := lt_ex hf
        try dsimp only at hf
        refine lv_iinc (v := x4_14) (lv' := [(4, .int x4_14), (0, .ref (wr_a 0)), (1, .ref (sy_a 0)), (2, .int x2), (3, .int x3), (5, .int x5), (6, .int x6)]) hx hb d_Writer_tellRuns_65 hl (k := 4) rfl (by rw [ex4_14]; rfl) (by decide) rfl (fun ls hl => ?_)
        obtain ⟨x6_15, ex6_15, hf⟩ := lt_ex hf
        try dsimp only at hf
        refine lv_iinc (v := x6_15) (lv' := [(6, .int x6_15), (4, .int x4_14), (0, .ref (wr_a 0)), (1, .ref (sy_a 0)), (2, .int x2), (3, .int x3), (5, .int x5)]) hx hb d_Writer_tellRuns_68 hl (k := 6) rfl (by rw [ex6_15]; rfl) (by decide) rfl (fun ls hl => ?_)
        refine lv_goto (tgt := 22) hx hb d_Writer_tellRuns_71 (by decide) ?_
        exact ih _ _ _ _ _ _ pb w x3 x4_14 x6_15 hg hP hD hS (lv_sub hl [2, 3, 4, 5, 1, 6, 0] rfl) hf
      · rw [if_neg c_13] at hf
        refine lv_aload_n hx hb d_Writer_tellRuns_49 rfl (lv_at hl 0 rfl) ?_
        refine va_get (D := (dC, dI)) (ci := 4) (v := .ref (pb_a 0)) (C := R_Writer) (T := T_Writer) (N := 4) hx hb hts in_Writer hown hK hP 0 rfl rfl 0 (by decide) (hts _ t_164) (fun _ h9 => h9) rfl d_Writer_tellRuns_50 ?_
        refine lv_iload hx hb d_Writer_tellRuns_53 (lv_at hl 4 rfl) ?_
        obtain ⟨⟨pb_16, w_17⟩, hf1, hf⟩ := bd_ex hf
        try dsimp only at hf
        have hm0 := mo_P_Bits_putNumber _ hf1
        try dsimp only at hm0
        have hm : Br_byL w_17 ≤ (fun r : Pb × Br => Br_byL r.2) res := by
          refine mle_use (π := (fun r : Pb × Br => Br_byL r.2)) hf ?_
          refine mle_lt (fun x3_19 ex3_19 => ?_)
          refine mle_lt (fun x4_20 ex4_20 => ?_)
          refine mle_lt (fun x6_21 ex6_21 => ?_)
          exact mo_l_P_Writer_tellRuns_22 hkm74 n pb_16 w_17 x3_19 x4_20 x6_21
        have hPc := hP.sub (ws' := (wPb cI cZ cJ pb_a w_a lk_v pb ++ wBr cI cZ cJ w_a w_b w)) [3, 4, 5] rfl
        have hDc := hD.sub (ws' := (wPb cI cZ cJ pb_a w_a lk_v pb ++ wBr cI cZ cJ w_a w_b w)) [3, 4, 5] (by decide) rfl
        have hFc := va_free (wc := (wPb cI cZ cJ pb_a w_a lk_v pb ++ wBr cI cZ cJ w_a w_b w)) hD hS hA [3, 4, 5] rfl
        refine va_callv (va_runU (As := [.int x4]) (rest := []) ⟨hx, hb, hml, hown, hts⟩ (k_P_Bits_putNumber l dC dI cI cZ cJ pb_a w_a w_b lk_v H.size hf1) (va_cwU 1 hts (gU t_319 t_321 t_323 t_320 t_57 t_324) rfl rfl rfl rfl hd_Bits_putNumber.2 ⟨Nat.le_trans (Nat.le_of_ble_eq_true rfl) hRf, Nat.le_trans (Nat.le_of_ble_eq_true rfl) hRl⟩) ⟨kP_blind, va_recv hK hP (ci := 2) (q0 := 3) rfl rfl, kP_at hPc hK hDc hN⟩ rfl rfl hl.1 rfl (lv_room (Nat.le_of_ble_eq_true rfl)) d_Writer_tellRuns_55 (g_room hg hm0 hm hRc)) hS (fun q _ h => hFc q h) hFc (fun w_q_18 t H1 locs ht hvm hw hB hz1 hk1 hS => ?_)
        have hg := g_step (L0 := Br_byL w) (L1 := Br_byL w_17) hg hm0 hm hRc
        generalize cells + (Br_byL w_17 - Br_byL w) = cells at hg ⊢
        generalize slots + 2 * (Br_byL w_17 - Br_byL w) = slots at hg ⊢
        obtain ⟨hP, hD⟩ := kQ_join (wr := (wWr cI cZ cJ wr_a (pb_a 0) wr ++ wSy cI cZ cJ sy_a sy)) (w1 := (wPb cI cZ cJ pb_a w_a lk_v pb_16 ++ wBr cI cZ cJ w_a w_q_18 w_17)) hP hD [3, 4, 5] [0, 1, 2, 6, 7, 8, 9, 10, 11, 12, 13, 14, 15] rfl rfl (by decide) (by decide) ht hk1 hFc hB
        generalize H1 = H at hP hS ⊢
        have hP : va_P (dC, dI) vwCl (wWr cI cZ cJ wr_a (pb_a 0) wr ++ wPb cI cZ cJ pb_a w_a lk_v pb_16 ++ wBr cI cZ cJ w_a w_q_18 w_17 ++ wSy cI cZ cJ sy_a sy) H := hP.sub [0, 1, 2, 13, 14, 15, 3, 4, 5, 6, 7, 8, 9, 10, 11, 12] rfl
        have hD : va_D A (wWr cI cZ cJ wr_a (pb_a 0) wr ++ wPb cI cZ cJ pb_a w_a lk_v pb_16 ++ wBr cI cZ cJ w_a w_q_18 w_17 ++ wSy cI cZ cJ sy_a sy) := hD.sub [0, 1, 2, 13, 14, 15, 3, 4, 5, 6, 7, 8, 9, 10, 11, 12] (by decide) rfl
        refine lv_iconst (v := 1) hx hb d_Writer_tellRuns_58 (by decide) ?_
        refine lv_iload_n hx hb d_Writer_tellRuns_59 rfl (lv_at hl 3 rfl) ?_
        refine lv_isub hx hb d_Writer_tellRuns_60 ?_
        obtain ⟨x3_19, ex3_19, hf⟩ := lt_ex hf
        try dsimp only at hf
        refine tp_i ex3_19 ?_
        refine lv_istore_n (lv' := [(3, .int x3_19), (0, .ref (wr_a 0)), (1, .ref (sy_a 0)), (2, .int x2), (4, .int x4), (5, .int x5), (6, .int x6)]) hx hb d_Writer_tellRuns_61 rfl hl (by decide) rfl (fun ls hl => ?_)
        refine lv_iconst (v := 0) hx hb d_Writer_tellRuns_62 (by decide) ?_
        refine lv_istore (lv' := [(4, .int 0), (3, .int x3_19), (0, .ref (wr_a 0)), (1, .ref (sy_a 0)), (2, .int x2), (5, .int x5), (6, .int x6)]) hx hb d_Writer_tellRuns_63 hl (by decide) rfl (fun ls hl => ?_)
        obtain ⟨x4_20, ex4_20, hf⟩ := lt_ex hf
        try dsimp only at hf
        refine lv_iinc (v := x4_20) (lv' := [(4, .int x4_20), (3, .int x3_19), (0, .ref (wr_a 0)), (1, .ref (sy_a 0)), (2, .int x2), (5, .int x5), (6, .int x6)]) hx hb d_Writer_tellRuns_65 hl (k := 0) rfl (by rw [ex4_20]; rfl) (by decide) rfl (fun ls hl => ?_)
        obtain ⟨x6_21, ex6_21, hf⟩ := lt_ex hf
        try dsimp only at hf
        refine lv_iinc (v := x6_21) (lv' := [(6, .int x6_21), (4, .int x4_20), (3, .int x3_19), (0, .ref (wr_a 0)), (1, .ref (sy_a 0)), (2, .int x2), (5, .int x5)]) hx hb d_Writer_tellRuns_68 hl (k := 6) rfl (by rw [ex6_21]; rfl) (by decide) rfl (fun ls hl => ?_)
        refine lv_goto (tgt := 22) hx hb d_Writer_tellRuns_71 (by decide) ?_
        exact ih _ _ _ _ _ _ pb_16 w_17 x3_19 x4_20 x6_21 hg hP hD hS (lv_sub hl [3, 4, 5, 2, 1, 6, 0] rfl) hf
set_option maxHeartbeats 4000000 in
set_option maxRecDepth 100000 in
theorem L_P_Writer_tellRuns_8 {l0 : Nat} {dC : Nat → ClassId} {dI : Nat → Nat → Nat} {cI cZ cJ : ClassId} {wr_a : Nat → Nat} {pb_a : Nat → Nat} {w_a : Nat} {sy_a : Nat → Nat} {lk_v : Nat} {wr : Wr} {sy : Sy} {x2 : Int32} {k80 : Pb → Br → Int32 → Option (Pb × Br)} {res : Pb × Br} (C0 : cxt p c m s args R 0 0 R_Writer c_Writer_tellRuns tb 7 (dC, dI) vwCl (TYS cI cZ cJ) A 6 175) (hRc : gR l0 ((fun r : Pb × Br => Br_byL r.2) res) R)
    (hk80 : ∀ (H : Heap) (locs : List Loc) (ls : Array Slot) (cells slots : Nat) (w_b : Nat) (pb_1 : Pb) (w_2 : Br) (x4_3 : Int32), gok R l0 (Br_byL w_2) cells slots → va_P (dC, dI) vwCl (wWr cI cZ cJ wr_a (pb_a 0) wr ++ wPb cI cZ cJ pb_a w_a lk_v pb_1 ++ wBr cI cZ cJ w_a w_b w_2 ++ wSy cI cZ cJ sy_a sy) H → va_D A (wWr cI cZ cJ wr_a (pb_a 0) wr ++ wPb cI cZ cJ pb_a w_a lk_v pb_1 ++ wBr cI cZ cJ w_a w_b w_2 ++ wSy cI cZ cJ sy_a sy) → va_S A s.heap H locs → lv_has ls 7 [(0, .ref (wr_a 0)), (4, .int x4_3)] → k80 pb_1 w_2 x4_3 = some res → W p l e R s m args below meth c H locs cells slots Q (F0 m 80 ls []))
    (hkm80 : ∀ (pb_1 : Pb) (w_2 : Br) (x4_3 : Int32), mle (k80 pb_1 w_2 x4_3) (Br_byL w_2) (fun r : Pb × Br => Br_byL r.2)) :
    ∀ (n : Nat) (H : Heap) (locs : List Loc) (ls : Array Slot) (cells slots : Nat) (w_b : Nat) (pb : Pb) (w : Br) (x3 : Int32) (x4 : Int32) (x5 : Int32), gok R l0 (Br_byL w) cells slots → va_P (dC, dI) vwCl (wWr cI cZ cJ wr_a (pb_a 0) wr ++ wPb cI cZ cJ pb_a w_a lk_v pb ++ wBr cI cZ cJ w_a w_b w ++ wSy cI cZ cJ sy_a sy) H → va_D A (wWr cI cZ cJ wr_a (pb_a 0) wr ++ wPb cI cZ cJ pb_a w_a lk_v pb ++ wBr cI cZ cJ w_a w_b w ++ wSy cI cZ cJ sy_a sy) → va_S A s.heap H locs → lv_has ls 7 [(0, .ref (wr_a 0)), (1, .ref (sy_a 0)), (2, .int x2), (3, .int x3), (4, .int x4), (5, .int x5)] → l_P_Writer_tellRuns_8 wr sy x2 k80 n pb w x3 x4 x5 = some res → W p l e R s m args below meth c H locs cells slots Q (F0 m 8 ls []) := by
  obtain ⟨hx, hb, hml, hown, hts, hK, hA, hRf, hRl, hN, _⟩ := id C0
  intro n
  induction n with
  | zero =>
    intro H locs ls cells slots w_b pb w x3 x4 x5 hg hP hD hS hl hf
    exact absurd hf (by simp [l_P_Writer_tellRuns_8])
  | succ n ih =>
    intro H locs ls cells slots w_b pb w x3 x4 x5 hg hP hD hS hl hf
    rw [l_P_Writer_tellRuns_8] at hf
    refine lv_iload hx hb d_Writer_tellRuns_8 (lv_at hl 5 rfl) ?_
    refine lv_aload_n hx hb d_Writer_tellRuns_10 rfl (lv_at hl 1 rfl) ?_
    refine va_get (D := (dC, dI)) (ci := 0) (v := .ref (sy_a 2)) (C := R_Symbols) (T := T_Symbols) (N := 10) hx hb hts in_Symbols hown hK hP 6 rfl rfl 1 (by decide) (hts _ t_211) (fun _ h9 => h9) rfl d_Writer_tellRuns_11 ?_
    refine lv_iload_n hx hb d_Writer_tellRuns_14 rfl (lv_at hl 2 rfl) ?_
    obtain ⟨h_4, hf⟩ := gd_ex hf
    refine va_iald (f := Sy_ht sy) hx hb hK hP 8 0 rfl rfl (inb_in h_4) d_Writer_tellRuns_15 ?_
    refine lv_icmp_ge (tgt := 80) hx hb d_Writer_tellRuns_16 (by decide) (fun c_5 => ?_) (fun c_5 => ?_)
    · rw [if_pos c_5] at hf
      exact hk80 _ _ _ _ _ _ pb w x4 hg hP hD hS (lv_sub hl [0, 4] rfl) hf
    · rw [if_neg c_5] at hf
      refine lv_iconst (v := 0) hx hb d_Writer_tellRuns_19 (by decide) ?_
      refine lv_istore (lv' := [(6, .int 0), (0, .ref (wr_a 0)), (1, .ref (sy_a 0)), (2, .int x2), (3, .int x3), (4, .int x4), (5, .int x5)]) hx hb d_Writer_tellRuns_20 hl (by decide) rfl (fun ls hl => ?_)
      refine L_P_Writer_tellRuns_22 C0 hRc (fun H locs ls cells slots w_b pb_22 w_23 x3_24 x4_25 hg hP hD hS hl hf => ?_) (fun pb_22 w_23 x3_24 x4_25 => ?_) 100000 _ _ _ _ _ _ pb w x3 x4 0 hg hP hD hS (lv_sub hl [1, 2, 3, 4, 5, 6, 0] rfl) hf
      · try dsimp only at hf
        obtain ⟨x5_26, ex5_26, hf⟩ := lt_ex hf
        try dsimp only at hf
        refine lv_iinc (v := x5_26) (lv' := [(5, .int x5_26), (0, .ref (wr_a 0)), (1, .ref (sy_a 0)), (2, .int x2), (3, .int x3_24), (4, .int x4_25)]) hx hb d_Writer_tellRuns_74 hl (k := 5) rfl (by rw [ex5_26]; rfl) (by decide) rfl (fun ls hl => ?_)
        refine lv_goto (tgt := 8) hx hb d_Writer_tellRuns_77 (by decide) ?_
        exact ih _ _ _ _ _ _ pb_22 w_23 x3_24 x4_25 x5_26 hg hP hD hS (lv_sub hl [1, 2, 3, 4, 5, 0] rfl) hf
      · try dsimp only
        refine mle_lt (fun x5_26 ex5_26 => ?_)
        exact mo_l_P_Writer_tellRuns_8 hkm80 n pb_22 w_23 x3_24 x4_25 x5_26
set_option maxHeartbeats 4000000 in
set_option maxRecDepth 100000 in
theorem B_P_Writer_tellRuns {cells slots : Nat} {l0 : Nat} {dC : Nat → ClassId} {dI : Nat → Nat → Nat} {cI cZ cJ : ClassId} {wr_a : Nat → Nat} {pb_a : Nat → Nat} {w_a : Nat} {sy_a : Nat → Nat} {lk_v : Nat} {w_b : Nat} {wr : Wr} {pb : Pb} {w : Br} {sy : Sy} {x2 : Int32} {res : Pb × Br} (C0 : cxt p c m s args R 0 0 R_Writer c_Writer_tellRuns tb 7 (dC, dI) vwCl (TYS cI cZ cJ) A 6 175) (hRc : gR l0 ((fun r : Pb × Br => Br_byL r.2) res) R)
    (hr89 : ∀ (H : Heap) (locs : List Loc) (ls : Array Slot) (cells slots : Nat) (w_b : Nat) (pb' : Pb) (w' : Br), gok R l0 (Br_byL w') cells slots → va_P (dC, dI) vwCl (wWr cI cZ cJ wr_a (pb_a 0) wr ++ wPb cI cZ cJ pb_a w_a lk_v pb' ++ wBr cI cZ cJ w_a w_b w' ++ wSy cI cZ cJ sy_a sy) H → va_D A (wWr cI cZ cJ wr_a (pb_a 0) wr ++ wPb cI cZ cJ pb_a w_a lk_v pb' ++ wBr cI cZ cJ w_a w_b w' ++ wSy cI cZ cJ sy_a sy) → va_S A s.heap H locs → some (pb', w') = some res → W p l e R s m args below meth c H locs cells slots Q (F0 m 89 ls []))
    {H : Heap} {locs : List Loc} {ls : Array Slot} (hg : gok R l0 (Br_byL w) cells slots) (hP : va_P (dC, dI) vwCl (wWr cI cZ cJ wr_a (pb_a 0) wr ++ wPb cI cZ cJ pb_a w_a lk_v pb ++ wBr cI cZ cJ w_a w_b w ++ wSy cI cZ cJ sy_a sy) H) (hD : va_D A (wWr cI cZ cJ wr_a (pb_a 0) wr ++ wPb cI cZ cJ pb_a w_a lk_v pb ++ wBr cI cZ cJ w_a w_b w ++ wSy cI cZ cJ sy_a sy)) (hS : va_S A s.heap H locs) (hl : lv_has ls 7 [(0, .ref (wr_a 0)), (1, .ref (sy_a 0)), (2, .int x2)]) (hf : f_P_Writer_tellRuns wr pb w sy x2 = some res) : W p l e R s m args below meth c H locs cells slots Q (F0 m 0 ls []) := by
  obtain ⟨hx, hb, hml, hown, hts, hK, hA, hRf, hRl, hN, _⟩ := id C0
  rw [f_P_Writer_tellRuns] at hf
  refine lv_iconst (v := 0) hx hb d_Writer_tellRuns_0 (by decide) ?_
  refine lv_istore_n (lv' := [(3, .int 0), (0, .ref (wr_a 0)), (1, .ref (sy_a 0)), (2, .int x2)]) hx hb d_Writer_tellRuns_1 rfl hl (by decide) rfl (fun ls hl => ?_)
  refine lv_iconst (v := 0) hx hb d_Writer_tellRuns_2 (by decide) ?_
  refine lv_istore (lv' := [(4, .int 0), (3, .int 0), (0, .ref (wr_a 0)), (1, .ref (sy_a 0)), (2, .int x2)]) hx hb d_Writer_tellRuns_3 hl (by decide) rfl (fun ls hl => ?_)
  refine lv_iconst (v := 0) hx hb d_Writer_tellRuns_5 (by decide) ?_
  refine lv_istore (lv' := [(5, .int 0), (4, .int 0), (3, .int 0), (0, .ref (wr_a 0)), (1, .ref (sy_a 0)), (2, .int x2)]) hx hb d_Writer_tellRuns_6 hl (by decide) rfl (fun ls hl => ?_)
  refine L_P_Writer_tellRuns_8 C0 hRc (fun H locs ls cells slots w_b pb_27 w_28 x4_29 hg hP hD hS hl hf => ?_) (fun pb_27 w_28 x4_29 => ?_) 100000 _ _ _ _ _ _ pb w 0 0 0 hg hP hD hS (lv_sub hl [3, 4, 5, 2, 1, 0] rfl) hf
  · try dsimp only at hf
    refine lv_aload_n hx hb d_Writer_tellRuns_80 rfl (lv_at hl 0 rfl) ?_
    refine va_get (D := (dC, dI)) (ci := 4) (v := .ref (pb_a 0)) (C := R_Writer) (T := T_Writer) (N := 4) hx hb hts in_Writer hown hK hP 0 rfl rfl 0 (by decide) (hts _ t_164) (fun _ h9 => h9) rfl d_Writer_tellRuns_81 ?_
    refine lv_iload hx hb d_Writer_tellRuns_84 (lv_at hl 1 rfl) ?_
    obtain ⟨⟨pb_30, w_31⟩, hf1, hf⟩ := bd_ex hf
    try dsimp only at hf
    have hm0 := mo_P_Bits_putNumber _ hf1
    try dsimp only at hm0
    have hm : Br_byL w_31 ≤ (fun r : Pb × Br => Br_byL r.2) res := by
      refine mle_use (π := (fun r : Pb × Br => Br_byL r.2)) hf ?_
      exact mle_some (Nat.le_refl _)
    have hPc := hP.sub (ws' := (wPb cI cZ cJ pb_a w_a lk_v pb_27 ++ wBr cI cZ cJ w_a w_b w_28)) [3, 4, 5] rfl
    have hDc := hD.sub (ws' := (wPb cI cZ cJ pb_a w_a lk_v pb_27 ++ wBr cI cZ cJ w_a w_b w_28)) [3, 4, 5] (by decide) rfl
    have hFc := va_free (wc := (wPb cI cZ cJ pb_a w_a lk_v pb_27 ++ wBr cI cZ cJ w_a w_b w_28)) hD hS hA [3, 4, 5] rfl
    refine va_callv (va_runU (As := [.int x4_29]) (rest := []) ⟨hx, hb, hml, hown, hts⟩ (k_P_Bits_putNumber l dC dI cI cZ cJ pb_a w_a w_b lk_v H.size hf1) (va_cwU 1 hts (gU t_319 t_321 t_323 t_320 t_57 t_324) rfl rfl rfl rfl hd_Bits_putNumber.2 ⟨Nat.le_trans (Nat.le_of_ble_eq_true rfl) hRf, Nat.le_trans (Nat.le_of_ble_eq_true rfl) hRl⟩) ⟨kP_blind, va_recv hK hP (ci := 2) (q0 := 3) rfl rfl, kP_at hPc hK hDc hN⟩ rfl rfl hl.1 rfl (lv_room (Nat.le_of_ble_eq_true rfl)) d_Writer_tellRuns_86 (g_room hg hm0 hm hRc)) hS (fun q _ h => hFc q h) hFc (fun w_q_32 t H1 locs ht hvm hw hB hz1 hk1 hS => ?_)
    have hg := g_step (L0 := Br_byL w_28) (L1 := Br_byL w_31) hg hm0 hm hRc
    generalize cells + (Br_byL w_31 - Br_byL w_28) = cells at hg ⊢
    generalize slots + 2 * (Br_byL w_31 - Br_byL w_28) = slots at hg ⊢
    obtain ⟨hP, hD⟩ := kQ_join (wr := (wWr cI cZ cJ wr_a (pb_a 0) wr ++ wSy cI cZ cJ sy_a sy)) (w1 := (wPb cI cZ cJ pb_a w_a lk_v pb_30 ++ wBr cI cZ cJ w_a w_q_32 w_31)) hP hD [3, 4, 5] [0, 1, 2, 6, 7, 8, 9, 10, 11, 12, 13, 14, 15] rfl rfl (by decide) (by decide) ht hk1 hFc hB
    generalize H1 = H at hP hS ⊢
    have hP : va_P (dC, dI) vwCl (wWr cI cZ cJ wr_a (pb_a 0) wr ++ wPb cI cZ cJ pb_a w_a lk_v pb_30 ++ wBr cI cZ cJ w_a w_q_32 w_31 ++ wSy cI cZ cJ sy_a sy) H := hP.sub [0, 1, 2, 13, 14, 15, 3, 4, 5, 6, 7, 8, 9, 10, 11, 12] rfl
    have hD : va_D A (wWr cI cZ cJ wr_a (pb_a 0) wr ++ wPb cI cZ cJ pb_a w_a lk_v pb_30 ++ wBr cI cZ cJ w_a w_q_32 w_31 ++ wSy cI cZ cJ sy_a sy) := hD.sub [0, 1, 2, 13, 14, 15, 3, 4, 5, 6, 7, 8, 9, 10, 11, 12] (by decide) rfl
    exact hr89 _ _ _ _ _ _ pb_30 w_31 hg hP hD hS hf
  · try dsimp only
    refine mle_bd (fun y9 hy9 => ?_)
    obtain ⟨pb_30, w_31⟩ := y9
    try dsimp only
    refine mle_le (mo_P_Bits_putNumber _ hy9) ?_
    try dsimp only
    exact mle_some (Nat.le_refl _)
end
set_option maxHeartbeats 4000000 in
set_option maxRecDepth 100000 in
theorem k_P_Writer_tellRuns (l : Launch) (dC : Nat → ClassId) (dI : Nat → Nat → Nat) (cI cZ cJ : ClassId) (wr_a : Nat → Nat) (pb_a : Nat → Nat) (w_a w_b : Nat) (sy_a : Nat → Nat) (lk_v : Nat) (sz : Nat) {wr : Wr} {pb : Pb} {w : Br} {sy : Sy} {x2 : Int32} {pb' : Pb} {w' : Br} (hf : f_P_Writer_tellRuns wr pb w sy x2 = some (pb', w')) :
    Met l y_Writer_tellRuns ws_Writer_tellRuns ({ frames := 6, cells := (Br_byL w' - Br_byL w), slots := (2 * (Br_byL w' - Br_byL w)), locals := 175 }) (va_Pc [.ref (wr_a 0), .ref (sy_a 0), .int x2] (kP (dC, dI) vwCl (TYS cI cZ cJ) (wWr cI cZ cJ wr_a (pb_a 0) wr ++ wPb cI cZ cJ pb_a w_a lk_v pb ++ wBr cI cZ cJ w_a w_b w ++ wSy cI cZ cJ sy_a sy) sz)) (va_Qv (fun (_ : Nat) => True) (fun q9 t => kQ (dC, dI) vwCl (TYS cI cZ cJ) (wWr cI cZ cJ wr_a (pb_a 0) wr ++ wPb cI cZ cJ pb_a w_a lk_v pb ++ wBr cI cZ cJ w_a w_b w ++ wSy cI cZ cJ sy_a sy) sz (wWr cI cZ cJ wr_a (pb_a 0) wr ++ wPb cI cZ cJ pb_a w_a lk_v pb' ++ wBr cI cZ cJ w_a q9 w' ++ wSy cI cZ cJ sy_a sy) t) (va_A (wWr cI cZ cJ wr_a (pb_a 0) wr ++ wPb cI cZ cJ pb_a w_a lk_v pb ++ wBr cI cZ cJ w_a w_b w ++ wSy cI cZ cJ sy_a sy) sz)) (Br_byL w' - Br_byL w) (2 * (Br_byL w' - Br_byL w)) (va_A (wWr cI cZ cJ wr_a (pb_a 0) wr ++ wPb cI cZ cJ pb_a w_a lk_v pb ++ wBr cI cZ cJ w_a w_b w ++ wSy cI cZ cJ sy_a sy) sz) := by
  refine Met.ofW (cc := c_Writer_tellRuns) (maxL := 7) (ret := none) (by decide) rfl ?_
  intro p e s m args below meth c s₁ B hml hv
  obtain ⟨rfl, hsz, hP, hK, hD0, hN⟩ := hv
  have hr := B.returns
  have hlocks := B.notSynchronized
  subst hsz
  have hD := hD0.self (sz := s.heap.size)
  have hl := lv_entry ([.ref (wr_a 0), .ref (sy_a 0), .int x2]) (n := 7) (Nat.le_of_ble_eq_true rfl)
  rw [lg_entry_eq]
  generalize (lg_sl ([.ref (wr_a 0), .ref (sy_a 0), .int x2]) ++ List.replicate (7 - (lg_sl ([.ref (wr_a 0), .ref (sy_a 0), .int x2])).length) Slot.unset).toArray = ls at hl ⊢
  refine B_P_Writer_tellRuns (A := va_A (wWr cI cZ cJ wr_a (pb_a 0) wr ++ wPb cI cZ cJ pb_a w_a lk_v pb ++ wBr cI cZ cJ w_a w_b w ++ wSy cI cZ cJ sy_a sy) s.heap.size) ⟨B.exec, B.bytes, hml, findClass_of_methodNamed B.named, fun w h => atoms_spec (ws := ws_Writer_tellRuns) B.pre w (List.mem_cons_of_mem _ h), hK, fun q h => Or.inr h, Nat.le_of_ble_eq_true rfl, Nat.le_of_ble_eq_true rfl, hN, Nat.zero_le _, Nat.zero_le _⟩ ⟨Nat.le_refl _, Nat.le_refl _⟩ (fun H locs ls cells slots q9 pb'1 w'1 hg hP hD hS hf => ?_) ⟨Nat.le_refl _, Nat.zero_le _, Nat.zero_le _, Nat.zero_le _, Nat.zero_le _⟩ hP hD va_S.rf hl hf
  · cases hf
    refine W.widen (k := (Br_byL w' - Br_byL w)) (n := (2 * (Br_byL w' - Br_byL w))) hg.2.1 hg.2.2.1 ?_
    exact W.vret B.exec B.bytes hr (fun t ht hW => ⟨⟨q9, rfl, trivial, ⟨by rw [ht]; exact hP, va_K.moved hW.alike hK, hD⟩⟩, hS.F ht⟩) hS.2.2 d_Writer_tellRuns_89

/-! P_Writer_tellExports -/
def l_P_Writer_tellExports_15 (wr : Wr) (sy : Sy) (k69 : Pb → Br → Int32 → Option (Pb × Br)) : Nat → Pb → Br → Int32 → Int32 → Int32 → Option (Pb × Br)
  | 0, _, _, _, _, _ => none
  | n + 1, pb, w, x2, x3, x4 => (if (Sy_n sy) ≤ x4 then k69 pb w x3 else gd (inb x4 40) <| gd (inb (Wr_od wr x4.toNatClampNeg) 40) <| (if (Sy_ex sy (Wr_od wr x4.toNatClampNeg).toNatClampNeg) = x2 then lt' (x3 + 1) <| fun x3_9 => lt' (x4 + 1) <| fun x4_10 => (l_P_Writer_tellExports_15 wr sy k69 n) pb w x2 x3_9 x4_10 else bd (f_P_Bits_putNumber pb w x3) <| fun (pb_11, w_12) => (if x2 = 0 then lt' (0 + 1) <| fun x3_17 => lt' (x4 + 1) <| fun x4_18 => (l_P_Writer_tellExports_15 wr sy k69 n) pb_11 w_12 1 x3_17 x4_18 else lt' (0 + 1) <| fun x3_15 => lt' (x4 + 1) <| fun x4_16 => (l_P_Writer_tellExports_15 wr sy k69 n) pb_11 w_12 0 x3_15 x4_16)))
theorem mo_l_P_Writer_tellExports_15 {wr : Wr} {sy : Sy} {k69 : Pb → Br → Int32 → Option (Pb × Br)} (hkm69 : ∀ (pb_2 : Pb) (w_3 : Br) (x3_4 : Int32), mle (k69 pb_2 w_3 x3_4) (Br_byL w_3) (fun r : Pb × Br => Br_byL r.2)) : ∀ (n : Nat) (pb : Pb) (w : Br) (x2 : Int32) (x3 : Int32) (x4 : Int32), mle (l_P_Writer_tellExports_15 wr sy k69 n pb w x2 x3 x4) (Br_byL w) (fun r : Pb × Br => Br_byL r.2) := by
  intro n
  induction n with
  | zero => intro pb w x2 x3 x4 r hr; exact absurd hr (by simp [l_P_Writer_tellExports_15])
  | succ n ih =>
    intro pb w x2 x3 x4
    rw [l_P_Writer_tellExports_15]
    refine mle_if (fun _ => ?_) (fun _ => ?_)
    · exact hkm69 pb w x3
    · refine mle_gd ?_
      refine mle_gd ?_
      refine mle_if (fun _ => ?_) (fun _ => ?_)
      · refine mle_lt (fun x3_9 ex3_9 => ?_)
        refine mle_lt (fun x4_10 ex4_10 => ?_)
        exact ih pb w x2 x3_9 x4_10
      · refine mle_bd (fun y9 hy9 => ?_)
        obtain ⟨pb_11, w_12⟩ := y9
        try dsimp only
        refine mle_le (mo_P_Bits_putNumber _ hy9) ?_
        try dsimp only
        refine mle_if (fun _ => ?_) (fun _ => ?_)
        · refine mle_lt (fun x3_17 ex3_17 => ?_)
          refine mle_lt (fun x4_18 ex4_18 => ?_)
          exact ih pb_11 w_12 1 x3_17 x4_18
        · refine mle_lt (fun x3_15 ex3_15 => ?_)
          refine mle_lt (fun x4_16 ex4_16 => ?_)
          exact ih pb_11 w_12 0 x3_15 x4_16
def f_P_Writer_tellExports (wr : Wr) (pb : Pb) (w : Br) (sy : Sy) : Option (Pb × Br) := (if (Sy_n sy) = 0 then some (pb, w) else l_P_Writer_tellExports_15 wr sy (fun pb_19 w_20 x3_21 => bd (f_P_Bits_putNumber pb_19 w_20 x3_21) <| fun (pb_22, w_23) => some (pb_22, w_23)) 100000 pb w 0 0 0)
theorem mo_P_Writer_tellExports {wr : Wr} {pb : Pb} {w : Br} {sy : Sy} : mle (f_P_Writer_tellExports wr pb w sy) (Br_byL w) (fun r : Pb × Br => Br_byL r.2) := by
  rw [f_P_Writer_tellExports]
  refine mle_if (fun _ => ?_) (fun _ => ?_)
  · exact mle_some (Nat.le_refl _)
  · refine mo_l_P_Writer_tellExports_15 (fun pb_19 w_20 x3_21 => ?_) 100000 pb w 0 0 0
    try dsimp only
    refine mle_bd (fun y9 hy9 => ?_)
    obtain ⟨pb_22, w_23⟩ := y9
    try dsimp only
    refine mle_le (mo_P_Bits_putNumber _ hy9) ?_
    try dsimp only
    exact mle_some (Nat.le_refl _)
section
variable {p : Program} {l : Launch} {e : Env} {R : Room} {s : State} {m : MethodId} {args : Array Value} {below : List Frame} {meth : Method} {c : Code} {Q : State → Prop} {A : Nat → Prop}
set_option maxHeartbeats 4000000 in
set_option maxRecDepth 100000 in
theorem L_P_Writer_tellExports_15 {l0 : Nat} {dC : Nat → ClassId} {dI : Nat → Nat → Nat} {cI cZ cJ : ClassId} {wr_a : Nat → Nat} {pb_a : Nat → Nat} {w_a : Nat} {sy_a : Nat → Nat} {lk_v : Nat} {wr : Wr} {sy : Sy} {k69 : Pb → Br → Int32 → Option (Pb × Br)} {res : Pb × Br} (C0 : cxt p c m s args R 0 0 R_Writer c_Writer_tellExports tb 5 (dC, dI) vwCl (TYS cI cZ cJ) A 6 175) (hRc : gR l0 ((fun r : Pb × Br => Br_byL r.2) res) R)
    (hk69 : ∀ (H : Heap) (locs : List Loc) (ls : Array Slot) (cells slots : Nat) (w_b : Nat) (pb_2 : Pb) (w_3 : Br) (x3_4 : Int32), gok R l0 (Br_byL w_3) cells slots → va_P (dC, dI) vwCl (wWr cI cZ cJ wr_a (pb_a 0) wr ++ wPb cI cZ cJ pb_a w_a lk_v pb_2 ++ wBr cI cZ cJ w_a w_b w_3 ++ wSy cI cZ cJ sy_a sy) H → va_D A (wWr cI cZ cJ wr_a (pb_a 0) wr ++ wPb cI cZ cJ pb_a w_a lk_v pb_2 ++ wBr cI cZ cJ w_a w_b w_3 ++ wSy cI cZ cJ sy_a sy) → va_S A s.heap H locs → lv_has ls 5 [(0, .ref (wr_a 0)), (3, .int x3_4)] → k69 pb_2 w_3 x3_4 = some res → W p l e R s m args below meth c H locs cells slots Q (F0 m 69 ls []))
    (hkm69 : ∀ (pb_2 : Pb) (w_3 : Br) (x3_4 : Int32), mle (k69 pb_2 w_3 x3_4) (Br_byL w_3) (fun r : Pb × Br => Br_byL r.2)) :
    ∀ (n : Nat) (H : Heap) (locs : List Loc) (ls : Array Slot) (cells slots : Nat) (w_b : Nat) (pb : Pb) (w : Br) (x2 : Int32) (x3 : Int32) (x4 : Int32), gok R l0 (Br_byL w) cells slots → va_P (dC, dI) vwCl (wWr cI cZ cJ wr_a (pb_a 0) wr ++ wPb cI cZ cJ pb_a w_a lk_v pb ++ wBr cI cZ cJ w_a w_b w ++ wSy cI cZ cJ sy_a sy) H → va_D A (wWr cI cZ cJ wr_a (pb_a 0) wr ++ wPb cI cZ cJ pb_a w_a lk_v pb ++ wBr cI cZ cJ w_a w_b w ++ wSy cI cZ cJ sy_a sy) → va_S A s.heap H locs → lv_has ls 5 [(0, .ref (wr_a 0)), (1, .ref (sy_a 0)), (2, .int x2), (3, .int x3), (4, .int x4)] → l_P_Writer_tellExports_15 wr sy k69 n pb w x2 x3 x4 = some res → W p l e R s m args below meth c H locs cells slots Q (F0 m 15 ls []) := by
  obtain ⟨hx, hb, hml, hown, hts, hK, hA, hRf, hRl, hN, _⟩ := id C0
  intro n
  induction n with
  | zero =>
    intro H locs ls cells slots w_b pb w x2 x3 x4 hg hP hD hS hl hf
    exact absurd hf (by simp [l_P_Writer_tellExports_15])
  | succ n ih =>
    intro H locs ls cells slots w_b pb w x2 x3 x4 hg hP hD hS hl hf
    rw [l_P_Writer_tellExports_15] at hf
    refine lv_iload hx hb d_Writer_tellExports_15 (lv_at hl 4 rfl) ?_
    refine lv_aload_n hx hb d_Writer_tellExports_17 rfl (lv_at hl 1 rfl) ?_
    refine va_get (D := (dC, dI)) (ci := 0) (v := .int (Sy_n sy)) (C := R_Symbols) (T := T_Symbols) (N := 10) hx hb hts in_Symbols hown hK hP 6 rfl rfl 7 (by decide) (hts _ t_231) (fun _ h9 => h9) rfl d_Writer_tellExports_18 ?_
    refine lv_icmp_ge (tgt := 69) hx hb d_Writer_tellExports_21 (by decide) (fun c_5 => ?_) (fun c_5 => ?_)
    · rw [if_pos c_5] at hf
      exact hk69 _ _ _ _ _ _ pb w x3 hg hP hD hS (lv_sub hl [0, 3] rfl) hf
    · rw [if_neg c_5] at hf
      refine lv_aload_n hx hb d_Writer_tellExports_24 rfl (lv_at hl 1 rfl) ?_
      refine va_get (D := (dC, dI)) (ci := 0) (v := .ref (sy_a 3)) (C := R_Symbols) (T := T_Symbols) (N := 10) hx hb hts in_Symbols hown hK hP 6 rfl rfl 2 (by decide) (hts _ t_217) (fun _ h9 => h9) rfl d_Writer_tellExports_25 ?_
      refine lv_aload_n hx hb d_Writer_tellExports_28 rfl (lv_at hl 0 rfl) ?_
      refine va_get (D := (dC, dI)) (ci := 4) (v := .ref (wr_a 1)) (C := R_Writer) (T := T_Writer) (N := 4) hx hb hts in_Writer hown hK hP 0 rfl rfl 2 (by decide) (hts _ t_166) (fun _ h9 => h9) rfl d_Writer_tellExports_29 ?_
      refine lv_iload hx hb d_Writer_tellExports_32 (lv_at hl 4 rfl) ?_
      obtain ⟨h_6, hf⟩ := gd_ex hf
      refine va_iald (f := Wr_od wr) hx hb hK hP 1 0 rfl rfl (inb_in h_6) d_Writer_tellExports_34 ?_
      obtain ⟨h_7, hf⟩ := gd_ex hf
      refine va_zald (f := Sy_ex sy) hx hb hK hP 9 1 rfl rfl (inb_in h_7) d_Writer_tellExports_35 ?_
      refine lv_iload_n hx hb d_Writer_tellExports_36 rfl (lv_at hl 2 rfl) ?_
      refine lv_icmp_eq (tgt := 60) hx hb d_Writer_tellExports_37 (by decide) (fun c_8 => ?_) (fun c_8 => ?_)
      · rw [if_pos c_8] at hf
        obtain ⟨x3_9, ex3_9, hf⟩ := lt_ex hf
        try dsimp only at hf
        refine lv_iinc (v := x3_9) (lv' := [(3, .int x3_9), (0, .ref (wr_a 0)), (1, .ref (sy_a 0)), (2, .int x2), (4, .int x4)]) hx hb d_Writer_tellExports_60 hl (k := 3) rfl (by rw [ex3_9]; rfl) (by decide) rfl (fun ls hl => ?_)
        obtain ⟨x4_10, ex4_10, hf⟩ := lt_ex hf
        try dsimp only at hf
        refine lv_iinc (v := x4_10) (lv' := [(4, .int x4_10), (3, .int x3_9), (0, .ref (wr_a 0)), (1, .ref (sy_a 0)), (2, .int x2)]) hx hb d_Writer_tellExports_63 hl (k := 4) rfl (by rw [ex4_10]; rfl) (by decide) rfl (fun ls hl => ?_)
        refine lv_goto (tgt := 15) hx hb d_Writer_tellExports_66 (by decide) ?_
        exact ih _ _ _ _ _ _ pb w x2 x3_9 x4_10 hg hP hD hS (lv_sub hl [2, 3, 4, 1, 0] rfl) hf
      · rw [if_neg c_8] at hf
        refine lv_aload_n hx hb d_Writer_tellExports_40 rfl (lv_at hl 0 rfl) ?_
        refine va_get (D := (dC, dI)) (ci := 4) (v := .ref (pb_a 0)) (C := R_Writer) (T := T_Writer) (N := 4) hx hb hts in_Writer hown hK hP 0 rfl rfl 0 (by decide) (hts _ t_164) (fun _ h9 => h9) rfl d_Writer_tellExports_41 ?_
        refine lv_iload_n hx hb d_Writer_tellExports_44 rfl (lv_at hl 3 rfl) ?_
        obtain ⟨⟨pb_11, w_12⟩, hf1, hf⟩ := bd_ex hf
        try dsimp only at hf
        have hm0 := mo_P_Bits_putNumber _ hf1
        try dsimp only at hm0
        have hm : Br_byL w_12 ≤ (fun r : Pb × Br => Br_byL r.2) res := by
          refine mle_use (π := (fun r : Pb × Br => Br_byL r.2)) hf ?_
          refine mle_if (fun _ => ?_) (fun _ => ?_)
          · refine mle_lt (fun x3_17 ex3_17 => ?_)
            refine mle_lt (fun x4_18 ex4_18 => ?_)
            exact mo_l_P_Writer_tellExports_15 hkm69 n pb_11 w_12 1 x3_17 x4_18
          · refine mle_lt (fun x3_15 ex3_15 => ?_)
            refine mle_lt (fun x4_16 ex4_16 => ?_)
            exact mo_l_P_Writer_tellExports_15 hkm69 n pb_11 w_12 0 x3_15 x4_16
        have hPc := hP.sub (ws' := (wPb cI cZ cJ pb_a w_a lk_v pb ++ wBr cI cZ cJ w_a w_b w)) [3, 4, 5] rfl
        have hDc := hD.sub (ws' := (wPb cI cZ cJ pb_a w_a lk_v pb ++ wBr cI cZ cJ w_a w_b w)) [3, 4, 5] (by decide) rfl
        have hFc := va_free (wc := (wPb cI cZ cJ pb_a w_a lk_v pb ++ wBr cI cZ cJ w_a w_b w)) hD hS hA [3, 4, 5] rfl
        refine va_callv (va_runU (As := [.int x3]) (rest := []) ⟨hx, hb, hml, hown, hts⟩ (k_P_Bits_putNumber l dC dI cI cZ cJ pb_a w_a w_b lk_v H.size hf1) (va_cwU 1 hts (gU t_319 t_321 t_323 t_320 t_57 t_324) rfl rfl rfl rfl hd_Bits_putNumber.2 ⟨Nat.le_trans (Nat.le_of_ble_eq_true rfl) hRf, Nat.le_trans (Nat.le_of_ble_eq_true rfl) hRl⟩) ⟨kP_blind, va_recv hK hP (ci := 2) (q0 := 3) rfl rfl, kP_at hPc hK hDc hN⟩ rfl rfl hl.1 rfl (lv_room (Nat.le_of_ble_eq_true rfl)) d_Writer_tellExports_45 (g_room hg hm0 hm hRc)) hS (fun q _ h => hFc q h) hFc (fun w_q_13 t H1 locs ht hvm hw hB hz1 hk1 hS => ?_)
        have hg := g_step (L0 := Br_byL w) (L1 := Br_byL w_12) hg hm0 hm hRc
        generalize cells + (Br_byL w_12 - Br_byL w) = cells at hg ⊢
        generalize slots + 2 * (Br_byL w_12 - Br_byL w) = slots at hg ⊢
        obtain ⟨hP, hD⟩ := kQ_join (wr := (wWr cI cZ cJ wr_a (pb_a 0) wr ++ wSy cI cZ cJ sy_a sy)) (w1 := (wPb cI cZ cJ pb_a w_a lk_v pb_11 ++ wBr cI cZ cJ w_a w_q_13 w_12)) hP hD [3, 4, 5] [0, 1, 2, 6, 7, 8, 9, 10, 11, 12, 13, 14, 15] rfl rfl (by decide) (by decide) ht hk1 hFc hB
        generalize H1 = H at hP hS ⊢
        have hP : va_P (dC, dI) vwCl (wWr cI cZ cJ wr_a (pb_a 0) wr ++ wPb cI cZ cJ pb_a w_a lk_v pb_11 ++ wBr cI cZ cJ w_a w_q_13 w_12 ++ wSy cI cZ cJ sy_a sy) H := hP.sub [0, 1, 2, 13, 14, 15, 3, 4, 5, 6, 7, 8, 9, 10, 11, 12] rfl
        have hD : va_D A (wWr cI cZ cJ wr_a (pb_a 0) wr ++ wPb cI cZ cJ pb_a w_a lk_v pb_11 ++ wBr cI cZ cJ w_a w_q_13 w_12 ++ wSy cI cZ cJ sy_a sy) := hD.sub [0, 1, 2, 13, 14, 15, 3, 4, 5, 6, 7, 8, 9, 10, 11, 12] (by decide) rfl
        refine lv_iload_n hx hb d_Writer_tellExports_48 rfl (lv_at hl 2 rfl) ?_
        refine lv_if_ne (tgt := 56) hx hb d_Writer_tellExports_49 (by decide) (fun c_14 => ?_) (fun c_14 => ?_)
        · rw [if_neg c_14] at hf
          refine lv_iconst (v := 0) hx hb d_Writer_tellExports_56 (by decide) ?_
          refine lv_istore_n (lv' := [(2, .int 0), (0, .ref (wr_a 0)), (1, .ref (sy_a 0)), (3, .int x3), (4, .int x4)]) hx hb d_Writer_tellExports_57 rfl hl (by decide) rfl (fun ls hl => ?_)
          refine lv_iconst (v := 0) hx hb d_Writer_tellExports_58 (by decide) ?_
          refine lv_istore_n (lv' := [(3, .int 0), (2, .int 0), (0, .ref (wr_a 0)), (1, .ref (sy_a 0)), (4, .int x4)]) hx hb d_Writer_tellExports_59 rfl hl (by decide) rfl (fun ls hl => ?_)
          obtain ⟨x3_15, ex3_15, hf⟩ := lt_ex hf
          try dsimp only at hf
          refine lv_iinc (v := x3_15) (lv' := [(3, .int x3_15), (2, .int 0), (0, .ref (wr_a 0)), (1, .ref (sy_a 0)), (4, .int x4)]) hx hb d_Writer_tellExports_60 hl (k := 0) rfl (by rw [ex3_15]; rfl) (by decide) rfl (fun ls hl => ?_)
          obtain ⟨x4_16, ex4_16, hf⟩ := lt_ex hf
          try dsimp only at hf
          refine lv_iinc (v := x4_16) (lv' := [(4, .int x4_16), (3, .int x3_15), (2, .int 0), (0, .ref (wr_a 0)), (1, .ref (sy_a 0))]) hx hb d_Writer_tellExports_63 hl (k := 4) rfl (by rw [ex4_16]; rfl) (by decide) rfl (fun ls hl => ?_)
          refine lv_goto (tgt := 15) hx hb d_Writer_tellExports_66 (by decide) ?_
          exact ih _ _ _ _ _ _ pb_11 w_12 0 x3_15 x4_16 hg hP hD hS (lv_sub hl [3, 4, 2, 1, 0] rfl) hf
        · rw [if_pos c_14] at hf
          refine lv_iconst (v := 1) hx hb d_Writer_tellExports_52 (by decide) ?_
          refine lv_goto (tgt := 57) hx hb d_Writer_tellExports_53 (by decide) ?_
          refine lv_istore_n (lv' := [(2, .int 1), (0, .ref (wr_a 0)), (1, .ref (sy_a 0)), (3, .int x3), (4, .int x4)]) hx hb d_Writer_tellExports_57 rfl hl (by decide) rfl (fun ls hl => ?_)
          refine lv_iconst (v := 0) hx hb d_Writer_tellExports_58 (by decide) ?_
          refine lv_istore_n (lv' := [(3, .int 0), (2, .int 1), (0, .ref (wr_a 0)), (1, .ref (sy_a 0)), (4, .int x4)]) hx hb d_Writer_tellExports_59 rfl hl (by decide) rfl (fun ls hl => ?_)
          obtain ⟨x3_17, ex3_17, hf⟩ := lt_ex hf
          try dsimp only at hf
          refine lv_iinc (v := x3_17) (lv' := [(3, .int x3_17), (2, .int 1), (0, .ref (wr_a 0)), (1, .ref (sy_a 0)), (4, .int x4)]) hx hb d_Writer_tellExports_60 hl (k := 0) rfl (by rw [ex3_17]; rfl) (by decide) rfl (fun ls hl => ?_)
          obtain ⟨x4_18, ex4_18, hf⟩ := lt_ex hf
          try dsimp only at hf
          refine lv_iinc (v := x4_18) (lv' := [(4, .int x4_18), (3, .int x3_17), (2, .int 1), (0, .ref (wr_a 0)), (1, .ref (sy_a 0))]) hx hb d_Writer_tellExports_63 hl (k := 4) rfl (by rw [ex4_18]; rfl) (by decide) rfl (fun ls hl => ?_)
          refine lv_goto (tgt := 15) hx hb d_Writer_tellExports_66 (by decide) ?_
          exact ih _ _ _ _ _ _ pb_11 w_12 1 x3_17 x4_18 hg hP hD hS (lv_sub hl [3, 4, 2, 1, 0] rfl) hf
set_option maxHeartbeats 4000000 in
set_option maxRecDepth 100000 in
theorem B_P_Writer_tellExports {cells slots : Nat} {l0 : Nat} {dC : Nat → ClassId} {dI : Nat → Nat → Nat} {cI cZ cJ : ClassId} {wr_a : Nat → Nat} {pb_a : Nat → Nat} {w_a : Nat} {sy_a : Nat → Nat} {lk_v : Nat} {w_b : Nat} {wr : Wr} {pb : Pb} {w : Br} {sy : Sy} {res : Pb × Br} (C0 : cxt p c m s args R 0 0 R_Writer c_Writer_tellExports tb 5 (dC, dI) vwCl (TYS cI cZ cJ) A 6 175) (hRc : gR l0 ((fun r : Pb × Br => Br_byL r.2) res) R)
    (hr7 : ∀ (H : Heap) (locs : List Loc) (ls : Array Slot) (cells slots : Nat) (w_b : Nat) (pb' : Pb) (w' : Br), gok R l0 (Br_byL w') cells slots → va_P (dC, dI) vwCl (wWr cI cZ cJ wr_a (pb_a 0) wr ++ wPb cI cZ cJ pb_a w_a lk_v pb' ++ wBr cI cZ cJ w_a w_b w' ++ wSy cI cZ cJ sy_a sy) H → va_D A (wWr cI cZ cJ wr_a (pb_a 0) wr ++ wPb cI cZ cJ pb_a w_a lk_v pb' ++ wBr cI cZ cJ w_a w_b w' ++ wSy cI cZ cJ sy_a sy) → va_S A s.heap H locs → some (pb', w') = some res → W p l e R s m args below meth c H locs cells slots Q (F0 m 7 ls []))
    (hr77 : ∀ (H : Heap) (locs : List Loc) (ls : Array Slot) (cells slots : Nat) (w_b : Nat) (pb' : Pb) (w' : Br), gok R l0 (Br_byL w') cells slots → va_P (dC, dI) vwCl (wWr cI cZ cJ wr_a (pb_a 0) wr ++ wPb cI cZ cJ pb_a w_a lk_v pb' ++ wBr cI cZ cJ w_a w_b w' ++ wSy cI cZ cJ sy_a sy) H → va_D A (wWr cI cZ cJ wr_a (pb_a 0) wr ++ wPb cI cZ cJ pb_a w_a lk_v pb' ++ wBr cI cZ cJ w_a w_b w' ++ wSy cI cZ cJ sy_a sy) → va_S A s.heap H locs → some (pb', w') = some res → W p l e R s m args below meth c H locs cells slots Q (F0 m 77 ls []))
    {H : Heap} {locs : List Loc} {ls : Array Slot} (hg : gok R l0 (Br_byL w) cells slots) (hP : va_P (dC, dI) vwCl (wWr cI cZ cJ wr_a (pb_a 0) wr ++ wPb cI cZ cJ pb_a w_a lk_v pb ++ wBr cI cZ cJ w_a w_b w ++ wSy cI cZ cJ sy_a sy) H) (hD : va_D A (wWr cI cZ cJ wr_a (pb_a 0) wr ++ wPb cI cZ cJ pb_a w_a lk_v pb ++ wBr cI cZ cJ w_a w_b w ++ wSy cI cZ cJ sy_a sy)) (hS : va_S A s.heap H locs) (hl : lv_has ls 5 [(0, .ref (wr_a 0)), (1, .ref (sy_a 0))]) (hf : f_P_Writer_tellExports wr pb w sy = some res) : W p l e R s m args below meth c H locs cells slots Q (F0 m 0 ls []) := by
  obtain ⟨hx, hb, hml, hown, hts, hK, hA, hRf, hRl, hN, _⟩ := id C0
  rw [f_P_Writer_tellExports] at hf
  refine lv_aload_n hx hb d_Writer_tellExports_0 rfl (lv_at hl 1 rfl) ?_
  refine va_get (D := (dC, dI)) (ci := 0) (v := .int (Sy_n sy)) (C := R_Symbols) (T := T_Symbols) (N := 10) hx hb hts in_Symbols hown hK hP 6 rfl rfl 7 (by decide) (hts _ t_231) (fun _ h9 => h9) rfl d_Writer_tellExports_1 ?_
  refine lv_if_ne (tgt := 8) hx hb d_Writer_tellExports_4 (by decide) (fun c_1 => ?_) (fun c_1 => ?_)
  · rw [if_neg c_1] at hf
    refine lv_iconst (v := 0) hx hb d_Writer_tellExports_8 (by decide) ?_
    refine lv_istore_n (lv' := [(2, .int 0), (0, .ref (wr_a 0)), (1, .ref (sy_a 0))]) hx hb d_Writer_tellExports_9 rfl hl (by decide) rfl (fun ls hl => ?_)
    refine lv_iconst (v := 0) hx hb d_Writer_tellExports_10 (by decide) ?_
    refine lv_istore_n (lv' := [(3, .int 0), (2, .int 0), (0, .ref (wr_a 0)), (1, .ref (sy_a 0))]) hx hb d_Writer_tellExports_11 rfl hl (by decide) rfl (fun ls hl => ?_)
    refine lv_iconst (v := 0) hx hb d_Writer_tellExports_12 (by decide) ?_
    refine lv_istore (lv' := [(4, .int 0), (3, .int 0), (2, .int 0), (0, .ref (wr_a 0)), (1, .ref (sy_a 0))]) hx hb d_Writer_tellExports_13 hl (by decide) rfl (fun ls hl => ?_)
    refine L_P_Writer_tellExports_15 C0 hRc (fun H locs ls cells slots w_b pb_19 w_20 x3_21 hg hP hD hS hl hf => ?_) (fun pb_19 w_20 x3_21 => ?_) 100000 _ _ _ _ _ _ pb w 0 0 0 hg hP hD hS (lv_sub hl [3, 4, 2, 1, 0] rfl) hf
    · try dsimp only at hf
      refine lv_aload_n hx hb d_Writer_tellExports_69 rfl (lv_at hl 0 rfl) ?_
      refine va_get (D := (dC, dI)) (ci := 4) (v := .ref (pb_a 0)) (C := R_Writer) (T := T_Writer) (N := 4) hx hb hts in_Writer hown hK hP 0 rfl rfl 0 (by decide) (hts _ t_164) (fun _ h9 => h9) rfl d_Writer_tellExports_70 ?_
      refine lv_iload_n hx hb d_Writer_tellExports_73 rfl (lv_at hl 1 rfl) ?_
      obtain ⟨⟨pb_22, w_23⟩, hf1, hf⟩ := bd_ex hf
      try dsimp only at hf
      have hm0 := mo_P_Bits_putNumber _ hf1
      try dsimp only at hm0
      have hm : Br_byL w_23 ≤ (fun r : Pb × Br => Br_byL r.2) res := by
        refine mle_use (π := (fun r : Pb × Br => Br_byL r.2)) hf ?_
        exact mle_some (Nat.le_refl _)
      have hPc := hP.sub (ws' := (wPb cI cZ cJ pb_a w_a lk_v pb_19 ++ wBr cI cZ cJ w_a w_b w_20)) [3, 4, 5] rfl
      have hDc := hD.sub (ws' := (wPb cI cZ cJ pb_a w_a lk_v pb_19 ++ wBr cI cZ cJ w_a w_b w_20)) [3, 4, 5] (by decide) rfl
      have hFc := va_free (wc := (wPb cI cZ cJ pb_a w_a lk_v pb_19 ++ wBr cI cZ cJ w_a w_b w_20)) hD hS hA [3, 4, 5] rfl
      refine va_callv (va_runU (As := [.int x3_21]) (rest := []) ⟨hx, hb, hml, hown, hts⟩ (k_P_Bits_putNumber l dC dI cI cZ cJ pb_a w_a w_b lk_v H.size hf1) (va_cwU 1 hts (gU t_319 t_321 t_323 t_320 t_57 t_324) rfl rfl rfl rfl hd_Bits_putNumber.2 ⟨Nat.le_trans (Nat.le_of_ble_eq_true rfl) hRf, Nat.le_trans (Nat.le_of_ble_eq_true rfl) hRl⟩) ⟨kP_blind, va_recv hK hP (ci := 2) (q0 := 3) rfl rfl, kP_at hPc hK hDc hN⟩ rfl rfl hl.1 rfl (lv_room (Nat.le_of_ble_eq_true rfl)) d_Writer_tellExports_74 (g_room hg hm0 hm hRc)) hS (fun q _ h => hFc q h) hFc (fun w_q_24 t H1 locs ht hvm hw hB hz1 hk1 hS => ?_)
      have hg := g_step (L0 := Br_byL w_20) (L1 := Br_byL w_23) hg hm0 hm hRc
      generalize cells + (Br_byL w_23 - Br_byL w_20) = cells at hg ⊢
      generalize slots + 2 * (Br_byL w_23 - Br_byL w_20) = slots at hg ⊢
      obtain ⟨hP, hD⟩ := kQ_join (wr := (wWr cI cZ cJ wr_a (pb_a 0) wr ++ wSy cI cZ cJ sy_a sy)) (w1 := (wPb cI cZ cJ pb_a w_a lk_v pb_22 ++ wBr cI cZ cJ w_a w_q_24 w_23)) hP hD [3, 4, 5] [0, 1, 2, 6, 7, 8, 9, 10, 11, 12, 13, 14, 15] rfl rfl (by decide) (by decide) ht hk1 hFc hB
      generalize H1 = H at hP hS ⊢
      have hP : va_P (dC, dI) vwCl (wWr cI cZ cJ wr_a (pb_a 0) wr ++ wPb cI cZ cJ pb_a w_a lk_v pb_22 ++ wBr cI cZ cJ w_a w_q_24 w_23 ++ wSy cI cZ cJ sy_a sy) H := hP.sub [0, 1, 2, 13, 14, 15, 3, 4, 5, 6, 7, 8, 9, 10, 11, 12] rfl
      have hD : va_D A (wWr cI cZ cJ wr_a (pb_a 0) wr ++ wPb cI cZ cJ pb_a w_a lk_v pb_22 ++ wBr cI cZ cJ w_a w_q_24 w_23 ++ wSy cI cZ cJ sy_a sy) := hD.sub [0, 1, 2, 13, 14, 15, 3, 4, 5, 6, 7, 8, 9, 10, 11, 12] (by decide) rfl
      exact hr77 _ _ _ _ _ _ pb_22 w_23 hg hP hD hS hf
    · try dsimp only
      refine mle_bd (fun y9 hy9 => ?_)
      obtain ⟨pb_22, w_23⟩ := y9
      try dsimp only
      refine mle_le (mo_P_Bits_putNumber _ hy9) ?_
      try dsimp only
      exact mle_some (Nat.le_refl _)
  · rw [if_pos c_1] at hf
    exact hr7 _ _ _ _ _ _ pb w hg hP hD hS hf
end
set_option maxHeartbeats 4000000 in
set_option maxRecDepth 100000 in
theorem k_P_Writer_tellExports (l : Launch) (dC : Nat → ClassId) (dI : Nat → Nat → Nat) (cI cZ cJ : ClassId) (wr_a : Nat → Nat) (pb_a : Nat → Nat) (w_a w_b : Nat) (sy_a : Nat → Nat) (lk_v : Nat) (sz : Nat) {wr : Wr} {pb : Pb} {w : Br} {sy : Sy} {pb' : Pb} {w' : Br} (hf : f_P_Writer_tellExports wr pb w sy = some (pb', w')) :
    Met l y_Writer_tellExports ws_Writer_tellExports ({ frames := 6, cells := (Br_byL w' - Br_byL w), slots := (2 * (Br_byL w' - Br_byL w)), locals := 175 }) (va_Pc [.ref (wr_a 0), .ref (sy_a 0)] (kP (dC, dI) vwCl (TYS cI cZ cJ) (wWr cI cZ cJ wr_a (pb_a 0) wr ++ wPb cI cZ cJ pb_a w_a lk_v pb ++ wBr cI cZ cJ w_a w_b w ++ wSy cI cZ cJ sy_a sy) sz)) (va_Qv (fun (_ : Nat) => True) (fun q9 t => kQ (dC, dI) vwCl (TYS cI cZ cJ) (wWr cI cZ cJ wr_a (pb_a 0) wr ++ wPb cI cZ cJ pb_a w_a lk_v pb ++ wBr cI cZ cJ w_a w_b w ++ wSy cI cZ cJ sy_a sy) sz (wWr cI cZ cJ wr_a (pb_a 0) wr ++ wPb cI cZ cJ pb_a w_a lk_v pb' ++ wBr cI cZ cJ w_a q9 w' ++ wSy cI cZ cJ sy_a sy) t) (va_A (wWr cI cZ cJ wr_a (pb_a 0) wr ++ wPb cI cZ cJ pb_a w_a lk_v pb ++ wBr cI cZ cJ w_a w_b w ++ wSy cI cZ cJ sy_a sy) sz)) (Br_byL w' - Br_byL w) (2 * (Br_byL w' - Br_byL w)) (va_A (wWr cI cZ cJ wr_a (pb_a 0) wr ++ wPb cI cZ cJ pb_a w_a lk_v pb ++ wBr cI cZ cJ w_a w_b w ++ wSy cI cZ cJ sy_a sy) sz) := by
  refine Met.ofW (cc := c_Writer_tellExports) (maxL := 5) (ret := none) (by decide) rfl ?_
  intro p e s m args below meth c s₁ B hml hv
  obtain ⟨rfl, hsz, hP, hK, hD0, hN⟩ := hv
  have hr := B.returns
  have hlocks := B.notSynchronized
  subst hsz
  have hD := hD0.self (sz := s.heap.size)
  have hl := lv_entry ([.ref (wr_a 0), .ref (sy_a 0)]) (n := 5) (Nat.le_of_ble_eq_true rfl)
  rw [lg_entry_eq]
  generalize (lg_sl ([.ref (wr_a 0), .ref (sy_a 0)]) ++ List.replicate (5 - (lg_sl ([.ref (wr_a 0), .ref (sy_a 0)])).length) Slot.unset).toArray = ls at hl ⊢
  refine B_P_Writer_tellExports (A := va_A (wWr cI cZ cJ wr_a (pb_a 0) wr ++ wPb cI cZ cJ pb_a w_a lk_v pb ++ wBr cI cZ cJ w_a w_b w ++ wSy cI cZ cJ sy_a sy) s.heap.size) ⟨B.exec, B.bytes, hml, findClass_of_methodNamed B.named, fun w h => atoms_spec (ws := ws_Writer_tellExports) B.pre w (List.mem_cons_of_mem _ h), hK, fun q h => Or.inr h, Nat.le_of_ble_eq_true rfl, Nat.le_of_ble_eq_true rfl, hN, Nat.zero_le _, Nat.zero_le _⟩ ⟨Nat.le_refl _, Nat.le_refl _⟩ (fun H locs ls cells slots q9 pb'1 w'1 hg hP hD hS hf => ?_) (fun H locs ls cells slots q9 pb'1 w'1 hg hP hD hS hf => ?_) ⟨Nat.le_refl _, Nat.zero_le _, Nat.zero_le _, Nat.zero_le _, Nat.zero_le _⟩ hP hD va_S.rf hl hf
  · cases hf
    refine W.widen (k := (Br_byL w' - Br_byL w)) (n := (2 * (Br_byL w' - Br_byL w))) hg.2.1 hg.2.2.1 ?_
    exact W.vret B.exec B.bytes hr (fun t ht hW => ⟨⟨q9, rfl, trivial, ⟨by rw [ht]; exact hP, va_K.moved hW.alike hK, hD⟩⟩, hS.F ht⟩) hS.2.2 d_Writer_tellExports_7
  · cases hf
    refine W.widen (k := (Br_byL w' - Br_byL w)) (n := (2 * (Br_byL w' - Br_byL w))) hg.2.1 hg.2.2.1 ?_
    exact W.vret B.exec B.bytes hr (fun t ht hW => ⟨⟨q9, rfl, trivial, ⟨by rw [ht]; exact hP, va_K.moved hW.alike hK, hD⟩⟩, hS.F ht⟩) hS.2.2 d_Writer_tellExports_77

/-! P_Writer_tell -/
def l_P_Writer_tell_2 (pb : Pb) (w : Br) (sy : Sy) (k27 : Wr → Option (Wr × Pb × Br)) : Nat → Wr → Int32 → Option (Wr × Pb × Br)
  | 0, _, _ => none
  | n + 1, wr, x2 => (if (Sy_n sy) ≤ x2 then k27 wr else bd (f_Symbols_placeOf sy x2) <| fun r_3 => gd (inb r_3 40) <| lt' (Wr_s_od wr (upd (Wr_od wr) r_3.toNatClampNeg x2)) <| fun wr_5 => lt' (x2 + 1) <| fun x2_7 => (l_P_Writer_tell_2 pb w sy k27 n) wr_5 x2_7)
theorem mo_l_P_Writer_tell_2 {pb : Pb} {w : Br} {sy : Sy} {k27 : Wr → Option (Wr × Pb × Br)} (hkm27 : ∀ (wr_1 : Wr), mle (k27 wr_1) (Br_byL w) (fun r : Wr × Pb × Br => Br_byL r.2.2)) : ∀ (n : Nat) (wr : Wr) (x2 : Int32), mle (l_P_Writer_tell_2 pb w sy k27 n wr x2) (Br_byL w) (fun r : Wr × Pb × Br => Br_byL r.2.2) := by
  intro n
  induction n with
  | zero => intro wr x2 r hr; exact absurd hr (by simp [l_P_Writer_tell_2])
  | succ n ih =>
    intro wr x2
    rw [l_P_Writer_tell_2]
    refine mle_if (fun _ => ?_) (fun _ => ?_)
    · exact hkm27 wr
    · refine mle_bd (fun y9 hy9 => ?_)
      obtain ⟨r_3, rfl⟩ : ∃ z, z = y9 := ⟨_, rfl⟩
      try dsimp only
      refine mle_gd ?_
      refine mle_lt (fun wr_5 ewr_5 => ?_)
      refine mle_lt (fun x2_7 ex2_7 => ?_)
      exact ih wr_5 x2_7
def l_P_Writer_tell_47 (sy : Sy) (k116 : Wr → Pb → Br → Option (Wr × Pb × Br)) : Nat → Wr → Pb → Br → Int32 → Option (Wr × Pb × Br)
  | 0, _, _, _, _ => none
  | n + 1, wr, pb, w, x2 => (if (Sy_n sy) ≤ x2 then k116 wr pb w else bd (f_P_Writer_tellSize wr pb w sy x2) <| fun (pb_18, w_19) => bd (f_P_Writer_tellBase wr pb_18 w_19 sy x2) <| fun (pb_21, w_22) => gd (inb x2 40) <| bd (f_P_Writer_layPlane wr sy (Wr_od wr x2.toNatClampNeg)) <| fun wr_25 => (if (Wr_br wr_25) = 0 then gd (inb x2 40) <| bd (f_P_Writer_tellSamples wr_25 pb_21 w_22 sy (Wr_od wr_25 x2.toNatClampNeg)) <| fun (pb_28, w_29) => lt' (x2 + 1) <| fun x2_31 => (l_P_Writer_tell_47 sy k116 n) wr_25 pb_28 w_29 x2_31 else gd (inb x2 40) <| bd (f_P_Writer_tellRuns wr_25 pb_21 w_22 sy (Wr_od wr_25 x2.toNatClampNeg)) <| fun (pb_33, w_34) => lt' (x2 + 1) <| fun x2_36 => (l_P_Writer_tell_47 sy k116 n) wr_25 pb_33 w_34 x2_36))
theorem mo_l_P_Writer_tell_47 {sy : Sy} {k116 : Wr → Pb → Br → Option (Wr × Pb × Br)} (hkm116 : ∀ (wr_14 : Wr) (pb_15 : Pb) (w_16 : Br), mle (k116 wr_14 pb_15 w_16) (Br_byL w_16) (fun r : Wr × Pb × Br => Br_byL r.2.2)) : ∀ (n : Nat) (wr : Wr) (pb : Pb) (w : Br) (x2 : Int32), mle (l_P_Writer_tell_47 sy k116 n wr pb w x2) (Br_byL w) (fun r : Wr × Pb × Br => Br_byL r.2.2) := by
  intro n
  induction n with
  | zero => intro wr pb w x2 r hr; exact absurd hr (by simp [l_P_Writer_tell_47])
  | succ n ih =>
    intro wr pb w x2
    rw [l_P_Writer_tell_47]
    refine mle_if (fun _ => ?_) (fun _ => ?_)
    · exact hkm116 wr pb w
    · refine mle_bd (fun y9 hy9 => ?_)
      obtain ⟨pb_18, w_19⟩ := y9
      try dsimp only
      refine mle_le (mo_P_Writer_tellSize _ hy9) ?_
      try dsimp only
      refine mle_bd (fun y9 hy9 => ?_)
      obtain ⟨pb_21, w_22⟩ := y9
      try dsimp only
      refine mle_le (mo_P_Writer_tellBase _ hy9) ?_
      try dsimp only
      refine mle_gd ?_
      refine mle_bd (fun y9 hy9 => ?_)
      obtain ⟨wr_25, rfl⟩ : ∃ z, z = y9 := ⟨_, rfl⟩
      try dsimp only
      refine mle_if (fun _ => ?_) (fun _ => ?_)
      · refine mle_gd ?_
        refine mle_bd (fun y9 hy9 => ?_)
        obtain ⟨pb_28, w_29⟩ := y9
        try dsimp only
        refine mle_le (mo_P_Writer_tellSamples _ hy9) ?_
        try dsimp only
        refine mle_lt (fun x2_31 ex2_31 => ?_)
        exact ih wr_25 pb_28 w_29 x2_31
      · refine mle_gd ?_
        refine mle_bd (fun y9 hy9 => ?_)
        obtain ⟨pb_33, w_34⟩ := y9
        try dsimp only
        refine mle_le (mo_P_Writer_tellRuns _ hy9) ?_
        try dsimp only
        refine mle_lt (fun x2_36 ex2_36 => ?_)
        exact ih wr_25 pb_33 w_34 x2_36
def j_P_Writer_tell_132_42 (sy : Sy) (wr_37 : Wr) (pb_40 : Pb) (w_41 : Br) : Option (Wr × Pb × Br) := bd (f_P_Writer_tellExports wr_37 pb_40 w_41 sy) <| fun (pb_43, w_44) => bd (f_P_PlainBits_finishWriting pb_43 w_44) <| fun w_46 => some (wr_37, pb_43, w_46)
theorem mo_j_P_Writer_tell_132_42 (sy : Sy) (wr_37 : Wr) (pb_40 : Pb) (w_41 : Br) : mle (j_P_Writer_tell_132_42 sy wr_37 pb_40 w_41) (Br_byL w_41) (fun r : Wr × Pb × Br => Br_byL r.2.2) := by
  rw [j_P_Writer_tell_132_42]
  refine mle_bd (fun y9 hy9 => ?_)
  obtain ⟨pb_43, w_44⟩ := y9
  try dsimp only
  refine mle_le (mo_P_Writer_tellExports _ hy9) ?_
  try dsimp only
  refine mle_bd (fun y9 hy9 => ?_)
  obtain ⟨w_46, rfl⟩ : ∃ z, z = y9 := ⟨_, rfl⟩
  try dsimp only
  refine mle_le (mo_P_PlainBits_finishWriting _ hy9) ?_
  try dsimp only
  exact mle_some (Nat.le_refl _)
def f_P_Writer_tell (wr : Wr) (pb : Pb) (w : Br) (sy : Sy) : Option (Wr × Pb × Br) := l_P_Writer_tell_2 pb w sy (fun wr_8 => bd (f_P_PlainBits_startWriting pb w) <| fun (pb_9, w_10) => bd (f_P_Bits_putNumber pb_9 w_10 (Sy_n sy)) <| fun (pb_11, w_12) => l_P_Writer_tell_47 sy (fun wr_37 pb_38 w_39 => (if (Sy_n sy) ≤ 0 then j_P_Writer_tell_132_42 sy wr_37 pb_38 w_39 else bd (f_P_PlainBits_putBit pb_38 w_39 0 (-1)) <| fun (pb_49, w_50) => j_P_Writer_tell_132_42 sy wr_37 pb_49 w_50)) 100000 wr_8 pb_11 w_12 0) 100000 wr 0
theorem mo_P_Writer_tell {wr : Wr} {pb : Pb} {w : Br} {sy : Sy} : mle (f_P_Writer_tell wr pb w sy) (Br_byL w) (fun r : Wr × Pb × Br => Br_byL r.2.2) := by
  rw [f_P_Writer_tell]
  refine mo_l_P_Writer_tell_2 (fun wr_8 => ?_) 100000 wr 0
  try dsimp only
  refine mle_bd (fun y9 hy9 => ?_)
  obtain ⟨pb_9, w_10⟩ := y9
  try dsimp only
  refine mle_le (mo_P_PlainBits_startWriting _ hy9) ?_
  try dsimp only
  refine mle_bd (fun y9 hy9 => ?_)
  obtain ⟨pb_11, w_12⟩ := y9
  try dsimp only
  refine mle_le (mo_P_Bits_putNumber _ hy9) ?_
  try dsimp only
  refine mo_l_P_Writer_tell_47 (fun wr_37 pb_38 w_39 => ?_) 100000 wr_8 pb_11 w_12 0
  try dsimp only
  refine mle_if (fun _ => ?_) (fun _ => ?_)
  · exact mo_j_P_Writer_tell_132_42 sy wr_37 pb_38 w_39
  · refine mle_bd (fun y9 hy9 => ?_)
    obtain ⟨pb_49, w_50⟩ := y9
    try dsimp only
    refine mle_le (mo_P_PlainBits_putBit _ hy9) ?_
    try dsimp only
    exact mo_j_P_Writer_tell_132_42 sy wr_37 pb_49 w_50
section
variable {p : Program} {l : Launch} {e : Env} {R : Room} {s : State} {m : MethodId} {args : Array Value} {below : List Frame} {meth : Method} {c : Code} {Q : State → Prop} {A : Nat → Prop}
set_option maxHeartbeats 4000000 in
set_option maxRecDepth 100000 in
theorem L_P_Writer_tell_2 {l0 : Nat} {dC : Nat → ClassId} {dI : Nat → Nat → Nat} {cI cZ cJ : ClassId} {wr_a : Nat → Nat} {pb_a : Nat → Nat} {w_a : Nat} {sy_a : Nat → Nat} {lk_v : Nat} {pb : Pb} {w : Br} {sy : Sy} {k27 : Wr → Option (Wr × Pb × Br)} {res : Wr × Pb × Br} (C0 : cxt p c m s args R 0 0 R_Writer c_Writer_tell tb 3 (dC, dI) vwCl (TYS cI cZ cJ) A 7 201) (hRc : gR l0 ((fun r : Wr × Pb × Br => Br_byL r.2.2) res) R)
    (hk27 : ∀ (H : Heap) (locs : List Loc) (ls : Array Slot) (cells slots : Nat) (w_b : Nat) (wr_1 : Wr), gok R l0 (Br_byL w) cells slots → va_P (dC, dI) vwCl (wWr cI cZ cJ wr_a (pb_a 0) wr_1 ++ wPb cI cZ cJ pb_a w_a lk_v pb ++ wBr cI cZ cJ w_a w_b w ++ wSy cI cZ cJ sy_a sy) H → va_D A (wWr cI cZ cJ wr_a (pb_a 0) wr_1 ++ wPb cI cZ cJ pb_a w_a lk_v pb ++ wBr cI cZ cJ w_a w_b w ++ wSy cI cZ cJ sy_a sy) → va_S A s.heap H locs → lv_has ls 3 [(0, .ref (wr_a 0)), (1, .ref (sy_a 0))] → k27 wr_1 = some res → W p l e R s m args below meth c H locs cells slots Q (F0 m 27 ls []))
    (hkm27 : ∀ (wr_1 : Wr), mle (k27 wr_1) (Br_byL w) (fun r : Wr × Pb × Br => Br_byL r.2.2)) :
    ∀ (n : Nat) (H : Heap) (locs : List Loc) (ls : Array Slot) (cells slots : Nat) (w_b : Nat) (wr : Wr) (x2 : Int32), gok R l0 (Br_byL w) cells slots → va_P (dC, dI) vwCl (wWr cI cZ cJ wr_a (pb_a 0) wr ++ wPb cI cZ cJ pb_a w_a lk_v pb ++ wBr cI cZ cJ w_a w_b w ++ wSy cI cZ cJ sy_a sy) H → va_D A (wWr cI cZ cJ wr_a (pb_a 0) wr ++ wPb cI cZ cJ pb_a w_a lk_v pb ++ wBr cI cZ cJ w_a w_b w ++ wSy cI cZ cJ sy_a sy) → va_S A s.heap H locs → lv_has ls 3 [(0, .ref (wr_a 0)), (1, .ref (sy_a 0)), (2, .int x2)] → l_P_Writer_tell_2 pb w sy k27 n wr x2 = some res → W p l e R s m args below meth c H locs cells slots Q (F0 m 2 ls []) := by
  obtain ⟨hx, hb, hml, hown, hts, hK, hA, hRf, hRl, hN, _⟩ := id C0
  intro n
  induction n with
  | zero =>
    intro H locs ls cells slots w_b wr x2 hg hP hD hS hl hf
    exact absurd hf (by simp [l_P_Writer_tell_2])
  | succ n ih =>
    intro H locs ls cells slots w_b wr x2 hg hP hD hS hl hf
    rw [l_P_Writer_tell_2] at hf
    refine lv_iload_n hx hb d_Writer_tell_2 rfl (lv_at hl 2 rfl) ?_
    refine lv_aload_n hx hb d_Writer_tell_3 rfl (lv_at hl 1 rfl) ?_
    refine va_get (D := (dC, dI)) (ci := 0) (v := .int (Sy_n sy)) (C := R_Symbols) (T := T_Symbols) (N := 10) hx hb hts in_Symbols hown hK hP 6 rfl rfl 7 (by decide) (hts _ t_231) (fun _ h9 => h9) rfl d_Writer_tell_4 ?_
    refine lv_icmp_ge (tgt := 27) hx hb d_Writer_tell_7 (by decide) (fun c_2 => ?_) (fun c_2 => ?_)
    · rw [if_pos c_2] at hf
      exact hk27 _ _ _ _ _ _ wr hg hP hD hS (lv_sub hl [0, 1] rfl) hf
    · rw [if_neg c_2] at hf
      refine lv_aload_n hx hb d_Writer_tell_10 rfl (lv_at hl 0 rfl) ?_
      refine va_get (D := (dC, dI)) (ci := 4) (v := .ref (wr_a 1)) (C := R_Writer) (T := T_Writer) (N := 4) hx hb hts in_Writer hown hK hP 0 rfl rfl 2 (by decide) (hts _ t_166) (fun _ h9 => h9) rfl d_Writer_tell_11 ?_
      refine lv_aload_n hx hb d_Writer_tell_14 rfl (lv_at hl 1 rfl) ?_
      refine lv_iload_n hx hb d_Writer_tell_15 rfl (lv_at hl 2 rfl) ?_
      obtain ⟨r_3, hf1, hf⟩ := bd_ex hf
      try dsimp only at hf
      have hPc := hP.sub (ws' := (wSy cI cZ cJ sy_a sy)) [6, 7, 8, 9, 10, 11, 12, 13, 14, 15] rfl
      have hDc := hD.sub (ws' := (wSy cI cZ cJ sy_a sy)) [6, 7, 8, 9, 10, 11, 12, 13, 14, 15] (by decide) rfl
      have hFc := va_free (wc := (wSy cI cZ cJ sy_a sy)) hD hS hA [6, 7, 8, 9, 10, 11, 12, 13, 14, 15] rfl
      refine va_calli (va_runV (As := [.int x2]) (rest := [.ref (wr_a 1)]) ⟨hx, hb, hml, hown, hts⟩ (k_Symbols_placeOf l dC dI cI cZ cJ sy_a H.size hf1) (cwV 1 hts (gV t_288 t_289 t_290 t_62 t_291) rfl rfl rfl hd_Symbols_placeOf ⟨Nat.le_trans (Nat.le_of_ble_eq_true rfl) hRf, Nat.le_trans (Nat.le_of_ble_eq_true rfl) hRl⟩) ⟨kP_blind, va_recv hK hP (ci := 0) (q0 := 6) rfl rfl, kP_at hPc hK hDc hN⟩ rfl rfl hl.1 rfl (lv_room (Nat.le_of_ble_eq_true rfl)) d_Writer_tell_16 hg.2.2.2) hS (fun q _ h => hFc q h) hFc (fun r9 u t H1 locs ht hvm hw hB hz1 hk1 hS => ?_)
      rw [hw]
      obtain ⟨hP, hD⟩ := kQ_join (wr := (wWr cI cZ cJ wr_a (pb_a 0) wr ++ wPb cI cZ cJ pb_a w_a lk_v pb ++ wBr cI cZ cJ w_a w_b w)) (w1 := (wSy cI cZ cJ sy_a sy)) hP hD [6, 7, 8, 9, 10, 11, 12, 13, 14, 15] [0, 1, 2, 3, 4, 5] rfl rfl (by decide) (by decide) ht hk1 hFc hB
      generalize H1 = H at hP hS ⊢
      have hP : va_P (dC, dI) vwCl (wWr cI cZ cJ wr_a (pb_a 0) wr ++ wPb cI cZ cJ pb_a w_a lk_v pb ++ wBr cI cZ cJ w_a w_b w ++ wSy cI cZ cJ sy_a sy) H := hP.sub [0, 1, 2, 3, 4, 5, 6, 7, 8, 9, 10, 11, 12, 13, 14, 15] rfl
      have hD : va_D A (wWr cI cZ cJ wr_a (pb_a 0) wr ++ wPb cI cZ cJ pb_a w_a lk_v pb ++ wBr cI cZ cJ w_a w_b w ++ wSy cI cZ cJ sy_a sy) := hD.sub [0, 1, 2, 3, 4, 5, 6, 7, 8, 9, 10, 11, 12, 13, 14, 15] (by decide) rfl
      refine lv_iload_n hx hb d_Writer_tell_19 rfl (lv_at hl 2 rfl) ?_
      obtain ⟨h_4, hf⟩ := gd_ex hf
      refine va_iast (f := Wr_od wr) hx hb hK hP hD hS 1 0 rfl rfl (inb_in h_4) d_Writer_tell_20 (fun H locs hP hD hS => ?_)
      obtain ⟨wr_5, ewr_5, hf⟩ := lt_ex hf
      try dsimp only at hf
      have hP : va_P (dC, dI) vwCl (wWr cI cZ cJ wr_a (pb_a 0) wr_5 ++ wPb cI cZ cJ pb_a w_a lk_v pb ++ wBr cI cZ cJ w_a w_b w ++ wSy cI cZ cJ sy_a sy) H := by rw [ewr_5]; exact hP
      have hD : va_D A (wWr cI cZ cJ wr_a (pb_a 0) wr_5 ++ wPb cI cZ cJ pb_a w_a lk_v pb ++ wBr cI cZ cJ w_a w_b w ++ wSy cI cZ cJ sy_a sy) := by rw [ewr_5]; exact hD
      obtain ⟨x2_7, ex2_7, hf⟩ := lt_ex hf
      try dsimp only at hf
      refine lv_iinc (v := x2_7) (lv' := [(2, .int x2_7), (0, .ref (wr_a 0)), (1, .ref (sy_a 0))]) hx hb d_Writer_tell_21 hl (k := 2) rfl (by rw [ex2_7]; rfl) (by decide) rfl (fun ls hl => ?_)
      refine lv_goto (tgt := 2) hx hb d_Writer_tell_24 (by decide) ?_
      exact ih _ _ _ _ _ _ wr_5 x2_7 hg hP hD hS (lv_sub hl [1, 2, 0] rfl) hf
set_option maxHeartbeats 4000000 in
set_option maxRecDepth 100000 in
theorem L_P_Writer_tell_47 {l0 : Nat} {dC : Nat → ClassId} {dI : Nat → Nat → Nat} {cI cZ cJ : ClassId} {wr_a : Nat → Nat} {pb_a : Nat → Nat} {w_a : Nat} {sy_a : Nat → Nat} {lk_v : Nat} {sy : Sy} {k116 : Wr → Pb → Br → Option (Wr × Pb × Br)} {res : Wr × Pb × Br} (C0 : cxt p c m s args R 0 0 R_Writer c_Writer_tell tb 3 (dC, dI) vwCl (TYS cI cZ cJ) A 7 201) (hRc : gR l0 ((fun r : Wr × Pb × Br => Br_byL r.2.2) res) R)
    (hk116 : ∀ (H : Heap) (locs : List Loc) (ls : Array Slot) (cells slots : Nat) (w_b : Nat) (wr_14 : Wr) (pb_15 : Pb) (w_16 : Br), gok R l0 (Br_byL w_16) cells slots → va_P (dC, dI) vwCl (wWr cI cZ cJ wr_a (pb_a 0) wr_14 ++ wPb cI cZ cJ pb_a w_a lk_v pb_15 ++ wBr cI cZ cJ w_a w_b w_16 ++ wSy cI cZ cJ sy_a sy) H → va_D A (wWr cI cZ cJ wr_a (pb_a 0) wr_14 ++ wPb cI cZ cJ pb_a w_a lk_v pb_15 ++ wBr cI cZ cJ w_a w_b w_16 ++ wSy cI cZ cJ sy_a sy) → va_S A s.heap H locs → lv_has ls 3 [(0, .ref (wr_a 0)), (1, .ref (sy_a 0))] → k116 wr_14 pb_15 w_16 = some res → W p l e R s m args below meth c H locs cells slots Q (F0 m 116 ls []))
    (hkm116 : ∀ (wr_14 : Wr) (pb_15 : Pb) (w_16 : Br), mle (k116 wr_14 pb_15 w_16) (Br_byL w_16) (fun r : Wr × Pb × Br => Br_byL r.2.2)) :
    ∀ (n : Nat) (H : Heap) (locs : List Loc) (ls : Array Slot) (cells slots : Nat) (w_b : Nat) (wr : Wr) (pb : Pb) (w : Br) (x2 : Int32), gok R l0 (Br_byL w) cells slots → va_P (dC, dI) vwCl (wWr cI cZ cJ wr_a (pb_a 0) wr ++ wPb cI cZ cJ pb_a w_a lk_v pb ++ wBr cI cZ cJ w_a w_b w ++ wSy cI cZ cJ sy_a sy) H → va_D A (wWr cI cZ cJ wr_a (pb_a 0) wr ++ wPb cI cZ cJ pb_a w_a lk_v pb ++ wBr cI cZ cJ w_a w_b w ++ wSy cI cZ cJ sy_a sy) → va_S A s.heap H locs → lv_has ls 3 [(0, .ref (wr_a 0)), (1, .ref (sy_a 0)), (2, .int x2)] → l_P_Writer_tell_47 sy k116 n wr pb w x2 = some res → W p l e R s m args below meth c H locs cells slots Q (F0 m 47 ls []) := by
  obtain ⟨hx, hb, hml, hown, hts, hK, hA, hRf, hRl, hN, _⟩ := id C0
  intro n
  induction n with
  | zero =>
    intro H locs ls cells slots w_b wr pb w x2 hg hP hD hS hl hf
    exact absurd hf (by simp [l_P_Writer_tell_47])
  | succ n ih =>
    intro H locs ls cells slots w_b wr pb w x2 hg hP hD hS hl hf
    rw [l_P_Writer_tell_47] at hf
    refine lv_iload_n hx hb d_Writer_tell_47 rfl (lv_at hl 2 rfl) ?_
    refine lv_aload_n hx hb d_Writer_tell_48 rfl (lv_at hl 1 rfl) ?_
    refine va_get (D := (dC, dI)) (ci := 0) (v := .int (Sy_n sy)) (C := R_Symbols) (T := T_Symbols) (N := 10) hx hb hts in_Symbols hown hK hP 6 rfl rfl 7 (by decide) (hts _ t_231) (fun _ h9 => h9) rfl d_Writer_tell_49 ?_
    refine lv_icmp_ge (tgt := 116) hx hb d_Writer_tell_52 (by decide) (fun c_17 => ?_) (fun c_17 => ?_)
    · rw [if_pos c_17] at hf
      exact hk116 _ _ _ _ _ _ wr pb w hg hP hD hS (lv_sub hl [0, 1] rfl) hf
    · rw [if_neg c_17] at hf
      refine lv_aload_n hx hb d_Writer_tell_55 rfl (lv_at hl 0 rfl) ?_
      refine lv_aload_n hx hb d_Writer_tell_56 rfl (lv_at hl 1 rfl) ?_
      refine lv_iload_n hx hb d_Writer_tell_57 rfl (lv_at hl 2 rfl) ?_
      obtain ⟨⟨pb_18, w_19⟩, hf1, hf⟩ := bd_ex hf
      try dsimp only at hf
      have hm0 := mo_P_Writer_tellSize _ hf1
      try dsimp only at hm0
      have hm : Br_byL w_19 ≤ (fun r : Wr × Pb × Br => Br_byL r.2.2) res := by
        refine mle_use (π := (fun r : Wr × Pb × Br => Br_byL r.2.2)) hf ?_
        refine mle_bd (fun y9 hy9 => ?_)
        obtain ⟨pb_21, w_22⟩ := y9
        try dsimp only
        refine mle_le (mo_P_Writer_tellBase _ hy9) ?_
        try dsimp only
        refine mle_gd ?_
        refine mle_bd (fun y9 hy9 => ?_)
        obtain ⟨wr_25, rfl⟩ : ∃ z, z = y9 := ⟨_, rfl⟩
        try dsimp only
        refine mle_if (fun _ => ?_) (fun _ => ?_)
        · refine mle_gd ?_
          refine mle_bd (fun y9 hy9 => ?_)
          obtain ⟨pb_28, w_29⟩ := y9
          try dsimp only
          refine mle_le (mo_P_Writer_tellSamples _ hy9) ?_
          try dsimp only
          refine mle_lt (fun x2_31 ex2_31 => ?_)
          exact mo_l_P_Writer_tell_47 hkm116 n wr_25 pb_28 w_29 x2_31
        · refine mle_gd ?_
          refine mle_bd (fun y9 hy9 => ?_)
          obtain ⟨pb_33, w_34⟩ := y9
          try dsimp only
          refine mle_le (mo_P_Writer_tellRuns _ hy9) ?_
          try dsimp only
          refine mle_lt (fun x2_36 ex2_36 => ?_)
          exact mo_l_P_Writer_tell_47 hkm116 n wr_25 pb_33 w_34 x2_36
      have hPc := hP.sub (ws' := (wWr cI cZ cJ wr_a (pb_a 0) wr ++ wPb cI cZ cJ pb_a w_a lk_v pb ++ wBr cI cZ cJ w_a w_b w ++ wSy cI cZ cJ sy_a sy)) [0, 1, 2, 3, 4, 5, 6, 7, 8, 9, 10, 11, 12, 13, 14, 15] rfl
      have hDc := hD.sub (ws' := (wWr cI cZ cJ wr_a (pb_a 0) wr ++ wPb cI cZ cJ pb_a w_a lk_v pb ++ wBr cI cZ cJ w_a w_b w ++ wSy cI cZ cJ sy_a sy)) [0, 1, 2, 3, 4, 5, 6, 7, 8, 9, 10, 11, 12, 13, 14, 15] (by decide) rfl
      have hFc := va_free (wc := (wWr cI cZ cJ wr_a (pb_a 0) wr ++ wPb cI cZ cJ pb_a w_a lk_v pb ++ wBr cI cZ cJ w_a w_b w ++ wSy cI cZ cJ sy_a sy)) hD hS hA [0, 1, 2, 3, 4, 5, 6, 7, 8, 9, 10, 11, 12, 13, 14, 15] rfl
      refine va_callv (va_runV (As := [.ref (sy_a 0), .int x2]) (rest := []) ⟨hx, hb, hml, hown, hts⟩ (k_P_Writer_tellSize l dC dI cI cZ cJ wr_a pb_a w_a w_b sy_a lk_v H.size hf1) (cwV 2 hts (gV t_381 t_383 t_5 t_60 t_384) rfl rfl rfl hd_Writer_tellSize ⟨Nat.le_trans (Nat.le_of_ble_eq_true rfl) hRf, Nat.le_trans (Nat.le_of_ble_eq_true rfl) hRl⟩) ⟨kP_blind, va_recv hK hP (ci := 4) (q0 := 0) rfl rfl, kP_at hPc hK hDc hN⟩ rfl rfl hl.1 rfl (lv_room (Nat.le_of_ble_eq_true rfl)) d_Writer_tell_58 (g_room hg hm0 hm hRc)) hS (fun q _ h => hFc q h) hFc (fun w_q_20 t H1 locs ht hvm hw hB hz1 hk1 hS => ?_)
      have hg := g_step (L0 := Br_byL w) (L1 := Br_byL w_19) hg hm0 hm hRc
      generalize cells + (Br_byL w_19 - Br_byL w) = cells at hg ⊢
      generalize slots + 2 * (Br_byL w_19 - Br_byL w) = slots at hg ⊢
      obtain ⟨hP, hD⟩ := kQ_join (wr := ([] : va_W)) (w1 := (wWr cI cZ cJ wr_a (pb_a 0) wr ++ wPb cI cZ cJ pb_a w_a lk_v pb_18 ++ wBr cI cZ cJ w_a w_q_20 w_19 ++ wSy cI cZ cJ sy_a sy)) hP hD [0, 1, 2, 3, 4, 5, 6, 7, 8, 9, 10, 11, 12, 13, 14, 15] [] rfl rfl (by decide) (by decide) ht hk1 hFc hB
      generalize H1 = H at hP hS ⊢
      have hP : va_P (dC, dI) vwCl (wWr cI cZ cJ wr_a (pb_a 0) wr ++ wPb cI cZ cJ pb_a w_a lk_v pb_18 ++ wBr cI cZ cJ w_a w_q_20 w_19 ++ wSy cI cZ cJ sy_a sy) H := hP.sub [0, 1, 2, 3, 4, 5, 6, 7, 8, 9, 10, 11, 12, 13, 14, 15] rfl
      have hD : va_D A (wWr cI cZ cJ wr_a (pb_a 0) wr ++ wPb cI cZ cJ pb_a w_a lk_v pb_18 ++ wBr cI cZ cJ w_a w_q_20 w_19 ++ wSy cI cZ cJ sy_a sy) := hD.sub [0, 1, 2, 3, 4, 5, 6, 7, 8, 9, 10, 11, 12, 13, 14, 15] (by decide) rfl
      refine lv_aload_n hx hb d_Writer_tell_61 rfl (lv_at hl 0 rfl) ?_
      refine lv_aload_n hx hb d_Writer_tell_62 rfl (lv_at hl 1 rfl) ?_
      refine lv_iload_n hx hb d_Writer_tell_63 rfl (lv_at hl 2 rfl) ?_
      obtain ⟨⟨pb_21, w_22⟩, hf1, hf⟩ := bd_ex hf
      try dsimp only at hf
      have hm0 := mo_P_Writer_tellBase _ hf1
      try dsimp only at hm0
      have hm : Br_byL w_22 ≤ (fun r : Wr × Pb × Br => Br_byL r.2.2) res := by
        refine mle_use (π := (fun r : Wr × Pb × Br => Br_byL r.2.2)) hf ?_
        refine mle_gd ?_
        refine mle_bd (fun y9 hy9 => ?_)
        obtain ⟨wr_25, rfl⟩ : ∃ z, z = y9 := ⟨_, rfl⟩
        try dsimp only
        refine mle_if (fun _ => ?_) (fun _ => ?_)
        · refine mle_gd ?_
          refine mle_bd (fun y9 hy9 => ?_)
          obtain ⟨pb_28, w_29⟩ := y9
          try dsimp only
          refine mle_le (mo_P_Writer_tellSamples _ hy9) ?_
          try dsimp only
          refine mle_lt (fun x2_31 ex2_31 => ?_)
          exact mo_l_P_Writer_tell_47 hkm116 n wr_25 pb_28 w_29 x2_31
        · refine mle_gd ?_
          refine mle_bd (fun y9 hy9 => ?_)
          obtain ⟨pb_33, w_34⟩ := y9
          try dsimp only
          refine mle_le (mo_P_Writer_tellRuns _ hy9) ?_
          try dsimp only
          refine mle_lt (fun x2_36 ex2_36 => ?_)
          exact mo_l_P_Writer_tell_47 hkm116 n wr_25 pb_33 w_34 x2_36
      have hPc := hP.sub (ws' := (wWr cI cZ cJ wr_a (pb_a 0) wr ++ wPb cI cZ cJ pb_a w_a lk_v pb_18 ++ wBr cI cZ cJ w_a w_q_20 w_19 ++ wSy cI cZ cJ sy_a sy)) [0, 1, 2, 3, 4, 5, 6, 7, 8, 9, 10, 11, 12, 13, 14, 15] rfl
      have hDc := hD.sub (ws' := (wWr cI cZ cJ wr_a (pb_a 0) wr ++ wPb cI cZ cJ pb_a w_a lk_v pb_18 ++ wBr cI cZ cJ w_a w_q_20 w_19 ++ wSy cI cZ cJ sy_a sy)) [0, 1, 2, 3, 4, 5, 6, 7, 8, 9, 10, 11, 12, 13, 14, 15] (by decide) rfl
      have hFc := va_free (wc := (wWr cI cZ cJ wr_a (pb_a 0) wr ++ wPb cI cZ cJ pb_a w_a lk_v pb_18 ++ wBr cI cZ cJ w_a w_q_20 w_19 ++ wSy cI cZ cJ sy_a sy)) hD hS hA [0, 1, 2, 3, 4, 5, 6, 7, 8, 9, 10, 11, 12, 13, 14, 15] rfl
      refine va_callv (va_runV (As := [.ref (sy_a 0), .int x2]) (rest := []) ⟨hx, hb, hml, hown, hts⟩ (k_P_Writer_tellBase l dC dI cI cZ cJ wr_a pb_a w_a w_q_20 sy_a lk_v H.size hf1) (cwV 2 hts (gV t_386 t_388 t_6 t_60 t_389) rfl rfl rfl hd_Writer_tellBase ⟨Nat.le_trans (Nat.le_of_ble_eq_true rfl) hRf, Nat.le_trans (Nat.le_of_ble_eq_true rfl) hRl⟩) ⟨kP_blind, va_recv hK hP (ci := 4) (q0 := 0) rfl rfl, kP_at hPc hK hDc hN⟩ rfl rfl hl.1 rfl (lv_room (Nat.le_of_ble_eq_true rfl)) d_Writer_tell_64 (g_room hg hm0 hm hRc)) hS (fun q _ h => hFc q h) hFc (fun w_q_23 t H1 locs ht hvm hw hB hz1 hk1 hS => ?_)
      have hg := g_step (L0 := Br_byL w_19) (L1 := Br_byL w_22) hg hm0 hm hRc
      generalize cells + (Br_byL w_22 - Br_byL w_19) = cells at hg ⊢
      generalize slots + 2 * (Br_byL w_22 - Br_byL w_19) = slots at hg ⊢
      obtain ⟨hP, hD⟩ := kQ_join (wr := ([] : va_W)) (w1 := (wWr cI cZ cJ wr_a (pb_a 0) wr ++ wPb cI cZ cJ pb_a w_a lk_v pb_21 ++ wBr cI cZ cJ w_a w_q_23 w_22 ++ wSy cI cZ cJ sy_a sy)) hP hD [0, 1, 2, 3, 4, 5, 6, 7, 8, 9, 10, 11, 12, 13, 14, 15] [] rfl rfl (by decide) (by decide) ht hk1 hFc hB
      generalize H1 = H at hP hS ⊢
      have hP : va_P (dC, dI) vwCl (wWr cI cZ cJ wr_a (pb_a 0) wr ++ wPb cI cZ cJ pb_a w_a lk_v pb_21 ++ wBr cI cZ cJ w_a w_q_23 w_22 ++ wSy cI cZ cJ sy_a sy) H := hP.sub [0, 1, 2, 3, 4, 5, 6, 7, 8, 9, 10, 11, 12, 13, 14, 15] rfl
      have hD : va_D A (wWr cI cZ cJ wr_a (pb_a 0) wr ++ wPb cI cZ cJ pb_a w_a lk_v pb_21 ++ wBr cI cZ cJ w_a w_q_23 w_22 ++ wSy cI cZ cJ sy_a sy) := hD.sub [0, 1, 2, 3, 4, 5, 6, 7, 8, 9, 10, 11, 12, 13, 14, 15] (by decide) rfl
      refine lv_aload_n hx hb d_Writer_tell_67 rfl (lv_at hl 0 rfl) ?_
      refine lv_aload_n hx hb d_Writer_tell_68 rfl (lv_at hl 1 rfl) ?_
      refine lv_aload_n hx hb d_Writer_tell_69 rfl (lv_at hl 0 rfl) ?_
      refine va_get (D := (dC, dI)) (ci := 4) (v := .ref (wr_a 1)) (C := R_Writer) (T := T_Writer) (N := 4) hx hb hts in_Writer hown hK hP 0 rfl rfl 2 (by decide) (hts _ t_166) (fun _ h9 => h9) rfl d_Writer_tell_70 ?_
      refine lv_iload_n hx hb d_Writer_tell_73 rfl (lv_at hl 2 rfl) ?_
      obtain ⟨h_24, hf⟩ := gd_ex hf
      refine va_iald (f := Wr_od wr) hx hb hK hP 1 0 rfl rfl (inb_in h_24) d_Writer_tell_74 ?_
      obtain ⟨wr_25, hf1, hf⟩ := bd_ex hf
      try dsimp only at hf
      have hPc := hP.sub (ws' := (wWr cI cZ cJ wr_a (pb_a 0) wr ++ wSy cI cZ cJ sy_a sy)) [0, 1, 2, 6, 7, 8, 9, 10, 11, 12, 13, 14, 15] rfl
      have hDc := hD.sub (ws' := (wWr cI cZ cJ wr_a (pb_a 0) wr ++ wSy cI cZ cJ sy_a sy)) [0, 1, 2, 6, 7, 8, 9, 10, 11, 12, 13, 14, 15] (by decide) rfl
      have hFc := va_free (wc := (wWr cI cZ cJ wr_a (pb_a 0) wr ++ wSy cI cZ cJ sy_a sy)) hD hS hA [0, 1, 2, 6, 7, 8, 9, 10, 11, 12, 13, 14, 15] rfl
      refine va_callv (va_runV (As := [.ref (sy_a 0), .int (Wr_od wr x2.toNatClampNeg)]) (rest := []) ⟨hx, hb, hml, hown, hts⟩ (k_P_Writer_layPlane l dC dI cI cZ cJ wr_a sy_a (pb_a 0) H.size hf1) (cwV 2 hts (gV t_391 t_393 t_7 t_60 t_394) rfl rfl rfl hd_Writer_layPlane ⟨Nat.le_trans (Nat.le_of_ble_eq_true rfl) hRf, Nat.le_trans (Nat.le_of_ble_eq_true rfl) hRl⟩) ⟨kP_blind, va_recv hK hP (ci := 4) (q0 := 0) rfl rfl, kP_at hPc hK hDc hN⟩ rfl rfl hl.1 rfl (lv_room (Nat.le_of_ble_eq_true rfl)) d_Writer_tell_75 hg.2.2.2) hS (fun q _ h => hFc q h) hFc (fun u t H1 locs ht hvm hw hB hz1 hk1 hS => ?_)
      obtain ⟨hP, hD⟩ := kQ_join (wr := (wPb cI cZ cJ pb_a w_a lk_v pb_21 ++ wBr cI cZ cJ w_a w_q_23 w_22)) (w1 := (wWr cI cZ cJ wr_a (pb_a 0) wr_25 ++ wSy cI cZ cJ sy_a sy)) hP hD [0, 1, 2, 6, 7, 8, 9, 10, 11, 12, 13, 14, 15] [3, 4, 5] rfl rfl (by decide) (by decide) ht hk1 hFc hB
      generalize H1 = H at hP hS ⊢
      have hP : va_P (dC, dI) vwCl (wWr cI cZ cJ wr_a (pb_a 0) wr_25 ++ wPb cI cZ cJ pb_a w_a lk_v pb_21 ++ wBr cI cZ cJ w_a w_q_23 w_22 ++ wSy cI cZ cJ sy_a sy) H := hP.sub [3, 4, 5, 0, 1, 2, 6, 7, 8, 9, 10, 11, 12, 13, 14, 15] rfl
      have hD : va_D A (wWr cI cZ cJ wr_a (pb_a 0) wr_25 ++ wPb cI cZ cJ pb_a w_a lk_v pb_21 ++ wBr cI cZ cJ w_a w_q_23 w_22 ++ wSy cI cZ cJ sy_a sy) := hD.sub [3, 4, 5, 0, 1, 2, 6, 7, 8, 9, 10, 11, 12, 13, 14, 15] (by decide) rfl
      refine lv_aload_n hx hb d_Writer_tell_78 rfl (lv_at hl 0 rfl) ?_
      refine va_get (D := (dC, dI)) (ci := 4) (v := .int (Wr_br wr_25)) (C := R_Writer) (T := T_Writer) (N := 4) hx hb hts in_Writer hown hK hP 0 rfl rfl 1 (by decide) (hts _ t_165) (fun _ h9 => h9) rfl d_Writer_tell_79 ?_
      refine lv_if_eq (tgt := 99) hx hb d_Writer_tell_82 (by decide) (fun c_26 => ?_) (fun c_26 => ?_)
      · rw [if_pos c_26] at hf
        refine lv_aload_n hx hb d_Writer_tell_99 rfl (lv_at hl 0 rfl) ?_
        refine lv_aload_n hx hb d_Writer_tell_100 rfl (lv_at hl 1 rfl) ?_
        refine lv_aload_n hx hb d_Writer_tell_101 rfl (lv_at hl 0 rfl) ?_
        refine va_get (D := (dC, dI)) (ci := 4) (v := .ref (wr_a 1)) (C := R_Writer) (T := T_Writer) (N := 4) hx hb hts in_Writer hown hK hP 0 rfl rfl 2 (by decide) (hts _ t_166) (fun _ h9 => h9) rfl d_Writer_tell_102 ?_
        refine lv_iload_n hx hb d_Writer_tell_105 rfl (lv_at hl 2 rfl) ?_
        obtain ⟨h_27, hf⟩ := gd_ex hf
        refine va_iald (f := Wr_od wr_25) hx hb hK hP 1 0 rfl rfl (inb_in h_27) d_Writer_tell_106 ?_
        obtain ⟨⟨pb_28, w_29⟩, hf1, hf⟩ := bd_ex hf
        try dsimp only at hf
        have hm0 := mo_P_Writer_tellSamples _ hf1
        try dsimp only at hm0
        have hm : Br_byL w_29 ≤ (fun r : Wr × Pb × Br => Br_byL r.2.2) res := by
          refine mle_use (π := (fun r : Wr × Pb × Br => Br_byL r.2.2)) hf ?_
          refine mle_lt (fun x2_31 ex2_31 => ?_)
          exact mo_l_P_Writer_tell_47 hkm116 n wr_25 pb_28 w_29 x2_31
        have hPc := hP.sub (ws' := (wWr cI cZ cJ wr_a (pb_a 0) wr_25 ++ wPb cI cZ cJ pb_a w_a lk_v pb_21 ++ wBr cI cZ cJ w_a w_q_23 w_22 ++ wSy cI cZ cJ sy_a sy)) [0, 1, 2, 3, 4, 5, 6, 7, 8, 9, 10, 11, 12, 13, 14, 15] rfl
        have hDc := hD.sub (ws' := (wWr cI cZ cJ wr_a (pb_a 0) wr_25 ++ wPb cI cZ cJ pb_a w_a lk_v pb_21 ++ wBr cI cZ cJ w_a w_q_23 w_22 ++ wSy cI cZ cJ sy_a sy)) [0, 1, 2, 3, 4, 5, 6, 7, 8, 9, 10, 11, 12, 13, 14, 15] (by decide) rfl
        have hFc := va_free (wc := (wWr cI cZ cJ wr_a (pb_a 0) wr_25 ++ wPb cI cZ cJ pb_a w_a lk_v pb_21 ++ wBr cI cZ cJ w_a w_q_23 w_22 ++ wSy cI cZ cJ sy_a sy)) hD hS hA [0, 1, 2, 3, 4, 5, 6, 7, 8, 9, 10, 11, 12, 13, 14, 15] rfl
        refine va_callv (va_runV (As := [.ref (sy_a 0), .int (Wr_od wr_25 x2.toNatClampNeg)]) (rest := []) ⟨hx, hb, hml, hown, hts⟩ (k_P_Writer_tellSamples l dC dI cI cZ cJ wr_a pb_a w_a w_q_23 sy_a lk_v H.size hf1) (cwV 2 hts (gV t_412 t_414 t_10 t_60 t_415) rfl rfl rfl hd_Writer_tellSamples ⟨Nat.le_trans (Nat.le_of_ble_eq_true rfl) hRf, Nat.le_trans (Nat.le_of_ble_eq_true rfl) hRl⟩) ⟨kP_blind, va_recv hK hP (ci := 4) (q0 := 0) rfl rfl, kP_at hPc hK hDc hN⟩ rfl rfl hl.1 rfl (lv_room (Nat.le_of_ble_eq_true rfl)) d_Writer_tell_107 (g_room hg hm0 hm hRc)) hS (fun q _ h => hFc q h) hFc (fun w_q_30 t H1 locs ht hvm hw hB hz1 hk1 hS => ?_)
        have hg := g_step (L0 := Br_byL w_22) (L1 := Br_byL w_29) hg hm0 hm hRc
        generalize cells + (Br_byL w_29 - Br_byL w_22) = cells at hg ⊢
        generalize slots + 2 * (Br_byL w_29 - Br_byL w_22) = slots at hg ⊢
        obtain ⟨hP, hD⟩ := kQ_join (wr := ([] : va_W)) (w1 := (wWr cI cZ cJ wr_a (pb_a 0) wr_25 ++ wPb cI cZ cJ pb_a w_a lk_v pb_28 ++ wBr cI cZ cJ w_a w_q_30 w_29 ++ wSy cI cZ cJ sy_a sy)) hP hD [0, 1, 2, 3, 4, 5, 6, 7, 8, 9, 10, 11, 12, 13, 14, 15] [] rfl rfl (by decide) (by decide) ht hk1 hFc hB
        generalize H1 = H at hP hS ⊢
        have hP : va_P (dC, dI) vwCl (wWr cI cZ cJ wr_a (pb_a 0) wr_25 ++ wPb cI cZ cJ pb_a w_a lk_v pb_28 ++ wBr cI cZ cJ w_a w_q_30 w_29 ++ wSy cI cZ cJ sy_a sy) H := hP.sub [0, 1, 2, 3, 4, 5, 6, 7, 8, 9, 10, 11, 12, 13, 14, 15] rfl
        have hD : va_D A (wWr cI cZ cJ wr_a (pb_a 0) wr_25 ++ wPb cI cZ cJ pb_a w_a lk_v pb_28 ++ wBr cI cZ cJ w_a w_q_30 w_29 ++ wSy cI cZ cJ sy_a sy) := hD.sub [0, 1, 2, 3, 4, 5, 6, 7, 8, 9, 10, 11, 12, 13, 14, 15] (by decide) rfl
        obtain ⟨x2_31, ex2_31, hf⟩ := lt_ex hf
        try dsimp only at hf
        refine lv_iinc (v := x2_31) (lv' := [(2, .int x2_31), (0, .ref (wr_a 0)), (1, .ref (sy_a 0))]) hx hb d_Writer_tell_110 hl (k := 2) rfl (by rw [ex2_31]; rfl) (by decide) rfl (fun ls hl => ?_)
        refine lv_goto (tgt := 47) hx hb d_Writer_tell_113 (by decide) ?_
        exact ih _ _ _ _ _ _ wr_25 pb_28 w_29 x2_31 hg hP hD hS (lv_sub hl [1, 2, 0] rfl) hf
      · rw [if_neg c_26] at hf
        refine lv_aload_n hx hb d_Writer_tell_85 rfl (lv_at hl 0 rfl) ?_
        refine lv_aload_n hx hb d_Writer_tell_86 rfl (lv_at hl 1 rfl) ?_
        refine lv_aload_n hx hb d_Writer_tell_87 rfl (lv_at hl 0 rfl) ?_
        refine va_get (D := (dC, dI)) (ci := 4) (v := .ref (wr_a 1)) (C := R_Writer) (T := T_Writer) (N := 4) hx hb hts in_Writer hown hK hP 0 rfl rfl 2 (by decide) (hts _ t_166) (fun _ h9 => h9) rfl d_Writer_tell_88 ?_
        refine lv_iload_n hx hb d_Writer_tell_91 rfl (lv_at hl 2 rfl) ?_
        obtain ⟨h_32, hf⟩ := gd_ex hf
        refine va_iald (f := Wr_od wr_25) hx hb hK hP 1 0 rfl rfl (inb_in h_32) d_Writer_tell_92 ?_
        obtain ⟨⟨pb_33, w_34⟩, hf1, hf⟩ := bd_ex hf
        try dsimp only at hf
        have hm0 := mo_P_Writer_tellRuns _ hf1
        try dsimp only at hm0
        have hm : Br_byL w_34 ≤ (fun r : Wr × Pb × Br => Br_byL r.2.2) res := by
          refine mle_use (π := (fun r : Wr × Pb × Br => Br_byL r.2.2)) hf ?_
          refine mle_lt (fun x2_36 ex2_36 => ?_)
          exact mo_l_P_Writer_tell_47 hkm116 n wr_25 pb_33 w_34 x2_36
        have hPc := hP.sub (ws' := (wWr cI cZ cJ wr_a (pb_a 0) wr_25 ++ wPb cI cZ cJ pb_a w_a lk_v pb_21 ++ wBr cI cZ cJ w_a w_q_23 w_22 ++ wSy cI cZ cJ sy_a sy)) [0, 1, 2, 3, 4, 5, 6, 7, 8, 9, 10, 11, 12, 13, 14, 15] rfl
        have hDc := hD.sub (ws' := (wWr cI cZ cJ wr_a (pb_a 0) wr_25 ++ wPb cI cZ cJ pb_a w_a lk_v pb_21 ++ wBr cI cZ cJ w_a w_q_23 w_22 ++ wSy cI cZ cJ sy_a sy)) [0, 1, 2, 3, 4, 5, 6, 7, 8, 9, 10, 11, 12, 13, 14, 15] (by decide) rfl
        have hFc := va_free (wc := (wWr cI cZ cJ wr_a (pb_a 0) wr_25 ++ wPb cI cZ cJ pb_a w_a lk_v pb_21 ++ wBr cI cZ cJ w_a w_q_23 w_22 ++ wSy cI cZ cJ sy_a sy)) hD hS hA [0, 1, 2, 3, 4, 5, 6, 7, 8, 9, 10, 11, 12, 13, 14, 15] rfl
        refine va_callv (va_runV (As := [.ref (sy_a 0), .int (Wr_od wr_25 x2.toNatClampNeg)]) (rest := []) ⟨hx, hb, hml, hown, hts⟩ (k_P_Writer_tellRuns l dC dI cI cZ cJ wr_a pb_a w_a w_q_23 sy_a lk_v H.size hf1) (cwV 2 hts (gV t_408 t_410 t_9 t_60 t_411) rfl rfl rfl hd_Writer_tellRuns ⟨Nat.le_trans (Nat.le_of_ble_eq_true rfl) hRf, Nat.le_trans (Nat.le_of_ble_eq_true rfl) hRl⟩) ⟨kP_blind, va_recv hK hP (ci := 4) (q0 := 0) rfl rfl, kP_at hPc hK hDc hN⟩ rfl rfl hl.1 rfl (lv_room (Nat.le_of_ble_eq_true rfl)) d_Writer_tell_93 (g_room hg hm0 hm hRc)) hS (fun q _ h => hFc q h) hFc (fun w_q_35 t H1 locs ht hvm hw hB hz1 hk1 hS => ?_)
        have hg := g_step (L0 := Br_byL w_22) (L1 := Br_byL w_34) hg hm0 hm hRc
        generalize cells + (Br_byL w_34 - Br_byL w_22) = cells at hg ⊢
        generalize slots + 2 * (Br_byL w_34 - Br_byL w_22) = slots at hg ⊢
        obtain ⟨hP, hD⟩ := kQ_join (wr := ([] : va_W)) (w1 := (wWr cI cZ cJ wr_a (pb_a 0) wr_25 ++ wPb cI cZ cJ pb_a w_a lk_v pb_33 ++ wBr cI cZ cJ w_a w_q_35 w_34 ++ wSy cI cZ cJ sy_a sy)) hP hD [0, 1, 2, 3, 4, 5, 6, 7, 8, 9, 10, 11, 12, 13, 14, 15] [] rfl rfl (by decide) (by decide) ht hk1 hFc hB
        generalize H1 = H at hP hS ⊢
        have hP : va_P (dC, dI) vwCl (wWr cI cZ cJ wr_a (pb_a 0) wr_25 ++ wPb cI cZ cJ pb_a w_a lk_v pb_33 ++ wBr cI cZ cJ w_a w_q_35 w_34 ++ wSy cI cZ cJ sy_a sy) H := hP.sub [0, 1, 2, 3, 4, 5, 6, 7, 8, 9, 10, 11, 12, 13, 14, 15] rfl
        have hD : va_D A (wWr cI cZ cJ wr_a (pb_a 0) wr_25 ++ wPb cI cZ cJ pb_a w_a lk_v pb_33 ++ wBr cI cZ cJ w_a w_q_35 w_34 ++ wSy cI cZ cJ sy_a sy) := hD.sub [0, 1, 2, 3, 4, 5, 6, 7, 8, 9, 10, 11, 12, 13, 14, 15] (by decide) rfl
        refine lv_goto (tgt := 110) hx hb d_Writer_tell_96 (by decide) ?_
        obtain ⟨x2_36, ex2_36, hf⟩ := lt_ex hf
        try dsimp only at hf
        refine lv_iinc (v := x2_36) (lv' := [(2, .int x2_36), (0, .ref (wr_a 0)), (1, .ref (sy_a 0))]) hx hb d_Writer_tell_110 hl (k := 2) rfl (by rw [ex2_36]; rfl) (by decide) rfl (fun ls hl => ?_)
        refine lv_goto (tgt := 47) hx hb d_Writer_tell_113 (by decide) ?_
        exact ih _ _ _ _ _ _ wr_25 pb_33 w_34 x2_36 hg hP hD hS (lv_sub hl [1, 2, 0] rfl) hf
set_option maxHeartbeats 4000000 in
set_option maxRecDepth 100000 in
theorem B_P_Writer_tell {cells slots : Nat} {l0 : Nat} {dC : Nat → ClassId} {dI : Nat → Nat → Nat} {cI cZ cJ : ClassId} {wr_a : Nat → Nat} {pb_a : Nat → Nat} {w_a : Nat} {sy_a : Nat → Nat} {lk_v : Nat} {w_b : Nat} {wr : Wr} {pb : Pb} {w : Br} {sy : Sy} {res : Wr × Pb × Br} (C0 : cxt p c m s args R 0 0 R_Writer c_Writer_tell tb 3 (dC, dI) vwCl (TYS cI cZ cJ) A 7 201) (hRc : gR l0 ((fun r : Wr × Pb × Br => Br_byL r.2.2) res) R)
    (hr144 : ∀ (H : Heap) (locs : List Loc) (ls : Array Slot) (cells slots : Nat) (w_b : Nat) (wr' : Wr) (pb' : Pb) (w' : Br), gok R l0 (Br_byL w') cells slots → va_P (dC, dI) vwCl (wWr cI cZ cJ wr_a (pb_a 0) wr' ++ wPb cI cZ cJ pb_a w_a lk_v pb' ++ wBr cI cZ cJ w_a w_b w' ++ wSy cI cZ cJ sy_a sy) H → va_D A (wWr cI cZ cJ wr_a (pb_a 0) wr' ++ wPb cI cZ cJ pb_a w_a lk_v pb' ++ wBr cI cZ cJ w_a w_b w' ++ wSy cI cZ cJ sy_a sy) → va_S A s.heap H locs → some (wr', pb', w') = some res → W p l e R s m args below meth c H locs cells slots Q (F0 m 144 ls []))
    {H : Heap} {locs : List Loc} {ls : Array Slot} (hg : gok R l0 (Br_byL w) cells slots) (hP : va_P (dC, dI) vwCl (wWr cI cZ cJ wr_a (pb_a 0) wr ++ wPb cI cZ cJ pb_a w_a lk_v pb ++ wBr cI cZ cJ w_a w_b w ++ wSy cI cZ cJ sy_a sy) H) (hD : va_D A (wWr cI cZ cJ wr_a (pb_a 0) wr ++ wPb cI cZ cJ pb_a w_a lk_v pb ++ wBr cI cZ cJ w_a w_b w ++ wSy cI cZ cJ sy_a sy)) (hS : va_S A s.heap H locs) (hl : lv_has ls 3 [(0, .ref (wr_a 0)), (1, .ref (sy_a 0))]) (hf : f_P_Writer_tell wr pb w sy = some res) : W p l e R s m args below meth c H locs cells slots Q (F0 m 0 ls []) := by
  obtain ⟨hx, hb, hml, hown, hts, hK, hA, hRf, hRl, hN, _⟩ := id C0
  rw [f_P_Writer_tell] at hf
  refine lv_iconst (v := 0) hx hb d_Writer_tell_0 (by decide) ?_
  refine lv_istore_n (lv' := [(2, .int 0), (0, .ref (wr_a 0)), (1, .ref (sy_a 0))]) hx hb d_Writer_tell_1 rfl hl (by decide) rfl (fun ls hl => ?_)
  refine L_P_Writer_tell_2 C0 hRc (fun H locs ls cells slots w_b wr_8 hg hP hD hS hl hf => ?_) (fun wr_8 => ?_) 100000 _ _ _ _ _ _ wr 0 hg hP hD hS (lv_sub hl [1, 2, 0] rfl) hf
  · try dsimp only at hf
    refine lv_aload_n hx hb d_Writer_tell_27 rfl (lv_at hl 0 rfl) ?_
    refine va_get (D := (dC, dI)) (ci := 4) (v := .ref (pb_a 0)) (C := R_Writer) (T := T_Writer) (N := 4) hx hb hts in_Writer hown hK hP 0 rfl rfl 0 (by decide) (hts _ t_164) (fun _ h9 => h9) rfl d_Writer_tell_28 ?_
    obtain ⟨⟨pb_9, w_10⟩, hf1, hf⟩ := bd_ex hf
    try dsimp only at hf
    have hPc := hP.sub (ws' := (wPb cI cZ cJ pb_a w_a lk_v pb ++ wBr cI cZ cJ w_a w_b w)) [3, 4, 5] rfl
    have hDc := hD.sub (ws' := (wPb cI cZ cJ pb_a w_a lk_v pb ++ wBr cI cZ cJ w_a w_b w)) [3, 4, 5] (by decide) rfl
    have hFc := va_free (wc := (wPb cI cZ cJ pb_a w_a lk_v pb ++ wBr cI cZ cJ w_a w_b w)) hD hS hA [3, 4, 5] rfl
    refine va_callv (va_runU (As := []) (rest := []) ⟨hx, hb, hml, hown, hts⟩ (k_P_PlainBits_startWriting l dC dI cI cZ cJ pb_a w_a w_b lk_v H.size hf1) (va_cwA 0 hts (gU t_296 t_298 t_315 t_316 t_59 t_317) rfl rfl rfl (hN.2 _ (by decide +kernel)) hdx_Bits_startWriting ⟨Nat.le_trans (Nat.le_of_ble_eq_true rfl) hRf, Nat.le_trans (Nat.le_of_ble_eq_true rfl) hRl⟩) ⟨kP_blind, va_recv hK hP (ci := 2) (q0 := 3) rfl rfl, kP_at hPc hK hDc hN⟩ rfl rfl hl.1 rfl (lv_room (Nat.le_of_ble_eq_true rfl)) d_Writer_tell_31 hg.2.2.2) hS (fun q _ h => hFc q h) hFc (fun u t H1 locs ht hvm hw hB hz1 hk1 hS => ?_)
    have hg : gok R l0 (Br_byL w_10) cells slots := by have h9 := eq_P_PlainBits_startWriting hf1; (try dsimp only at h9); rw [h9]; exact hg
    obtain ⟨hP, hD⟩ := kQ_join (wr := (wWr cI cZ cJ wr_a (pb_a 0) wr_8 ++ wSy cI cZ cJ sy_a sy)) (w1 := (wPb cI cZ cJ pb_a w_a lk_v pb_9 ++ wBr cI cZ cJ w_a w_b w_10)) hP hD [3, 4, 5] [0, 1, 2, 6, 7, 8, 9, 10, 11, 12, 13, 14, 15] rfl rfl (by decide) (by decide) ht hk1 hFc hB
    generalize H1 = H at hP hS ⊢
    have hP : va_P (dC, dI) vwCl (wWr cI cZ cJ wr_a (pb_a 0) wr_8 ++ wPb cI cZ cJ pb_a w_a lk_v pb_9 ++ wBr cI cZ cJ w_a w_b w_10 ++ wSy cI cZ cJ sy_a sy) H := hP.sub [0, 1, 2, 13, 14, 15, 3, 4, 5, 6, 7, 8, 9, 10, 11, 12] rfl
    have hD : va_D A (wWr cI cZ cJ wr_a (pb_a 0) wr_8 ++ wPb cI cZ cJ pb_a w_a lk_v pb_9 ++ wBr cI cZ cJ w_a w_b w_10 ++ wSy cI cZ cJ sy_a sy) := hD.sub [0, 1, 2, 13, 14, 15, 3, 4, 5, 6, 7, 8, 9, 10, 11, 12] (by decide) rfl
    refine lv_aload_n hx hb d_Writer_tell_34 rfl (lv_at hl 0 rfl) ?_
    refine va_get (D := (dC, dI)) (ci := 4) (v := .ref (pb_a 0)) (C := R_Writer) (T := T_Writer) (N := 4) hx hb hts in_Writer hown hK hP 0 rfl rfl 0 (by decide) (hts _ t_164) (fun _ h9 => h9) rfl d_Writer_tell_35 ?_
    refine lv_aload_n hx hb d_Writer_tell_38 rfl (lv_at hl 1 rfl) ?_
    refine va_get (D := (dC, dI)) (ci := 0) (v := .int (Sy_n sy)) (C := R_Symbols) (T := T_Symbols) (N := 10) hx hb hts in_Symbols hown hK hP 6 rfl rfl 7 (by decide) (hts _ t_231) (fun _ h9 => h9) rfl d_Writer_tell_39 ?_
    obtain ⟨⟨pb_11, w_12⟩, hf1, hf⟩ := bd_ex hf
    try dsimp only at hf
    have hm0 := mo_P_Bits_putNumber _ hf1
    try dsimp only at hm0
    have hm : Br_byL w_12 ≤ (fun r : Wr × Pb × Br => Br_byL r.2.2) res := by
      refine mle_use (π := (fun r : Wr × Pb × Br => Br_byL r.2.2)) hf ?_
      refine mo_l_P_Writer_tell_47 (fun wr_37 pb_38 w_39 => ?_) 100000 wr_8 pb_11 w_12 0
      try dsimp only
      refine mle_if (fun _ => ?_) (fun _ => ?_)
      · exact mo_j_P_Writer_tell_132_42 sy wr_37 pb_38 w_39
      · refine mle_bd (fun y9 hy9 => ?_)
        obtain ⟨pb_49, w_50⟩ := y9
        try dsimp only
        refine mle_le (mo_P_PlainBits_putBit _ hy9) ?_
        try dsimp only
        exact mo_j_P_Writer_tell_132_42 sy wr_37 pb_49 w_50
    have hPc := hP.sub (ws' := (wPb cI cZ cJ pb_a w_a lk_v pb_9 ++ wBr cI cZ cJ w_a w_b w_10)) [3, 4, 5] rfl
    have hDc := hD.sub (ws' := (wPb cI cZ cJ pb_a w_a lk_v pb_9 ++ wBr cI cZ cJ w_a w_b w_10)) [3, 4, 5] (by decide) rfl
    have hFc := va_free (wc := (wPb cI cZ cJ pb_a w_a lk_v pb_9 ++ wBr cI cZ cJ w_a w_b w_10)) hD hS hA [3, 4, 5] rfl
    refine va_callv (va_runU (As := [.int (Sy_n sy)]) (rest := []) ⟨hx, hb, hml, hown, hts⟩ (k_P_Bits_putNumber l dC dI cI cZ cJ pb_a w_a w_b lk_v H.size hf1) (va_cwU 1 hts (gU t_319 t_321 t_323 t_320 t_57 t_324) rfl rfl rfl rfl hd_Bits_putNumber.2 ⟨Nat.le_trans (Nat.le_of_ble_eq_true rfl) hRf, Nat.le_trans (Nat.le_of_ble_eq_true rfl) hRl⟩) ⟨kP_blind, va_recv hK hP (ci := 2) (q0 := 3) rfl rfl, kP_at hPc hK hDc hN⟩ rfl rfl hl.1 rfl (lv_room (Nat.le_of_ble_eq_true rfl)) d_Writer_tell_42 (g_room hg hm0 hm hRc)) hS (fun q _ h => hFc q h) hFc (fun w_q_13 t H1 locs ht hvm hw hB hz1 hk1 hS => ?_)
    have hg := g_step (L0 := Br_byL w_10) (L1 := Br_byL w_12) hg hm0 hm hRc
    generalize cells + (Br_byL w_12 - Br_byL w_10) = cells at hg ⊢
    generalize slots + 2 * (Br_byL w_12 - Br_byL w_10) = slots at hg ⊢
    obtain ⟨hP, hD⟩ := kQ_join (wr := (wWr cI cZ cJ wr_a (pb_a 0) wr_8 ++ wSy cI cZ cJ sy_a sy)) (w1 := (wPb cI cZ cJ pb_a w_a lk_v pb_11 ++ wBr cI cZ cJ w_a w_q_13 w_12)) hP hD [3, 4, 5] [0, 1, 2, 6, 7, 8, 9, 10, 11, 12, 13, 14, 15] rfl rfl (by decide) (by decide) ht hk1 hFc hB
    generalize H1 = H at hP hS ⊢
    have hP : va_P (dC, dI) vwCl (wWr cI cZ cJ wr_a (pb_a 0) wr_8 ++ wPb cI cZ cJ pb_a w_a lk_v pb_11 ++ wBr cI cZ cJ w_a w_q_13 w_12 ++ wSy cI cZ cJ sy_a sy) H := hP.sub [0, 1, 2, 13, 14, 15, 3, 4, 5, 6, 7, 8, 9, 10, 11, 12] rfl
    have hD : va_D A (wWr cI cZ cJ wr_a (pb_a 0) wr_8 ++ wPb cI cZ cJ pb_a w_a lk_v pb_11 ++ wBr cI cZ cJ w_a w_q_13 w_12 ++ wSy cI cZ cJ sy_a sy) := hD.sub [0, 1, 2, 13, 14, 15, 3, 4, 5, 6, 7, 8, 9, 10, 11, 12] (by decide) rfl
    refine lv_iconst (v := 0) hx hb d_Writer_tell_45 (by decide) ?_
    refine lv_istore_n (lv' := [(2, .int 0), (0, .ref (wr_a 0)), (1, .ref (sy_a 0))]) hx hb d_Writer_tell_46 rfl hl (by decide) rfl (fun ls hl => ?_)
    refine L_P_Writer_tell_47 C0 hRc (fun H locs ls cells slots w_b wr_37 pb_38 w_39 hg hP hD hS hl hf => ?_) (fun wr_37 pb_38 w_39 => ?_) 100000 _ _ _ _ _ _ wr_8 pb_11 w_12 0 hg hP hD hS (lv_sub hl [1, 2, 0] rfl) hf
    · try dsimp only at hf
      refine lv_aload_n hx hb d_Writer_tell_116 rfl (lv_at hl 1 rfl) ?_
      refine va_get (D := (dC, dI)) (ci := 0) (v := .int (Sy_n sy)) (C := R_Symbols) (T := T_Symbols) (N := 10) hx hb hts in_Symbols hown hK hP 6 rfl rfl 7 (by decide) (hts _ t_231) (fun _ h9 => h9) rfl d_Writer_tell_117 ?_
      have J132_41 : ∀ (H : Heap) (locs : List Loc) (ls : Array Slot) (cells slots : Nat) (w_b : Nat) (pb_40 : Pb) (w_41 : Br), gok R l0 (Br_byL w_41) cells slots → va_P (dC, dI) vwCl (wWr cI cZ cJ wr_a (pb_a 0) wr_37 ++ wPb cI cZ cJ pb_a w_a lk_v pb_40 ++ wBr cI cZ cJ w_a w_b w_41 ++ wSy cI cZ cJ sy_a sy) H → va_D A (wWr cI cZ cJ wr_a (pb_a 0) wr_37 ++ wPb cI cZ cJ pb_a w_a lk_v pb_40 ++ wBr cI cZ cJ w_a w_b w_41 ++ wSy cI cZ cJ sy_a sy) → va_S A s.heap H locs → lv_has ls 3 [(0, .ref (wr_a 0)), (1, .ref (sy_a 0))] → j_P_Writer_tell_132_42 sy wr_37 pb_40 w_41 = some res → W p l e R s m args below meth c H locs cells slots Q (F0 m 132 ls []) := by
        intro H locs ls cells slots w_b pb_40 w_41 hg hP hD hS hl hf
        rw [j_P_Writer_tell_132_42] at hf
        refine lv_aload_n hx hb d_Writer_tell_132 rfl (lv_at hl 0 rfl) ?_
        refine lv_aload_n hx hb d_Writer_tell_133 rfl (lv_at hl 1 rfl) ?_
        obtain ⟨⟨pb_43, w_44⟩, hf1, hf⟩ := bd_ex hf
        try dsimp only at hf
        have hm0 := mo_P_Writer_tellExports _ hf1
        try dsimp only at hm0
        have hm : Br_byL w_44 ≤ (fun r : Wr × Pb × Br => Br_byL r.2.2) res := by
          refine mle_use (π := (fun r : Wr × Pb × Br => Br_byL r.2.2)) hf ?_
          refine mle_bd (fun y9 hy9 => ?_)
          obtain ⟨w_46, rfl⟩ : ∃ z, z = y9 := ⟨_, rfl⟩
          try dsimp only
          refine mle_le (mo_P_PlainBits_finishWriting _ hy9) ?_
          try dsimp only
          exact mle_some (Nat.le_refl _)
        have hPc := hP.sub (ws' := (wWr cI cZ cJ wr_a (pb_a 0) wr_37 ++ wPb cI cZ cJ pb_a w_a lk_v pb_40 ++ wBr cI cZ cJ w_a w_b w_41 ++ wSy cI cZ cJ sy_a sy)) [0, 1, 2, 3, 4, 5, 6, 7, 8, 9, 10, 11, 12, 13, 14, 15] rfl
        have hDc := hD.sub (ws' := (wWr cI cZ cJ wr_a (pb_a 0) wr_37 ++ wPb cI cZ cJ pb_a w_a lk_v pb_40 ++ wBr cI cZ cJ w_a w_b w_41 ++ wSy cI cZ cJ sy_a sy)) [0, 1, 2, 3, 4, 5, 6, 7, 8, 9, 10, 11, 12, 13, 14, 15] (by decide) rfl
        have hFc := va_free (wc := (wWr cI cZ cJ wr_a (pb_a 0) wr_37 ++ wPb cI cZ cJ pb_a w_a lk_v pb_40 ++ wBr cI cZ cJ w_a w_b w_41 ++ wSy cI cZ cJ sy_a sy)) hD hS hA [0, 1, 2, 3, 4, 5, 6, 7, 8, 9, 10, 11, 12, 13, 14, 15] rfl
        refine va_callv (va_runV (As := [.ref (sy_a 0)]) (rest := []) ⟨hx, hb, hml, hown, hts⟩ (k_P_Writer_tellExports l dC dI cI cZ cJ wr_a pb_a w_a w_b sy_a lk_v H.size hf1) (cwV 1 hts (gV t_419 t_421 t_11 t_60 t_422) rfl rfl rfl hd_Writer_tellExports ⟨Nat.le_trans (Nat.le_of_ble_eq_true rfl) hRf, Nat.le_trans (Nat.le_of_ble_eq_true rfl) hRl⟩) ⟨kP_blind, va_recv hK hP (ci := 4) (q0 := 0) rfl rfl, kP_at hPc hK hDc hN⟩ rfl rfl hl.1 rfl (lv_room (Nat.le_of_ble_eq_true rfl)) d_Writer_tell_134 (g_room hg hm0 hm hRc)) hS (fun q _ h => hFc q h) hFc (fun w_q_45 t H1 locs ht hvm hw hB hz1 hk1 hS => ?_)
        have hg := g_step (L0 := Br_byL w_41) (L1 := Br_byL w_44) hg hm0 hm hRc
        generalize cells + (Br_byL w_44 - Br_byL w_41) = cells at hg ⊢
        generalize slots + 2 * (Br_byL w_44 - Br_byL w_41) = slots at hg ⊢
        obtain ⟨hP, hD⟩ := kQ_join (wr := ([] : va_W)) (w1 := (wWr cI cZ cJ wr_a (pb_a 0) wr_37 ++ wPb cI cZ cJ pb_a w_a lk_v pb_43 ++ wBr cI cZ cJ w_a w_q_45 w_44 ++ wSy cI cZ cJ sy_a sy)) hP hD [0, 1, 2, 3, 4, 5, 6, 7, 8, 9, 10, 11, 12, 13, 14, 15] [] rfl rfl (by decide) (by decide) ht hk1 hFc hB
        generalize H1 = H at hP hS ⊢
        have hP : va_P (dC, dI) vwCl (wWr cI cZ cJ wr_a (pb_a 0) wr_37 ++ wPb cI cZ cJ pb_a w_a lk_v pb_43 ++ wBr cI cZ cJ w_a w_q_45 w_44 ++ wSy cI cZ cJ sy_a sy) H := hP.sub [0, 1, 2, 3, 4, 5, 6, 7, 8, 9, 10, 11, 12, 13, 14, 15] rfl
        have hD : va_D A (wWr cI cZ cJ wr_a (pb_a 0) wr_37 ++ wPb cI cZ cJ pb_a w_a lk_v pb_43 ++ wBr cI cZ cJ w_a w_q_45 w_44 ++ wSy cI cZ cJ sy_a sy) := hD.sub [0, 1, 2, 3, 4, 5, 6, 7, 8, 9, 10, 11, 12, 13, 14, 15] (by decide) rfl
        refine lv_aload_n hx hb d_Writer_tell_137 rfl (lv_at hl 0 rfl) ?_
        refine va_get (D := (dC, dI)) (ci := 4) (v := .ref (pb_a 0)) (C := R_Writer) (T := T_Writer) (N := 4) hx hb hts in_Writer hown hK hP 0 rfl rfl 0 (by decide) (hts _ t_164) (fun _ h9 => h9) rfl d_Writer_tell_138 ?_
        obtain ⟨w_46, hf1, hf⟩ := bd_ex hf
        try dsimp only at hf
        have hm0 := mo_P_PlainBits_finishWriting _ hf1
        try dsimp only at hm0
        have hm : Br_byL w_46 ≤ (fun r : Wr × Pb × Br => Br_byL r.2.2) res := by
          refine mle_use (π := (fun r : Wr × Pb × Br => Br_byL r.2.2)) hf ?_
          exact mle_some (Nat.le_refl _)
        have hPc := hP.sub (ws' := (wPb cI cZ cJ pb_a w_a lk_v pb_43 ++ wBr cI cZ cJ w_a w_q_45 w_44)) [3, 4, 5] rfl
        have hDc := hD.sub (ws' := (wPb cI cZ cJ pb_a w_a lk_v pb_43 ++ wBr cI cZ cJ w_a w_q_45 w_44)) [3, 4, 5] (by decide) rfl
        have hFc := va_free (wc := (wPb cI cZ cJ pb_a w_a lk_v pb_43 ++ wBr cI cZ cJ w_a w_q_45 w_44)) hD hS hA [3, 4, 5] rfl
        refine va_callv (va_runU (As := []) (rest := []) ⟨hx, hb, hml, hown, hts⟩ (k_P_PlainBits_finishWriting l dC dI cI cZ cJ pb_a w_a w_q_45 lk_v H.size hf1) (va_cwA 0 hts (gU t_423 t_425 t_430 t_431 t_59 t_432) rfl rfl rfl (hN.2 _ (by decide +kernel)) hdx_Bits_finishWriting ⟨Nat.le_trans (Nat.le_of_ble_eq_true rfl) hRf, Nat.le_trans (Nat.le_of_ble_eq_true rfl) hRl⟩) ⟨kP_blind, va_recv hK hP (ci := 2) (q0 := 3) rfl rfl, kP_at hPc hK hDc hN⟩ rfl rfl hl.1 rfl (lv_room (Nat.le_of_ble_eq_true rfl)) d_Writer_tell_141 (g_room hg hm0 hm hRc)) hS (fun q _ h => hFc q h) hFc (fun w_q_47 t H1 locs ht hvm hw hB hz1 hk1 hS => ?_)
        have hg := g_step (L0 := Br_byL w_44) (L1 := Br_byL w_46) hg hm0 hm hRc
        generalize cells + (Br_byL w_46 - Br_byL w_44) = cells at hg ⊢
        generalize slots + 2 * (Br_byL w_46 - Br_byL w_44) = slots at hg ⊢
        obtain ⟨hP, hD⟩ := kQ_join (wr := (wWr cI cZ cJ wr_a (pb_a 0) wr_37 ++ wSy cI cZ cJ sy_a sy)) (w1 := (wPb cI cZ cJ pb_a w_a lk_v pb_43 ++ wBr cI cZ cJ w_a w_q_47 w_46)) hP hD [3, 4, 5] [0, 1, 2, 6, 7, 8, 9, 10, 11, 12, 13, 14, 15] rfl rfl (by decide) (by decide) ht hk1 hFc hB
        generalize H1 = H at hP hS ⊢
        have hP : va_P (dC, dI) vwCl (wWr cI cZ cJ wr_a (pb_a 0) wr_37 ++ wPb cI cZ cJ pb_a w_a lk_v pb_43 ++ wBr cI cZ cJ w_a w_q_47 w_46 ++ wSy cI cZ cJ sy_a sy) H := hP.sub [0, 1, 2, 13, 14, 15, 3, 4, 5, 6, 7, 8, 9, 10, 11, 12] rfl
        have hD : va_D A (wWr cI cZ cJ wr_a (pb_a 0) wr_37 ++ wPb cI cZ cJ pb_a w_a lk_v pb_43 ++ wBr cI cZ cJ w_a w_q_47 w_46 ++ wSy cI cZ cJ sy_a sy) := hD.sub [0, 1, 2, 13, 14, 15, 3, 4, 5, 6, 7, 8, 9, 10, 11, 12] (by decide) rfl
        exact hr144 _ _ _ _ _ _ wr_37 pb_43 w_46 hg hP hD hS hf
      refine lv_if_le (tgt := 132) hx hb d_Writer_tell_120 (by decide) (fun c_48 => ?_) (fun c_48 => ?_)
      · rw [if_pos c_48] at hf
        exact J132_41 _ _ _ _ _ _ pb_38 w_39 hg hP hD hS (lv_sub hl [0, 1] rfl) hf
      · rw [if_neg c_48] at hf
        refine lv_aload_n hx hb d_Writer_tell_123 rfl (lv_at hl 0 rfl) ?_
        refine va_get (D := (dC, dI)) (ci := 4) (v := .ref (pb_a 0)) (C := R_Writer) (T := T_Writer) (N := 4) hx hb hts in_Writer hown hK hP 0 rfl rfl 0 (by decide) (hts _ t_164) (fun _ h9 => h9) rfl d_Writer_tell_124 ?_
        refine lv_iconst (v := 0) hx hb d_Writer_tell_127 (by decide) ?_
        refine lv_iconst (v := (-1)) hx hb d_Writer_tell_128 (by decide) ?_
        obtain ⟨⟨pb_49, w_50⟩, hf1, hf⟩ := bd_ex hf
        try dsimp only at hf
        have hm0 := mo_P_PlainBits_putBit _ hf1
        try dsimp only at hm0
        have hm : Br_byL w_50 ≤ (fun r : Wr × Pb × Br => Br_byL r.2.2) res := by
          refine mle_use (π := (fun r : Wr × Pb × Br => Br_byL r.2.2)) hf ?_
          exact mo_j_P_Writer_tell_132_42 sy wr_37 pb_49 w_50
        have hPc := hP.sub (ws' := (wPb cI cZ cJ pb_a w_a lk_v pb_38 ++ wBr cI cZ cJ w_a w_b w_39)) [3, 4, 5] rfl
        have hDc := hD.sub (ws' := (wPb cI cZ cJ pb_a w_a lk_v pb_38 ++ wBr cI cZ cJ w_a w_b w_39)) [3, 4, 5] (by decide) rfl
        have hFc := va_free (wc := (wPb cI cZ cJ pb_a w_a lk_v pb_38 ++ wBr cI cZ cJ w_a w_b w_39)) hD hS hA [3, 4, 5] rfl
        refine va_callv (va_runU (As := [.int 0, .int (-1)]) (rest := []) ⟨hx, hb, hml, hown, hts⟩ (k_P_PlainBits_putBit l dC dI cI cZ cJ pb_a w_a w_b lk_v H.size hf1) (va_cwA 2 hts (gU t_385 t_333 t_377 t_378 t_59 t_379) rfl rfl rfl (hN.2 _ (by decide +kernel)) hdx_Bits_putBit ⟨Nat.le_trans (Nat.le_of_ble_eq_true rfl) hRf, Nat.le_trans (Nat.le_of_ble_eq_true rfl) hRl⟩) ⟨kP_blind, va_recv hK hP (ci := 2) (q0 := 3) rfl rfl, kP_at hPc hK hDc hN⟩ rfl rfl hl.1 rfl (lv_room (Nat.le_of_ble_eq_true rfl)) d_Writer_tell_129 (g_room hg hm0 hm hRc)) hS (fun q _ h => hFc q h) hFc (fun w_q_51 t H1 locs ht hvm hw hB hz1 hk1 hS => ?_)
        have hg := g_step (L0 := Br_byL w_39) (L1 := Br_byL w_50) hg hm0 hm hRc
        generalize cells + (Br_byL w_50 - Br_byL w_39) = cells at hg ⊢
        generalize slots + 2 * (Br_byL w_50 - Br_byL w_39) = slots at hg ⊢
        obtain ⟨hP, hD⟩ := kQ_join (wr := (wWr cI cZ cJ wr_a (pb_a 0) wr_37 ++ wSy cI cZ cJ sy_a sy)) (w1 := (wPb cI cZ cJ pb_a w_a lk_v pb_49 ++ wBr cI cZ cJ w_a w_q_51 w_50)) hP hD [3, 4, 5] [0, 1, 2, 6, 7, 8, 9, 10, 11, 12, 13, 14, 15] rfl rfl (by decide) (by decide) ht hk1 hFc hB
        generalize H1 = H at hP hS ⊢
        have hP : va_P (dC, dI) vwCl (wWr cI cZ cJ wr_a (pb_a 0) wr_37 ++ wPb cI cZ cJ pb_a w_a lk_v pb_49 ++ wBr cI cZ cJ w_a w_q_51 w_50 ++ wSy cI cZ cJ sy_a sy) H := hP.sub [0, 1, 2, 13, 14, 15, 3, 4, 5, 6, 7, 8, 9, 10, 11, 12] rfl
        have hD : va_D A (wWr cI cZ cJ wr_a (pb_a 0) wr_37 ++ wPb cI cZ cJ pb_a w_a lk_v pb_49 ++ wBr cI cZ cJ w_a w_q_51 w_50 ++ wSy cI cZ cJ sy_a sy) := hD.sub [0, 1, 2, 13, 14, 15, 3, 4, 5, 6, 7, 8, 9, 10, 11, 12] (by decide) rfl
        exact J132_41 _ _ _ _ _ _ pb_49 w_50 hg hP hD hS (lv_sub hl [0, 1] rfl) hf
    · try dsimp only
      refine mle_if (fun _ => ?_) (fun _ => ?_)
      · exact mo_j_P_Writer_tell_132_42 sy wr_37 pb_38 w_39
      · refine mle_bd (fun y9 hy9 => ?_)
        obtain ⟨pb_49, w_50⟩ := y9
        try dsimp only
        refine mle_le (mo_P_PlainBits_putBit _ hy9) ?_
        try dsimp only
        exact mo_j_P_Writer_tell_132_42 sy wr_37 pb_49 w_50
  · try dsimp only
    refine mle_bd (fun y9 hy9 => ?_)
    obtain ⟨pb_9, w_10⟩ := y9
    try dsimp only
    refine mle_le (mo_P_PlainBits_startWriting _ hy9) ?_
    try dsimp only
    refine mle_bd (fun y9 hy9 => ?_)
    obtain ⟨pb_11, w_12⟩ := y9
    try dsimp only
    refine mle_le (mo_P_Bits_putNumber _ hy9) ?_
    try dsimp only
    refine mo_l_P_Writer_tell_47 (fun wr_37 pb_38 w_39 => ?_) 100000 wr_8 pb_11 w_12 0
    try dsimp only
    refine mle_if (fun _ => ?_) (fun _ => ?_)
    · exact mo_j_P_Writer_tell_132_42 sy wr_37 pb_38 w_39
    · refine mle_bd (fun y9 hy9 => ?_)
      obtain ⟨pb_49, w_50⟩ := y9
      try dsimp only
      refine mle_le (mo_P_PlainBits_putBit _ hy9) ?_
      try dsimp only
      exact mo_j_P_Writer_tell_132_42 sy wr_37 pb_49 w_50
end
set_option maxHeartbeats 4000000 in
set_option maxRecDepth 100000 in
theorem k_P_Writer_tell (l : Launch) (dC : Nat → ClassId) (dI : Nat → Nat → Nat) (cI cZ cJ : ClassId) (wr_a : Nat → Nat) (pb_a : Nat → Nat) (w_a w_b : Nat) (sy_a : Nat → Nat) (lk_v : Nat) (sz : Nat) {wr : Wr} {pb : Pb} {w : Br} {sy : Sy} {wr' : Wr} {pb' : Pb} {w' : Br} (hf : f_P_Writer_tell wr pb w sy = some (wr', pb', w')) :
    Met l y_Writer_tell ws_Writer_tell ({ frames := 7, cells := (Br_byL w' - Br_byL w), slots := (2 * (Br_byL w' - Br_byL w)), locals := 201 }) (va_Pc [.ref (wr_a 0), .ref (sy_a 0)] (kP (dC, dI) vwCl (TYS cI cZ cJ) (wWr cI cZ cJ wr_a (pb_a 0) wr ++ wPb cI cZ cJ pb_a w_a lk_v pb ++ wBr cI cZ cJ w_a w_b w ++ wSy cI cZ cJ sy_a sy) sz)) (va_Qv (fun (_ : Nat) => True) (fun q9 t => kQ (dC, dI) vwCl (TYS cI cZ cJ) (wWr cI cZ cJ wr_a (pb_a 0) wr ++ wPb cI cZ cJ pb_a w_a lk_v pb ++ wBr cI cZ cJ w_a w_b w ++ wSy cI cZ cJ sy_a sy) sz (wWr cI cZ cJ wr_a (pb_a 0) wr' ++ wPb cI cZ cJ pb_a w_a lk_v pb' ++ wBr cI cZ cJ w_a q9 w' ++ wSy cI cZ cJ sy_a sy) t) (va_A (wWr cI cZ cJ wr_a (pb_a 0) wr ++ wPb cI cZ cJ pb_a w_a lk_v pb ++ wBr cI cZ cJ w_a w_b w ++ wSy cI cZ cJ sy_a sy) sz)) (Br_byL w' - Br_byL w) (2 * (Br_byL w' - Br_byL w)) (va_A (wWr cI cZ cJ wr_a (pb_a 0) wr ++ wPb cI cZ cJ pb_a w_a lk_v pb ++ wBr cI cZ cJ w_a w_b w ++ wSy cI cZ cJ sy_a sy) sz) := by
  refine Met.ofW (cc := c_Writer_tell) (maxL := 3) (ret := none) (by decide) rfl ?_
  intro p e s m args below meth c s₁ B hml hv
  obtain ⟨rfl, hsz, hP, hK, hD0, hN⟩ := hv
  have hr := B.returns
  have hlocks := B.notSynchronized
  subst hsz
  have hD := hD0.self (sz := s.heap.size)
  have hl := lv_entry ([.ref (wr_a 0), .ref (sy_a 0)]) (n := 3) (Nat.le_of_ble_eq_true rfl)
  rw [lg_entry_eq]
  generalize (lg_sl ([.ref (wr_a 0), .ref (sy_a 0)]) ++ List.replicate (3 - (lg_sl ([.ref (wr_a 0), .ref (sy_a 0)])).length) Slot.unset).toArray = ls at hl ⊢
  refine B_P_Writer_tell (A := va_A (wWr cI cZ cJ wr_a (pb_a 0) wr ++ wPb cI cZ cJ pb_a w_a lk_v pb ++ wBr cI cZ cJ w_a w_b w ++ wSy cI cZ cJ sy_a sy) s.heap.size) ⟨B.exec, B.bytes, hml, findClass_of_methodNamed B.named, fun w h => atoms_spec (ws := ws_Writer_tell) B.pre w (List.mem_cons_of_mem _ h), hK, fun q h => Or.inr h, Nat.le_of_ble_eq_true rfl, Nat.le_of_ble_eq_true rfl, hN, Nat.zero_le _, Nat.zero_le _⟩ ⟨Nat.le_refl _, Nat.le_refl _⟩ (fun H locs ls cells slots q9 wr'1 pb'1 w'1 hg hP hD hS hf => ?_) ⟨Nat.le_refl _, Nat.zero_le _, Nat.zero_le _, Nat.zero_le _, Nat.zero_le _⟩ hP hD va_S.rf hl hf
  · cases hf
    refine W.widen (k := (Br_byL w' - Br_byL w)) (n := (2 * (Br_byL w' - Br_byL w))) hg.2.1 hg.2.2.1 ?_
    exact W.vret B.exec B.bytes hr (fun t ht hW => ⟨⟨q9, rfl, trivial, ⟨by rw [ht]; exact hP, va_K.moved hW.alike hK, hD⟩⟩, hS.F ht⟩) hS.2.2 d_Writer_tell_144

