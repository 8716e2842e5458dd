theorem t_824 : (.fieldLink R_Model 60 "SymbolDictionariesModel" "code" "I" : Cond) ∈ tb := List.mem_filter.mpr ⟨List.mem_of_getElem? (i := 824) (by decide +kernel), by decide +kernel⟩
theorem t_826 : (.fieldLink R_Model 63 "SymbolDictionariesModel" "n" "I" : Cond) ∈ tb := List.mem_filter.mpr ⟨List.mem_of_getElem? (i := 826) (by decide +kernel), by decide +kernel⟩
theorem t_914 : (.methodLink R_Model 66 y_Model_refuses : Cond) ∈ tb := List.mem_filter.mpr ⟨List.mem_of_getElem? (i := 914) (by decide +kernel), by decide +kernel⟩
theorem t_916 : (.instanceMethod y_Model_refuses : Cond) ∈ tb := List.mem_filter.mpr ⟨List.mem_of_getElem? (i := 916) (by decide +kernel), by decide +kernel⟩
theorem t_23 : (.selects R_Model y_Model_refuses y_Model_refuses : Cond) ∈ tb := List.mem_filter.mpr ⟨List.mem_of_getElem? (i := 23) (by decide +kernel), by decide +kernel⟩
theorem t_63 : (.initialized R_Model : Cond) ∈ tb := List.mem_filter.mpr ⟨List.mem_of_getElem? (i := 63) (by decide +kernel), by decide +kernel⟩
theorem t_917 : (.code y_Model_refuses c_Model_refuses 2 (some .boolean) : Cond) ∈ tb := List.mem_filter.mpr ⟨List.mem_of_getElem? (i := 917) (by decide +kernel), by decide +kernel⟩
theorem t_827 : (.fieldLink R_Model 7 "SymbolDictionariesModel" "widths" "[I" : Cond) ∈ tb := List.mem_filter.mpr ⟨List.mem_of_getElem? (i := 827) (by decide +kernel), by decide +kernel⟩
theorem t_828 : (.fieldLink R_Model 13 "SymbolDictionariesModel" "heights" "[I" : Cond) ∈ tb := List.mem_filter.mpr ⟨List.mem_of_getElem? (i := 828) (by decide +kernel), by decide +kernel⟩
theorem t_829 : (.fieldLink R_Model 16 "SymbolDictionariesModel" "rows" "[I" : Cond) ∈ tb := List.mem_filter.mpr ⟨List.mem_of_getElem? (i := 829) (by decide +kernel), by decide +kernel⟩
theorem t_830 : (.fieldLink R_Model 19 "SymbolDictionariesModel" "exported" "[Z" : Cond) ∈ tb := List.mem_filter.mpr ⟨List.mem_of_getElem? (i := 830) (by decide +kernel), by decide +kernel⟩
theorem t_831 : (.fieldLink R_Model 23 "SymbolDictionariesModel" "bases" "[I" : Cond) ∈ tb := List.mem_filter.mpr ⟨List.mem_of_getElem? (i := 831) (by decide +kernel), by decide +kernel⟩
theorem t_832 : (.fieldLink R_Model 26 "SymbolDictionariesModel" "rights" "[I" : Cond) ∈ tb := List.mem_filter.mpr ⟨List.mem_of_getElem? (i := 832) (by decide +kernel), by decide +kernel⟩
theorem t_833 : (.fieldLink R_Model 29 "SymbolDictionariesModel" "downs" "[I" : Cond) ∈ tb := List.mem_filter.mpr ⟨List.mem_of_getElem? (i := 833) (by decide +kernel), by decide +kernel⟩
theorem t_926 : (.methodLink R_Model 70 y_Model_isSymbol : Cond) ∈ tb := List.mem_filter.mpr ⟨List.mem_of_getElem? (i := 926) (by decide +kernel), by decide +kernel⟩
theorem t_928 : (.instanceMethod y_Model_isSymbol : Cond) ∈ tb := List.mem_filter.mpr ⟨List.mem_of_getElem? (i := 928) (by decide +kernel), by decide +kernel⟩
theorem t_25 : (.selects R_Model y_Model_isSymbol y_Model_isSymbol : Cond) ∈ tb := List.mem_filter.mpr ⟨List.mem_of_getElem? (i := 25) (by decide +kernel), by decide +kernel⟩
theorem t_929 : (.code y_Model_isSymbol c_Model_isSymbol 2 (some .boolean) : Cond) ∈ tb := List.mem_filter.mpr ⟨List.mem_of_getElem? (i := 929) (by decide +kernel), by decide +kernel⟩
theorem t_922 : (.methodLink R_Model 73 y_Model_isSample : Cond) ∈ tb := List.mem_filter.mpr ⟨List.mem_of_getElem? (i := 922) (by decide +kernel), by decide +kernel⟩
theorem t_924 : (.instanceMethod y_Model_isSample : Cond) ∈ tb := List.mem_filter.mpr ⟨List.mem_of_getElem? (i := 924) (by decide +kernel), by decide +kernel⟩
theorem t_24 : (.selects R_Model y_Model_isSample y_Model_isSample : Cond) ∈ tb := List.mem_filter.mpr ⟨List.mem_of_getElem? (i := 24) (by decide +kernel), by decide +kernel⟩
theorem t_925 : (.code y_Model_isSample c_Model_isSample 4 (some .boolean) : Cond) ∈ tb := List.mem_filter.mpr ⟨List.mem_of_getElem? (i := 925) (by decide +kernel), by decide +kernel⟩
theorem t_930 : (.methodLink R_Model 77 y_Model_sample : Cond) ∈ tb := List.mem_filter.mpr ⟨List.mem_of_getElem? (i := 930) (by decide +kernel), by decide +kernel⟩
theorem t_932 : (.instanceMethod y_Model_sample : Cond) ∈ tb := List.mem_filter.mpr ⟨List.mem_of_getElem? (i := 932) (by decide +kernel), by decide +kernel⟩
theorem t_26 : (.selects R_Model y_Model_sample y_Model_sample : Cond) ∈ tb := List.mem_filter.mpr ⟨List.mem_of_getElem? (i := 26) (by decide +kernel), by decide +kernel⟩
theorem t_933 : (.code y_Model_sample c_Model_sample 5 (some .int) : Cond) ∈ tb := List.mem_filter.mpr ⟨List.mem_of_getElem? (i := 933) (by decide +kernel), by decide +kernel⟩
theorem t_938 : (.methodLink R_Model 81 y_Model_ones : Cond) ∈ tb := List.mem_filter.mpr ⟨List.mem_of_getElem? (i := 938) (by decide +kernel), by decide +kernel⟩
theorem t_939 : (.static y_Model_ones : Cond) ∈ tb := List.mem_filter.mpr ⟨List.mem_of_getElem? (i := 939) (by decide +kernel), by decide +kernel⟩
theorem t_940 : (.code y_Model_ones c_Model_ones 3 (some .int) : Cond) ∈ tb := List.mem_filter.mpr ⟨List.mem_of_getElem? (i := 940) (by decide +kernel), by decide +kernel⟩
theorem t_952 : (.methodLink R_Model 88 y_Model_isBefore : Cond) ∈ tb := List.mem_filter.mpr ⟨List.mem_of_getElem? (i := 952) (by decide +kernel), by decide +kernel⟩
theorem t_954 : (.instanceMethod y_Model_isBefore : Cond) ∈ tb := List.mem_filter.mpr ⟨List.mem_of_getElem? (i := 954) (by decide +kernel), by decide +kernel⟩
theorem t_27 : (.selects R_Model y_Model_isBefore y_Model_isBefore : Cond) ∈ tb := List.mem_filter.mpr ⟨List.mem_of_getElem? (i := 27) (by decide +kernel), by decide +kernel⟩
theorem t_955 : (.code y_Model_isBefore c_Model_isBefore 3 (some .boolean) : Cond) ∈ tb := List.mem_filter.mpr ⟨List.mem_of_getElem? (i := 955) (by decide +kernel), by decide +kernel⟩
theorem t_949 : (.methodLink R_Model 85 y_Model_isShift : Cond) ∈ tb := List.mem_filter.mpr ⟨List.mem_of_getElem? (i := 949) (by decide +kernel), by decide +kernel⟩
theorem t_950 : (.static y_Model_isShift : Cond) ∈ tb := List.mem_filter.mpr ⟨List.mem_of_getElem? (i := 950) (by decide +kernel), by decide +kernel⟩
theorem t_951 : (.code y_Model_isShift c_Model_isShift 1 (some .boolean) : Cond) ∈ tb := List.mem_filter.mpr ⟨List.mem_of_getElem? (i := 951) (by decide +kernel), by decide +kernel⟩
abbrev ws_Model_thrown : List Cond := .code y_Model_thrown c_Model_thrown 1 (some .int) :: tb
theorem hd_Model_thrown : y_Model_thrown.cls = R_Model ∧ y_Model_thrown.cls ≠ "java/lang/invoke/MethodHandle" ∧ y_Model_thrown.cls ≠ "java/lang/invoke/VarHandle" ∧ (parseMethodDescriptor y_Model_thrown.desc).map (fun d => d.parameters.length) = some 0 := by decide +kernel
theorem d_Model_thrown_0 : decode c_Model_thrown 0 = .ok (.aload_n 0, 1) := by decide +kernel
theorem d_Model_thrown_1 : decode c_Model_thrown 1 = .ok (.getfield 60, 3) := by decide +kernel
theorem d_Model_thrown_4 : decode c_Model_thrown 4 = .ok (.ireturn, 1) := by decide +kernel
abbrev ws_Model_refuses : List Cond := .code y_Model_refuses c_Model_refuses 2 (some .boolean) :: tb
theorem hd_Model_refuses : y_Model_refuses.cls = R_Model ∧ y_Model_refuses.cls ≠ "java/lang/invoke/MethodHandle" ∧ y_Model_refuses.cls ≠ "java/lang/invoke/VarHandle" ∧ (parseMethodDescriptor y_Model_refuses.desc).map (fun d => d.parameters.length) = some 1 := by decide +kernel
theorem d_Model_refuses_0 : decode c_Model_refuses 0 = .ok (.aload_n 0, 1) := by decide +kernel
theorem d_Model_refuses_1 : decode c_Model_refuses 1 = .ok (.iload_n 1, 1) := by decide +kernel
theorem d_Model_refuses_2 : decode c_Model_refuses 2 = .ok (.putfield 60, 3) := by decide +kernel
theorem d_Model_refuses_5 : decode c_Model_refuses 5 = .ok (.iload_n 1, 1) := by decide +kernel
theorem d_Model_refuses_6 : decode c_Model_refuses 6 = .ok (.ifCond .le 7, 3) := by decide +kernel
theorem d_Model_refuses_9 : decode c_Model_refuses 9 = .ok (.iconst 1, 1) := by decide +kernel
theorem d_Model_refuses_10 : decode c_Model_refuses 10 = .ok (.goto 4, 3) := by decide +kernel
theorem d_Model_refuses_13 : decode c_Model_refuses 13 = .ok (.iconst 0, 1) := by decide +kernel
theorem d_Model_refuses_14 : decode c_Model_refuses 14 = .ok (.ireturn, 1) := by decide +kernel
abbrev ws_Model_isSymbol : List Cond := .code y_Model_isSymbol c_Model_isSymbol 2 (some .boolean) :: tb
theorem hd_Model_isSymbol : y_Model_isSymbol.cls = R_Model ∧ y_Model_isSymbol.cls ≠ "java/lang/invoke/MethodHandle" ∧ y_Model_isSymbol.cls ≠ "java/lang/invoke/VarHandle" ∧ (parseMethodDescriptor y_Model_isSymbol.desc).map (fun d => d.parameters.length) = some 1 := by decide +kernel
theorem d_Model_isSymbol_0 : decode c_Model_isSymbol 0 = .ok (.iload_n 1, 1) := by decide +kernel
theorem d_Model_isSymbol_1 : decode c_Model_isSymbol 1 = .ok (.ifCond .lt 15, 3) := by decide +kernel
theorem d_Model_isSymbol_4 : decode c_Model_isSymbol 4 = .ok (.iload_n 1, 1) := by decide +kernel
theorem d_Model_isSymbol_5 : decode c_Model_isSymbol 5 = .ok (.aload_n 0, 1) := by decide +kernel
theorem d_Model_isSymbol_6 : decode c_Model_isSymbol 6 = .ok (.getfield 63, 3) := by decide +kernel
theorem d_Model_isSymbol_9 : decode c_Model_isSymbol 9 = .ok (.if_icmp .ge 7, 3) := by decide +kernel
theorem d_Model_isSymbol_12 : decode c_Model_isSymbol 12 = .ok (.iconst 1, 1) := by decide +kernel
theorem d_Model_isSymbol_13 : decode c_Model_isSymbol 13 = .ok (.goto 4, 3) := by decide +kernel
theorem d_Model_isSymbol_16 : decode c_Model_isSymbol 16 = .ok (.iconst 0, 1) := by decide +kernel
theorem d_Model_isSymbol_17 : decode c_Model_isSymbol 17 = .ok (.ireturn, 1) := by decide +kernel
abbrev ws_Model_symbol : List Cond := .code y_Model_symbol c_Model_symbol 5 (some .int) :: tb
theorem hd_Model_symbol : y_Model_symbol.cls = R_Model ∧ y_Model_symbol.cls ≠ "java/lang/invoke/MethodHandle" ∧ y_Model_symbol.cls ≠ "java/lang/invoke/VarHandle" ∧ (parseMethodDescriptor y_Model_symbol.desc).map (fun d => d.parameters.length) = some 2 := by decide +kernel
theorem d_Model_symbol_0 : decode c_Model_symbol 0 = .ok (.iload_n 1, 1) := by decide +kernel
theorem d_Model_symbol_1 : decode c_Model_symbol 1 = .ok (.ifCond .le 23, 3) := by decide +kernel
theorem d_Model_symbol_4 : decode c_Model_symbol 4 = .ok (.iload_n 1, 1) := by decide +kernel
theorem d_Model_symbol_5 : decode c_Model_symbol 5 = .ok (.bipush 16, 2) := by decide +kernel
theorem d_Model_symbol_7 : decode c_Model_symbol 7 = .ok (.if_icmp .gt 17, 3) := by decide +kernel
theorem d_Model_symbol_10 : decode c_Model_symbol 10 = .ok (.iload_n 2, 1) := by decide +kernel
theorem d_Model_symbol_11 : decode c_Model_symbol 11 = .ok (.ifCond .le 13, 3) := by decide +kernel
theorem d_Model_symbol_14 : decode c_Model_symbol 14 = .ok (.iload_n 2, 1) := by decide +kernel
theorem d_Model_symbol_15 : decode c_Model_symbol 15 = .ok (.bipush 16, 2) := by decide +kernel
theorem d_Model_symbol_17 : decode c_Model_symbol 17 = .ok (.if_icmp .gt 7, 3) := by decide +kernel
theorem d_Model_symbol_20 : decode c_Model_symbol 20 = .ok (.iconst 1, 1) := by decide +kernel
theorem d_Model_symbol_21 : decode c_Model_symbol 21 = .ok (.goto 4, 3) := by decide +kernel
theorem d_Model_symbol_24 : decode c_Model_symbol 24 = .ok (.iconst 0, 1) := by decide +kernel
theorem d_Model_symbol_25 : decode c_Model_symbol 25 = .ok (.istore_n 3, 1) := by decide +kernel
theorem d_Model_symbol_26 : decode c_Model_symbol 26 = .ok (.aload_n 0, 1) := by decide +kernel
theorem d_Model_symbol_27 : decode c_Model_symbol 27 = .ok (.iload_n 3, 1) := by decide +kernel
theorem d_Model_symbol_28 : decode c_Model_symbol 28 = .ok (.ifCond .ne 7, 3) := by decide +kernel
theorem d_Model_symbol_31 : decode c_Model_symbol 31 = .ok (.iconst 1, 1) := by decide +kernel
theorem d_Model_symbol_32 : decode c_Model_symbol 32 = .ok (.goto 17, 3) := by decide +kernel
theorem d_Model_symbol_35 : decode c_Model_symbol 35 = .ok (.aload_n 0, 1) := by decide +kernel
theorem d_Model_symbol_36 : decode c_Model_symbol 36 = .ok (.getfield 63, 3) := by decide +kernel
theorem d_Model_symbol_39 : decode c_Model_symbol 39 = .ok (.bipush 40, 2) := by decide +kernel
theorem d_Model_symbol_41 : decode c_Model_symbol 41 = .ok (.if_icmp .ne 7, 3) := by decide +kernel
theorem d_Model_symbol_44 : decode c_Model_symbol 44 = .ok (.iconst 2, 1) := by decide +kernel
theorem d_Model_symbol_45 : decode c_Model_symbol 45 = .ok (.goto 4, 3) := by decide +kernel
theorem d_Model_symbol_48 : decode c_Model_symbol 48 = .ok (.iconst 0, 1) := by decide +kernel
theorem d_Model_symbol_49 : decode c_Model_symbol 49 = .ok (.invokevirtual 66, 3) := by decide +kernel
theorem d_Model_symbol_52 : decode c_Model_symbol 52 = .ok (.ifCond .eq 5, 3) := by decide +kernel
theorem d_Model_symbol_55 : decode c_Model_symbol 55 = .ok (.iconst 0, 1) := by decide +kernel
theorem d_Model_symbol_56 : decode c_Model_symbol 56 = .ok (.ireturn, 1) := by decide +kernel
theorem d_Model_symbol_57 : decode c_Model_symbol 57 = .ok (.aload_n 0, 1) := by decide +kernel
theorem d_Model_symbol_58 : decode c_Model_symbol 58 = .ok (.getfield 7, 3) := by decide +kernel
theorem d_Model_symbol_61 : decode c_Model_symbol 61 = .ok (.aload_n 0, 1) := by decide +kernel
theorem d_Model_symbol_62 : decode c_Model_symbol 62 = .ok (.getfield 63, 3) := by decide +kernel
theorem d_Model_symbol_65 : decode c_Model_symbol 65 = .ok (.iload_n 1, 1) := by decide +kernel
theorem d_Model_symbol_66 : decode c_Model_symbol 66 = .ok (.iastore, 1) := by decide +kernel
theorem d_Model_symbol_67 : decode c_Model_symbol 67 = .ok (.aload_n 0, 1) := by decide +kernel
theorem d_Model_symbol_68 : decode c_Model_symbol 68 = .ok (.getfield 13, 3) := by decide +kernel
theorem d_Model_symbol_71 : decode c_Model_symbol 71 = .ok (.aload_n 0, 1) := by decide +kernel
theorem d_Model_symbol_72 : decode c_Model_symbol 72 = .ok (.getfield 63, 3) := by decide +kernel
theorem d_Model_symbol_75 : decode c_Model_symbol 75 = .ok (.iload_n 2, 1) := by decide +kernel
theorem d_Model_symbol_76 : decode c_Model_symbol 76 = .ok (.iastore, 1) := by decide +kernel
theorem d_Model_symbol_77 : decode c_Model_symbol 77 = .ok (.iconst 0, 1) := by decide +kernel
theorem d_Model_symbol_78 : decode c_Model_symbol 78 = .ok (.istore 4, 2) := by decide +kernel
theorem d_Model_symbol_80 : decode c_Model_symbol 80 = .ok (.iload 4, 2) := by decide +kernel
theorem d_Model_symbol_82 : decode c_Model_symbol 82 = .ok (.bipush 16, 2) := by decide +kernel
theorem d_Model_symbol_84 : decode c_Model_symbol 84 = .ok (.if_icmp .ge 25, 3) := by decide +kernel
theorem d_Model_symbol_87 : decode c_Model_symbol 87 = .ok (.aload_n 0, 1) := by decide +kernel
theorem d_Model_symbol_88 : decode c_Model_symbol 88 = .ok (.getfield 16, 3) := by decide +kernel
theorem d_Model_symbol_91 : decode c_Model_symbol 91 = .ok (.bipush 16, 2) := by decide +kernel
theorem d_Model_symbol_93 : decode c_Model_symbol 93 = .ok (.aload_n 0, 1) := by decide +kernel
theorem d_Model_symbol_94 : decode c_Model_symbol 94 = .ok (.getfield 63, 3) := by decide +kernel
theorem d_Model_symbol_97 : decode c_Model_symbol 97 = .ok (.imul, 1) := by decide +kernel
theorem d_Model_symbol_98 : decode c_Model_symbol 98 = .ok (.iload 4, 2) := by decide +kernel
theorem d_Model_symbol_100 : decode c_Model_symbol 100 = .ok (.iadd, 1) := by decide +kernel
theorem d_Model_symbol_101 : decode c_Model_symbol 101 = .ok (.iconst 0, 1) := by decide +kernel
theorem d_Model_symbol_102 : decode c_Model_symbol 102 = .ok (.iastore, 1) := by decide +kernel
theorem d_Model_symbol_103 : decode c_Model_symbol 103 = .ok (.iinc 4 1, 3) := by decide +kernel
theorem d_Model_symbol_106 : decode c_Model_symbol 106 = .ok (.goto (-26), 3) := by decide +kernel
theorem d_Model_symbol_109 : decode c_Model_symbol 109 = .ok (.aload_n 0, 1) := by decide +kernel
theorem d_Model_symbol_110 : decode c_Model_symbol 110 = .ok (.getfield 19, 3) := by decide +kernel
theorem d_Model_symbol_113 : decode c_Model_symbol 113 = .ok (.aload_n 0, 1) := by decide +kernel
theorem d_Model_symbol_114 : decode c_Model_symbol 114 = .ok (.getfield 63, 3) := by decide +kernel
theorem d_Model_symbol_117 : decode c_Model_symbol 117 = .ok (.iconst 0, 1) := by decide +kernel
theorem d_Model_symbol_118 : decode c_Model_symbol 118 = .ok (.bastore, 1) := by decide +kernel
theorem d_Model_symbol_119 : decode c_Model_symbol 119 = .ok (.aload_n 0, 1) := by decide +kernel
theorem d_Model_symbol_120 : decode c_Model_symbol 120 = .ok (.getfield 23, 3) := by decide +kernel
theorem d_Model_symbol_123 : decode c_Model_symbol 123 = .ok (.aload_n 0, 1) := by decide +kernel
theorem d_Model_symbol_124 : decode c_Model_symbol 124 = .ok (.getfield 63, 3) := by decide +kernel
theorem d_Model_symbol_127 : decode c_Model_symbol 127 = .ok (.iconst (-1), 1) := by decide +kernel
theorem d_Model_symbol_128 : decode c_Model_symbol 128 = .ok (.iastore, 1) := by decide +kernel
theorem d_Model_symbol_129 : decode c_Model_symbol 129 = .ok (.aload_n 0, 1) := by decide +kernel
theorem d_Model_symbol_130 : decode c_Model_symbol 130 = .ok (.getfield 26, 3) := by decide +kernel
theorem d_Model_symbol_133 : decode c_Model_symbol 133 = .ok (.aload_n 0, 1) := by decide +kernel
theorem d_Model_symbol_134 : decode c_Model_symbol 134 = .ok (.getfield 63, 3) := by decide +kernel
theorem d_Model_symbol_137 : decode c_Model_symbol 137 = .ok (.iconst 0, 1) := by decide +kernel
theorem d_Model_symbol_138 : decode c_Model_symbol 138 = .ok (.iastore, 1) := by decide +kernel
theorem d_Model_symbol_139 : decode c_Model_symbol 139 = .ok (.aload_n 0, 1) := by decide +kernel
theorem d_Model_symbol_140 : decode c_Model_symbol 140 = .ok (.getfield 29, 3) := by decide +kernel
theorem d_Model_symbol_143 : decode c_Model_symbol 143 = .ok (.aload_n 0, 1) := by decide +kernel
theorem d_Model_symbol_144 : decode c_Model_symbol 144 = .ok (.getfield 63, 3) := by decide +kernel
theorem d_Model_symbol_147 : decode c_Model_symbol 147 = .ok (.iconst 0, 1) := by decide +kernel
theorem d_Model_symbol_148 : decode c_Model_symbol 148 = .ok (.iastore, 1) := by decide +kernel
theorem d_Model_symbol_149 : decode c_Model_symbol 149 = .ok (.aload_n 0, 1) := by decide +kernel
theorem d_Model_symbol_150 : decode c_Model_symbol 150 = .ok (.dup, 1) := by decide +kernel
theorem d_Model_symbol_151 : decode c_Model_symbol 151 = .ok (.getfield 63, 3) := by decide +kernel
theorem d_Model_symbol_154 : decode c_Model_symbol 154 = .ok (.iconst 1, 1) := by decide +kernel
theorem d_Model_symbol_155 : decode c_Model_symbol 155 = .ok (.iadd, 1) := by decide +kernel
theorem d_Model_symbol_156 : decode c_Model_symbol 156 = .ok (.putfield 63, 3) := by decide +kernel
theorem d_Model_symbol_159 : decode c_Model_symbol 159 = .ok (.aload_n 0, 1) := by decide +kernel
theorem d_Model_symbol_160 : decode c_Model_symbol 160 = .ok (.getfield 63, 3) := by decide +kernel
theorem d_Model_symbol_163 : decode c_Model_symbol 163 = .ok (.iconst 1, 1) := by decide +kernel
theorem d_Model_symbol_164 : decode c_Model_symbol 164 = .ok (.isub, 1) := by decide +kernel
theorem d_Model_symbol_165 : decode c_Model_symbol 165 = .ok (.ireturn, 1) := by decide +kernel
abbrev ws_Model_isSample : List Cond := .code y_Model_isSample c_Model_isSample 4 (some .boolean) :: tb
theorem hd_Model_isSample : y_Model_isSample.cls = R_Model ∧ y_Model_isSample.cls ≠ "java/lang/invoke/MethodHandle" ∧ y_Model_isSample.cls ≠ "java/lang/invoke/VarHandle" ∧ (parseMethodDescriptor y_Model_isSample.desc).map (fun d => d.parameters.length) = some 3 := by decide +kernel
theorem d_Model_isSample_0 : decode c_Model_isSample 0 = .ok (.aload_n 0, 1) := by decide +kernel
theorem d_Model_isSample_1 : decode c_Model_isSample 1 = .ok (.iload_n 1, 1) := by decide +kernel
theorem d_Model_isSample_2 : decode c_Model_isSample 2 = .ok (.invokevirtual 70, 3) := by decide +kernel
theorem d_Model_isSample_5 : decode c_Model_isSample 5 = .ok (.ifCond .eq 35, 3) := by decide +kernel
theorem d_Model_isSample_8 : decode c_Model_isSample 8 = .ok (.iload_n 2, 1) := by decide +kernel
theorem d_Model_isSample_9 : decode c_Model_isSample 9 = .ok (.ifCond .lt 31, 3) := by decide +kernel
theorem d_Model_isSample_12 : decode c_Model_isSample 12 = .ok (.iload_n 3, 1) := by decide +kernel
theorem d_Model_isSample_13 : decode c_Model_isSample 13 = .ok (.ifCond .lt 27, 3) := by decide +kernel
theorem d_Model_isSample_16 : decode c_Model_isSample 16 = .ok (.iload_n 2, 1) := by decide +kernel
theorem d_Model_isSample_17 : decode c_Model_isSample 17 = .ok (.aload_n 0, 1) := by decide +kernel
theorem d_Model_isSample_18 : decode c_Model_isSample 18 = .ok (.getfield 7, 3) := by decide +kernel
theorem d_Model_isSample_21 : decode c_Model_isSample 21 = .ok (.iload_n 1, 1) := by decide +kernel
theorem d_Model_isSample_22 : decode c_Model_isSample 22 = .ok (.iaload, 1) := by decide +kernel
theorem d_Model_isSample_23 : decode c_Model_isSample 23 = .ok (.if_icmp .ge 17, 3) := by decide +kernel
theorem d_Model_isSample_26 : decode c_Model_isSample 26 = .ok (.iload_n 3, 1) := by decide +kernel
theorem d_Model_isSample_27 : decode c_Model_isSample 27 = .ok (.aload_n 0, 1) := by decide +kernel
theorem d_Model_isSample_28 : decode c_Model_isSample 28 = .ok (.getfield 13, 3) := by decide +kernel
theorem d_Model_isSample_31 : decode c_Model_isSample 31 = .ok (.iload_n 1, 1) := by decide +kernel
theorem d_Model_isSample_32 : decode c_Model_isSample 32 = .ok (.iaload, 1) := by decide +kernel
theorem d_Model_isSample_33 : decode c_Model_isSample 33 = .ok (.if_icmp .ge 7, 3) := by decide +kernel
theorem d_Model_isSample_36 : decode c_Model_isSample 36 = .ok (.iconst 1, 1) := by decide +kernel
theorem d_Model_isSample_37 : decode c_Model_isSample 37 = .ok (.goto 4, 3) := by decide +kernel
theorem d_Model_isSample_40 : decode c_Model_isSample 40 = .ok (.iconst 0, 1) := by decide +kernel
theorem d_Model_isSample_41 : decode c_Model_isSample 41 = .ok (.ireturn, 1) := by decide +kernel
abbrev ws_Model_sample : List Cond := .code y_Model_sample c_Model_sample 5 (some .int) :: tb
theorem hd_Model_sample : y_Model_sample.cls = R_Model ∧ y_Model_sample.cls ≠ "java/lang/invoke/MethodHandle" ∧ y_Model_sample.cls ≠ "java/lang/invoke/VarHandle" ∧ (parseMethodDescriptor y_Model_sample.desc).map (fun d => d.parameters.length) = some 3 := by decide +kernel
theorem d_Model_sample_0 : decode c_Model_sample 0 = .ok (.iload_n 2, 1) := by decide +kernel
theorem d_Model_sample_1 : decode c_Model_sample 1 = .ok (.ifCond .lt 31, 3) := by decide +kernel
theorem d_Model_sample_4 : decode c_Model_sample 4 = .ok (.iload_n 3, 1) := by decide +kernel
theorem d_Model_sample_5 : decode c_Model_sample 5 = .ok (.ifCond .lt 27, 3) := by decide +kernel
theorem d_Model_sample_8 : decode c_Model_sample 8 = .ok (.iload_n 2, 1) := by decide +kernel
theorem d_Model_sample_9 : decode c_Model_sample 9 = .ok (.aload_n 0, 1) := by decide +kernel
theorem d_Model_sample_10 : decode c_Model_sample 10 = .ok (.getfield 7, 3) := by decide +kernel
theorem d_Model_sample_13 : decode c_Model_sample 13 = .ok (.iload_n 1, 1) := by decide +kernel
theorem d_Model_sample_14 : decode c_Model_sample 14 = .ok (.iaload, 1) := by decide +kernel
theorem d_Model_sample_15 : decode c_Model_sample 15 = .ok (.if_icmp .ge 17, 3) := by decide +kernel
theorem d_Model_sample_18 : decode c_Model_sample 18 = .ok (.iload_n 3, 1) := by decide +kernel
theorem d_Model_sample_19 : decode c_Model_sample 19 = .ok (.aload_n 0, 1) := by decide +kernel
theorem d_Model_sample_20 : decode c_Model_sample 20 = .ok (.getfield 13, 3) := by decide +kernel
theorem d_Model_sample_23 : decode c_Model_sample 23 = .ok (.iload_n 1, 1) := by decide +kernel
theorem d_Model_sample_24 : decode c_Model_sample 24 = .ok (.iaload, 1) := by decide +kernel
theorem d_Model_sample_25 : decode c_Model_sample 25 = .ok (.if_icmp .ge 7, 3) := by decide +kernel
theorem d_Model_sample_28 : decode c_Model_sample 28 = .ok (.iconst 1, 1) := by decide +kernel
theorem d_Model_sample_29 : decode c_Model_sample 29 = .ok (.goto 4, 3) := by decide +kernel
theorem d_Model_sample_32 : decode c_Model_sample 32 = .ok (.iconst 0, 1) := by decide +kernel
theorem d_Model_sample_33 : decode c_Model_sample 33 = .ok (.istore 4, 2) := by decide +kernel
theorem d_Model_sample_35 : decode c_Model_sample 35 = .ok (.iload 4, 2) := by decide +kernel
theorem d_Model_sample_37 : decode c_Model_sample 37 = .ok (.ifCond .eq 21, 3) := by decide +kernel
theorem d_Model_sample_40 : decode c_Model_sample 40 = .ok (.aload_n 0, 1) := by decide +kernel
theorem d_Model_sample_41 : decode c_Model_sample 41 = .ok (.getfield 16, 3) := by decide +kernel
theorem d_Model_sample_44 : decode c_Model_sample 44 = .ok (.bipush 16, 2) := by decide +kernel
theorem d_Model_sample_46 : decode c_Model_sample 46 = .ok (.iload_n 1, 1) := by decide +kernel
theorem d_Model_sample_47 : decode c_Model_sample 47 = .ok (.imul, 1) := by decide +kernel
theorem d_Model_sample_48 : decode c_Model_sample 48 = .ok (.iload_n 3, 1) := by decide +kernel
theorem d_Model_sample_49 : decode c_Model_sample 49 = .ok (.iadd, 1) := by decide +kernel
theorem d_Model_sample_50 : decode c_Model_sample 50 = .ok (.iaload, 1) := by decide +kernel
theorem d_Model_sample_51 : decode c_Model_sample 51 = .ok (.iload_n 2, 1) := by decide +kernel
theorem d_Model_sample_52 : decode c_Model_sample 52 = .ok (.ishr, 1) := by decide +kernel
theorem d_Model_sample_53 : decode c_Model_sample 53 = .ok (.iconst 1, 1) := by decide +kernel
theorem d_Model_sample_54 : decode c_Model_sample 54 = .ok (.iand, 1) := by decide +kernel
theorem d_Model_sample_55 : decode c_Model_sample 55 = .ok (.goto 4, 3) := by decide +kernel
theorem d_Model_sample_58 : decode c_Model_sample 58 = .ok (.iconst 0, 1) := by decide +kernel
theorem d_Model_sample_59 : decode c_Model_sample 59 = .ok (.ireturn, 1) := by decide +kernel
abbrev ws_Model_ones : List Cond := .code y_Model_ones c_Model_ones 3 (some .int) :: tb
theorem hd_Model_ones : y_Model_ones.cls = R_Model ∧ y_Model_ones.cls ≠ "java/lang/invoke/MethodHandle" ∧ y_Model_ones.cls ≠ "java/lang/invoke/VarHandle" ∧ (parseMethodDescriptor y_Model_ones.desc).map (fun d => d.parameters.length) = some 1 := by decide +kernel
theorem d_Model_ones_0 : decode c_Model_ones 0 = .ok (.iconst 0, 1) := by decide +kernel
theorem d_Model_ones_1 : decode c_Model_ones 1 = .ok (.istore_n 1, 1) := by decide +kernel
theorem d_Model_ones_2 : decode c_Model_ones 2 = .ok (.iconst 0, 1) := by decide +kernel
theorem d_Model_ones_3 : decode c_Model_ones 3 = .ok (.istore_n 2, 1) := by decide +kernel
theorem d_Model_ones_4 : decode c_Model_ones 4 = .ok (.iload_n 2, 1) := by decide +kernel
theorem d_Model_ones_5 : decode c_Model_ones 5 = .ok (.bipush 16, 2) := by decide +kernel
theorem d_Model_ones_7 : decode c_Model_ones 7 = .ok (.if_icmp .ge 17, 3) := by decide +kernel
theorem d_Model_ones_10 : decode c_Model_ones 10 = .ok (.iload_n 1, 1) := by decide +kernel
theorem d_Model_ones_11 : decode c_Model_ones 11 = .ok (.iload_n 0, 1) := by decide +kernel
theorem d_Model_ones_12 : decode c_Model_ones 12 = .ok (.iload_n 2, 1) := by decide +kernel
theorem d_Model_ones_13 : decode c_Model_ones 13 = .ok (.ishr, 1) := by decide +kernel
theorem d_Model_ones_14 : decode c_Model_ones 14 = .ok (.iconst 1, 1) := by decide +kernel
theorem d_Model_ones_15 : decode c_Model_ones 15 = .ok (.iand, 1) := by decide +kernel
theorem d_Model_ones_16 : decode c_Model_ones 16 = .ok (.iadd, 1) := by decide +kernel
theorem d_Model_ones_17 : decode c_Model_ones 17 = .ok (.istore_n 1, 1) := by decide +kernel
theorem d_Model_ones_18 : decode c_Model_ones 18 = .ok (.iinc 2 1, 3) := by decide +kernel
theorem d_Model_ones_21 : decode c_Model_ones 21 = .ok (.goto (-17), 3) := by decide +kernel
theorem d_Model_ones_24 : decode c_Model_ones 24 = .ok (.iload_n 1, 1) := by decide +kernel
theorem d_Model_ones_25 : decode c_Model_ones 25 = .ok (.ireturn, 1) := by decide +kernel
abbrev ws_Model_put : List Cond := .code y_Model_put c_Model_put 6 (some .boolean) :: tb
theorem hd_Model_put : y_Model_put.cls = R_Model ∧ y_Model_put.cls ≠ "java/lang/invoke/MethodHandle" ∧ y_Model_put.cls ≠ "java/lang/invoke/VarHandle" ∧ (parseMethodDescriptor y_Model_put.desc).map (fun d => d.parameters.length) = some 4 := by decide +kernel
theorem d_Model_put_0 : decode c_Model_put 0 = .ok (.aload_n 0, 1) := by decide +kernel
theorem d_Model_put_1 : decode c_Model_put 1 = .ok (.aload_n 0, 1) := by decide +kernel
theorem d_Model_put_2 : decode c_Model_put 2 = .ok (.iload_n 1, 1) := by decide +kernel
theorem d_Model_put_3 : decode c_Model_put 3 = .ok (.iload_n 2, 1) := by decide +kernel
theorem d_Model_put_4 : decode c_Model_put 4 = .ok (.iload_n 3, 1) := by decide +kernel
theorem d_Model_put_5 : decode c_Model_put 5 = .ok (.invokevirtual 73, 3) := by decide +kernel
theorem d_Model_put_8 : decode c_Model_put 8 = .ok (.ifCond .eq 7, 3) := by decide +kernel
theorem d_Model_put_11 : decode c_Model_put 11 = .ok (.iconst 0, 1) := by decide +kernel
theorem d_Model_put_12 : decode c_Model_put 12 = .ok (.goto 4, 3) := by decide +kernel
theorem d_Model_put_15 : decode c_Model_put 15 = .ok (.iconst 1, 1) := by decide +kernel
theorem d_Model_put_16 : decode c_Model_put 16 = .ok (.invokevirtual 66, 3) := by decide +kernel
theorem d_Model_put_19 : decode c_Model_put 19 = .ok (.ifCond .eq 5, 3) := by decide +kernel
theorem d_Model_put_22 : decode c_Model_put 22 = .ok (.iconst 0, 1) := by decide +kernel
theorem d_Model_put_23 : decode c_Model_put 23 = .ok (.ireturn, 1) := by decide +kernel
theorem d_Model_put_24 : decode c_Model_put 24 = .ok (.aload_n 0, 1) := by decide +kernel
theorem d_Model_put_25 : decode c_Model_put 25 = .ok (.iload_n 1, 1) := by decide +kernel
theorem d_Model_put_26 : decode c_Model_put 26 = .ok (.iload_n 2, 1) := by decide +kernel
theorem d_Model_put_27 : decode c_Model_put 27 = .ok (.iload_n 3, 1) := by decide +kernel
theorem d_Model_put_28 : decode c_Model_put 28 = .ok (.invokevirtual 77, 3) := by decide +kernel
theorem d_Model_put_31 : decode c_Model_put 31 = .ok (.iconst 1, 1) := by decide +kernel
theorem d_Model_put_32 : decode c_Model_put 32 = .ok (.if_icmp .ne 7, 3) := by decide +kernel
theorem d_Model_put_35 : decode c_Model_put 35 = .ok (.iconst 1, 1) := by decide +kernel
theorem d_Model_put_36 : decode c_Model_put 36 = .ok (.goto 4, 3) := by decide +kernel
theorem d_Model_put_39 : decode c_Model_put 39 = .ok (.iconst 0, 1) := by decide +kernel
theorem d_Model_put_40 : decode c_Model_put 40 = .ok (.istore 5, 2) := by decide +kernel
theorem d_Model_put_42 : decode c_Model_put 42 = .ok (.iload 5, 2) := by decide +kernel
theorem d_Model_put_44 : decode c_Model_put 44 = .ok (.iload 4, 2) := by decide +kernel
theorem d_Model_put_46 : decode c_Model_put 46 = .ok (.if_icmp .eq 20, 3) := by decide +kernel
theorem d_Model_put_49 : decode c_Model_put 49 = .ok (.aload_n 0, 1) := by decide +kernel
theorem d_Model_put_50 : decode c_Model_put 50 = .ok (.getfield 16, 3) := by decide +kernel
theorem d_Model_put_53 : decode c_Model_put 53 = .ok (.bipush 16, 2) := by decide +kernel
theorem d_Model_put_55 : decode c_Model_put 55 = .ok (.iload_n 1, 1) := by decide +kernel
theorem d_Model_put_56 : decode c_Model_put 56 = .ok (.imul, 1) := by decide +kernel
theorem d_Model_put_57 : decode c_Model_put 57 = .ok (.iload_n 3, 1) := by decide +kernel
theorem d_Model_put_58 : decode c_Model_put 58 = .ok (.iadd, 1) := by decide +kernel
theorem d_Model_put_59 : decode c_Model_put 59 = .ok (.dup2, 1) := by decide +kernel
theorem d_Model_put_60 : decode c_Model_put 60 = .ok (.iaload, 1) := by decide +kernel
theorem d_Model_put_61 : decode c_Model_put 61 = .ok (.iconst 1, 1) := by decide +kernel
theorem d_Model_put_62 : decode c_Model_put 62 = .ok (.iload_n 2, 1) := by decide +kernel
theorem d_Model_put_63 : decode c_Model_put 63 = .ok (.ishl, 1) := by decide +kernel
theorem d_Model_put_64 : decode c_Model_put 64 = .ok (.ixor, 1) := by decide +kernel
theorem d_Model_put_65 : decode c_Model_put 65 = .ok (.iastore, 1) := by decide +kernel
theorem d_Model_put_66 : decode c_Model_put 66 = .ok (.iload 5, 2) := by decide +kernel
theorem d_Model_put_68 : decode c_Model_put 68 = .ok (.iload 4, 2) := by decide +kernel
theorem d_Model_put_70 : decode c_Model_put 70 = .ok (.if_icmp .eq 7, 3) := by decide +kernel
theorem d_Model_put_73 : decode c_Model_put 73 = .ok (.iconst 1, 1) := by decide +kernel
theorem d_Model_put_74 : decode c_Model_put 74 = .ok (.goto 4, 3) := by decide +kernel
theorem d_Model_put_77 : decode c_Model_put 77 = .ok (.iconst 0, 1) := by decide +kernel
theorem d_Model_put_78 : decode c_Model_put 78 = .ok (.ireturn, 1) := by decide +kernel
abbrev ws_Model_row : List Cond := .code y_Model_row c_Model_row 4 (some .int) :: tb
theorem hd_Model_row : y_Model_row.cls = R_Model ∧ y_Model_row.cls ≠ "java/lang/invoke/MethodHandle" ∧ y_Model_row.cls ≠ "java/lang/invoke/VarHandle" ∧ (parseMethodDescriptor y_Model_row.desc).map (fun d => d.parameters.length) = some 3 := by decide +kernel
theorem d_Model_row_0 : decode c_Model_row 0 = .ok (.aload_n 0, 1) := by decide +kernel
theorem d_Model_row_1 : decode c_Model_row 1 = .ok (.aload_n 0, 1) := by decide +kernel
theorem d_Model_row_2 : decode c_Model_row 2 = .ok (.iload_n 1, 1) := by decide +kernel
theorem d_Model_row_3 : decode c_Model_row 3 = .ok (.invokevirtual 70, 3) := by decide +kernel
theorem d_Model_row_6 : decode c_Model_row 6 = .ok (.ifCond .eq 21, 3) := by decide +kernel
theorem d_Model_row_9 : decode c_Model_row 9 = .ok (.iload_n 2, 1) := by decide +kernel
theorem d_Model_row_10 : decode c_Model_row 10 = .ok (.ifCond .lt 17, 3) := by decide +kernel
theorem d_Model_row_13 : decode c_Model_row 13 = .ok (.iload_n 2, 1) := by decide +kernel
theorem d_Model_row_14 : decode c_Model_row 14 = .ok (.aload_n 0, 1) := by decide +kernel
theorem d_Model_row_15 : decode c_Model_row 15 = .ok (.getfield 13, 3) := by decide +kernel
theorem d_Model_row_18 : decode c_Model_row 18 = .ok (.iload_n 1, 1) := by decide +kernel
theorem d_Model_row_19 : decode c_Model_row 19 = .ok (.iaload, 1) := by decide +kernel
theorem d_Model_row_20 : decode c_Model_row 20 = .ok (.if_icmp .ge 7, 3) := by decide +kernel
theorem d_Model_row_23 : decode c_Model_row 23 = .ok (.iconst 0, 1) := by decide +kernel
theorem d_Model_row_24 : decode c_Model_row 24 = .ok (.goto 4, 3) := by decide +kernel
theorem d_Model_row_27 : decode c_Model_row 27 = .ok (.iconst 1, 1) := by decide +kernel
theorem d_Model_row_28 : decode c_Model_row 28 = .ok (.invokevirtual 66, 3) := by decide +kernel
theorem d_Model_row_31 : decode c_Model_row 31 = .ok (.ifCond .eq 5, 3) := by decide +kernel
theorem d_Model_row_34 : decode c_Model_row 34 = .ok (.iconst 0, 1) := by decide +kernel
theorem d_Model_row_35 : decode c_Model_row 35 = .ok (.ireturn, 1) := by decide +kernel
theorem d_Model_row_36 : decode c_Model_row 36 = .ok (.aload_n 0, 1) := by decide +kernel
theorem d_Model_row_37 : decode c_Model_row 37 = .ok (.getfield 16, 3) := by decide +kernel
theorem d_Model_row_40 : decode c_Model_row 40 = .ok (.bipush 16, 2) := by decide +kernel
theorem d_Model_row_42 : decode c_Model_row 42 = .ok (.iload_n 1, 1) := by decide +kernel
theorem d_Model_row_43 : decode c_Model_row 43 = .ok (.imul, 1) := by decide +kernel
theorem d_Model_row_44 : decode c_Model_row 44 = .ok (.iload_n 2, 1) := by decide +kernel
theorem d_Model_row_45 : decode c_Model_row 45 = .ok (.iadd, 1) := by decide +kernel
theorem d_Model_row_46 : decode c_Model_row 46 = .ok (.iload_n 3, 1) := by decide +kernel
theorem d_Model_row_47 : decode c_Model_row 47 = .ok (.iconst 1, 1) := by decide +kernel
theorem d_Model_row_48 : decode c_Model_row 48 = .ok (.aload_n 0, 1) := by decide +kernel
theorem d_Model_row_49 : decode c_Model_row 49 = .ok (.getfield 7, 3) := by decide +kernel
theorem d_Model_row_52 : decode c_Model_row 52 = .ok (.iload_n 1, 1) := by decide +kernel
theorem d_Model_row_53 : decode c_Model_row 53 = .ok (.iaload, 1) := by decide +kernel
theorem d_Model_row_54 : decode c_Model_row 54 = .ok (.ishl, 1) := by decide +kernel
theorem d_Model_row_55 : decode c_Model_row 55 = .ok (.iconst 1, 1) := by decide +kernel
theorem d_Model_row_56 : decode c_Model_row 56 = .ok (.isub, 1) := by decide +kernel
theorem d_Model_row_57 : decode c_Model_row 57 = .ok (.iand, 1) := by decide +kernel
theorem d_Model_row_58 : decode c_Model_row 58 = .ok (.iastore, 1) := by decide +kernel
theorem d_Model_row_59 : decode c_Model_row 59 = .ok (.aload_n 0, 1) := by decide +kernel
theorem d_Model_row_60 : decode c_Model_row 60 = .ok (.getfield 16, 3) := by decide +kernel
theorem d_Model_row_63 : decode c_Model_row 63 = .ok (.bipush 16, 2) := by decide +kernel
theorem d_Model_row_65 : decode c_Model_row 65 = .ok (.iload_n 1, 1) := by decide +kernel
theorem d_Model_row_66 : decode c_Model_row 66 = .ok (.imul, 1) := by decide +kernel
theorem d_Model_row_67 : decode c_Model_row 67 = .ok (.iload_n 2, 1) := by decide +kernel
theorem d_Model_row_68 : decode c_Model_row 68 = .ok (.iadd, 1) := by decide +kernel
theorem d_Model_row_69 : decode c_Model_row 69 = .ok (.iaload, 1) := by decide +kernel
theorem d_Model_row_70 : decode c_Model_row 70 = .ok (.invokestatic 81, 3) := by decide +kernel
theorem d_Model_row_73 : decode c_Model_row 73 = .ok (.ireturn, 1) := by decide +kernel
abbrev ws_Model_at : List Cond := .code y_Model_at c_Model_at 4 (some .boolean) :: tb
theorem hd_Model_at : y_Model_at.cls = R_Model ∧ y_Model_at.cls ≠ "java/lang/invoke/MethodHandle" ∧ y_Model_at.cls ≠ "java/lang/invoke/VarHandle" ∧ (parseMethodDescriptor y_Model_at.desc).map (fun d => d.parameters.length) = some 3 := by decide +kernel
theorem d_Model_at_0 : decode c_Model_at 0 = .ok (.aload_n 0, 1) := by decide +kernel
theorem d_Model_at_1 : decode c_Model_at 1 = .ok (.aload_n 0, 1) := by decide +kernel
theorem d_Model_at_2 : decode c_Model_at 2 = .ok (.iload_n 1, 1) := by decide +kernel
theorem d_Model_at_3 : decode c_Model_at 3 = .ok (.iload_n 2, 1) := by decide +kernel
theorem d_Model_at_4 : decode c_Model_at 4 = .ok (.iload_n 3, 1) := by decide +kernel
theorem d_Model_at_5 : decode c_Model_at 5 = .ok (.invokevirtual 73, 3) := by decide +kernel
theorem d_Model_at_8 : decode c_Model_at 8 = .ok (.ifCond .eq 7, 3) := by decide +kernel
theorem d_Model_at_11 : decode c_Model_at 11 = .ok (.iconst 0, 1) := by decide +kernel
theorem d_Model_at_12 : decode c_Model_at 12 = .ok (.goto 4, 3) := by decide +kernel
theorem d_Model_at_15 : decode c_Model_at 15 = .ok (.iconst 1, 1) := by decide +kernel
theorem d_Model_at_16 : decode c_Model_at 16 = .ok (.invokevirtual 66, 3) := by decide +kernel
theorem d_Model_at_19 : decode c_Model_at 19 = .ok (.ifCond .ne 18, 3) := by decide +kernel
theorem d_Model_at_22 : decode c_Model_at 22 = .ok (.aload_n 0, 1) := by decide +kernel
theorem d_Model_at_23 : decode c_Model_at 23 = .ok (.iload_n 1, 1) := by decide +kernel
theorem d_Model_at_24 : decode c_Model_at 24 = .ok (.iload_n 2, 1) := by decide +kernel
theorem d_Model_at_25 : decode c_Model_at 25 = .ok (.iload_n 3, 1) := by decide +kernel
theorem d_Model_at_26 : decode c_Model_at 26 = .ok (.invokevirtual 77, 3) := by decide +kernel
theorem d_Model_at_29 : decode c_Model_at 29 = .ok (.iconst 1, 1) := by decide +kernel
theorem d_Model_at_30 : decode c_Model_at 30 = .ok (.if_icmp .ne 7, 3) := by decide +kernel
theorem d_Model_at_33 : decode c_Model_at 33 = .ok (.iconst 1, 1) := by decide +kernel
theorem d_Model_at_34 : decode c_Model_at 34 = .ok (.goto 4, 3) := by decide +kernel
theorem d_Model_at_37 : decode c_Model_at 37 = .ok (.iconst 0, 1) := by decide +kernel
theorem d_Model_at_38 : decode c_Model_at 38 = .ok (.ireturn, 1) := by decide +kernel
abbrev ws_Model_isBefore : List Cond := .code y_Model_isBefore c_Model_isBefore 3 (some .boolean) :: tb
theorem hd_Model_isBefore : y_Model_isBefore.cls = R_Model ∧ y_Model_isBefore.cls ≠ "java/lang/invoke/MethodHandle" ∧ y_Model_isBefore.cls ≠ "java/lang/invoke/VarHandle" ∧ (parseMethodDescriptor y_Model_isBefore.desc).map (fun d => d.parameters.length) = some 2 := by decide +kernel
theorem d_Model_isBefore_0 : decode c_Model_isBefore 0 = .ok (.aload_n 0, 1) := by decide +kernel
theorem d_Model_isBefore_1 : decode c_Model_isBefore 1 = .ok (.getfield 13, 3) := by decide +kernel
theorem d_Model_isBefore_4 : decode c_Model_isBefore 4 = .ok (.iload_n 1, 1) := by decide +kernel
theorem d_Model_isBefore_5 : decode c_Model_isBefore 5 = .ok (.iaload, 1) := by decide +kernel
theorem d_Model_isBefore_6 : decode c_Model_isBefore 6 = .ok (.aload_n 0, 1) := by decide +kernel
theorem d_Model_isBefore_7 : decode c_Model_isBefore 7 = .ok (.getfield 13, 3) := by decide +kernel
theorem d_Model_isBefore_10 : decode c_Model_isBefore 10 = .ok (.iload_n 2, 1) := by decide +kernel
theorem d_Model_isBefore_11 : decode c_Model_isBefore 11 = .ok (.iaload, 1) := by decide +kernel
theorem d_Model_isBefore_12 : decode c_Model_isBefore 12 = .ok (.if_icmp .eq 24, 3) := by decide +kernel
theorem d_Model_isBefore_15 : decode c_Model_isBefore 15 = .ok (.aload_n 0, 1) := by decide +kernel
theorem d_Model_isBefore_16 : decode c_Model_isBefore 16 = .ok (.getfield 13, 3) := by decide +kernel
theorem d_Model_isBefore_19 : decode c_Model_isBefore 19 = .ok (.iload_n 1, 1) := by decide +kernel
theorem d_Model_isBefore_20 : decode c_Model_isBefore 20 = .ok (.iaload, 1) := by decide +kernel
theorem d_Model_isBefore_21 : decode c_Model_isBefore 21 = .ok (.aload_n 0, 1) := by decide +kernel
theorem d_Model_isBefore_22 : decode c_Model_isBefore 22 = .ok (.getfield 13, 3) := by decide +kernel
theorem d_Model_isBefore_25 : decode c_Model_isBefore 25 = .ok (.iload_n 2, 1) := by decide +kernel
theorem d_Model_isBefore_26 : decode c_Model_isBefore 26 = .ok (.iaload, 1) := by decide +kernel
theorem d_Model_isBefore_27 : decode c_Model_isBefore 27 = .ok (.if_icmp .ge 7, 3) := by decide +kernel
theorem d_Model_isBefore_30 : decode c_Model_isBefore 30 = .ok (.iconst 1, 1) := by decide +kernel
theorem d_Model_isBefore_31 : decode c_Model_isBefore 31 = .ok (.goto 4, 3) := by decide +kernel
theorem d_Model_isBefore_34 : decode c_Model_isBefore 34 = .ok (.iconst 0, 1) := by decide +kernel
theorem d_Model_isBefore_35 : decode c_Model_isBefore 35 = .ok (.ireturn, 1) := by decide +kernel
theorem d_Model_isBefore_36 : decode c_Model_isBefore 36 = .ok (.aload_n 0, 1) := by decide +kernel
theorem d_Model_isBefore_37 : decode c_Model_isBefore 37 = .ok (.getfield 7, 3) := by decide +kernel
theorem d_Model_isBefore_40 : decode c_Model_isBefore 40 = .ok (.iload_n 1, 1) := by decide +kernel
theorem d_Model_isBefore_41 : decode c_Model_isBefore 41 = .ok (.iaload, 1) := by decide +kernel
theorem d_Model_isBefore_42 : decode c_Model_isBefore 42 = .ok (.aload_n 0, 1) := by decide +kernel
theorem d_Model_isBefore_43 : decode c_Model_isBefore 43 = .ok (.getfield 7, 3) := by decide +kernel
theorem d_Model_isBefore_46 : decode c_Model_isBefore 46 = .ok (.iload_n 2, 1) := by decide +kernel
theorem d_Model_isBefore_47 : decode c_Model_isBefore 47 = .ok (.iaload, 1) := by decide +kernel
theorem d_Model_isBefore_48 : decode c_Model_isBefore 48 = .ok (.if_icmp .eq 26, 3) := by decide +kernel
theorem d_Model_isBefore_51 : decode c_Model_isBefore 51 = .ok (.aload_n 0, 1) := by decide +kernel
theorem d_Model_isBefore_52 : decode c_Model_isBefore 52 = .ok (.getfield 7, 3) := by decide +kernel
theorem d_Model_isBefore_55 : decode c_Model_isBefore 55 = .ok (.iload_n 1, 1) := by decide +kernel
theorem d_Model_isBefore_56 : decode c_Model_isBefore 56 = .ok (.iaload, 1) := by decide +kernel
theorem d_Model_isBefore_57 : decode c_Model_isBefore 57 = .ok (.aload_n 0, 1) := by decide +kernel
theorem d_Model_isBefore_58 : decode c_Model_isBefore 58 = .ok (.getfield 7, 3) := by decide +kernel
theorem d_Model_isBefore_61 : decode c_Model_isBefore 61 = .ok (.iload_n 2, 1) := by decide +kernel
theorem d_Model_isBefore_62 : decode c_Model_isBefore 62 = .ok (.iaload, 1) := by decide +kernel
theorem d_Model_isBefore_63 : decode c_Model_isBefore 63 = .ok (.if_icmp .ge 7, 3) := by decide +kernel
theorem d_Model_isBefore_66 : decode c_Model_isBefore 66 = .ok (.iconst 1, 1) := by decide +kernel
theorem d_Model_isBefore_67 : decode c_Model_isBefore 67 = .ok (.goto 17, 3) := by decide +kernel
theorem d_Model_isBefore_70 : decode c_Model_isBefore 70 = .ok (.iconst 0, 1) := by decide +kernel
theorem d_Model_isBefore_71 : decode c_Model_isBefore 71 = .ok (.goto 13, 3) := by decide +kernel
theorem d_Model_isBefore_74 : decode c_Model_isBefore 74 = .ok (.iload_n 1, 1) := by decide +kernel
theorem d_Model_isBefore_75 : decode c_Model_isBefore 75 = .ok (.iload_n 2, 1) := by decide +kernel
theorem d_Model_isBefore_76 : decode c_Model_isBefore 76 = .ok (.if_icmp .ge 7, 3) := by decide +kernel
theorem d_Model_isBefore_79 : decode c_Model_isBefore 79 = .ok (.iconst 1, 1) := by decide +kernel
theorem d_Model_isBefore_80 : decode c_Model_isBefore 80 = .ok (.goto 4, 3) := by decide +kernel
theorem d_Model_isBefore_83 : decode c_Model_isBefore 83 = .ok (.iconst 0, 1) := by decide +kernel
theorem d_Model_isBefore_84 : decode c_Model_isBefore 84 = .ok (.ireturn, 1) := by decide +kernel
abbrev ws_Model_isShift : List Cond := .code y_Model_isShift c_Model_isShift 1 (some .boolean) :: tb
theorem hd_Model_isShift : y_Model_isShift.cls = R_Model ∧ y_Model_isShift.cls ≠ "java/lang/invoke/MethodHandle" ∧ y_Model_isShift.cls ≠ "java/lang/invoke/VarHandle" ∧ (parseMethodDescriptor y_Model_isShift.desc).map (fun d => d.parameters.length) = some 1 := by decide +kernel
theorem d_Model_isShift_0 : decode c_Model_isShift 0 = .ok (.iload_n 0, 1) := by decide +kernel
theorem d_Model_isShift_1 : decode c_Model_isShift 1 = .ok (.bipush (-4), 2) := by decide +kernel
theorem d_Model_isShift_3 : decode c_Model_isShift 3 = .ok (.if_icmp .lt 12, 3) := by decide +kernel
theorem d_Model_isShift_6 : decode c_Model_isShift 6 = .ok (.iload_n 0, 1) := by decide +kernel
theorem d_Model_isShift_7 : decode c_Model_isShift 7 = .ok (.iconst 4, 1) := by decide +kernel
theorem d_Model_isShift_8 : decode c_Model_isShift 8 = .ok (.if_icmp .gt 7, 3) := by decide +kernel
theorem d_Model_isShift_11 : decode c_Model_isShift 11 = .ok (.iconst 1, 1) := by decide +kernel
theorem d_Model_isShift_12 : decode c_Model_isShift 12 = .ok (.goto 4, 3) := by decide +kernel
theorem d_Model_isShift_15 : decode c_Model_isShift 15 = .ok (.iconst 0, 1) := by decide +kernel
theorem d_Model_isShift_16 : decode c_Model_isShift 16 = .ok (.ireturn, 1) := by decide +kernel
abbrev ws_Model_refined : List Cond := .code y_Model_refined c_Model_refined 8 (some .int) :: tb
theorem hd_Model_refined : y_Model_refined.cls = R_Model ∧ y_Model_refined.cls ≠ "java/lang/invoke/MethodHandle" ∧ y_Model_refined.cls ≠ "java/lang/invoke/VarHandle" ∧ (parseMethodDescriptor y_Model_refined.desc).map (fun d => d.parameters.length) = some 4 := by decide +kernel
theorem d_Model_refined_0 : decode c_Model_refined 0 = .ok (.aload_n 0, 1) := by decide +kernel
theorem d_Model_refined_1 : decode c_Model_refined 1 = .ok (.iload_n 1, 1) := by decide +kernel
theorem d_Model_refined_2 : decode c_Model_refined 2 = .ok (.invokevirtual 70, 3) := by decide +kernel
theorem d_Model_refined_5 : decode c_Model_refined 5 = .ok (.ifCond .eq 20, 3) := by decide +kernel
theorem d_Model_refined_8 : decode c_Model_refined 8 = .ok (.iload_n 2, 1) := by decide +kernel
theorem d_Model_refined_9 : decode c_Model_refined 9 = .ok (.iconst (-1), 1) := by decide +kernel
theorem d_Model_refined_10 : decode c_Model_refined 10 = .ok (.if_icmp .eq 11, 3) := by decide +kernel
theorem d_Model_refined_13 : decode c_Model_refined 13 = .ok (.aload_n 0, 1) := by decide +kernel
theorem d_Model_refined_14 : decode c_Model_refined 14 = .ok (.iload_n 2, 1) := by decide +kernel
theorem d_Model_refined_15 : decode c_Model_refined 15 = .ok (.invokevirtual 70, 3) := by decide +kernel
theorem d_Model_refined_18 : decode c_Model_refined 18 = .ok (.ifCond .eq 7, 3) := by decide +kernel
theorem d_Model_refined_21 : decode c_Model_refined 21 = .ok (.iconst 1, 1) := by decide +kernel
theorem d_Model_refined_22 : decode c_Model_refined 22 = .ok (.goto 4, 3) := by decide +kernel
theorem d_Model_refined_25 : decode c_Model_refined 25 = .ok (.iconst 0, 1) := by decide +kernel
theorem d_Model_refined_26 : decode c_Model_refined 26 = .ok (.istore 5, 2) := by decide +kernel
theorem d_Model_refined_28 : decode c_Model_refined 28 = .ok (.iload_n 2, 1) := by decide +kernel
theorem d_Model_refined_29 : decode c_Model_refined 29 = .ok (.iconst (-1), 1) := by decide +kernel
theorem d_Model_refined_30 : decode c_Model_refined 30 = .ok (.if_icmp .ne 7, 3) := by decide +kernel
theorem d_Model_refined_33 : decode c_Model_refined 33 = .ok (.iconst 1, 1) := by decide +kernel
theorem d_Model_refined_34 : decode c_Model_refined 34 = .ok (.goto 4, 3) := by decide +kernel
theorem d_Model_refined_37 : decode c_Model_refined 37 = .ok (.iconst 0, 1) := by decide +kernel
theorem d_Model_refined_38 : decode c_Model_refined 38 = .ok (.istore 6, 2) := by decide +kernel
theorem d_Model_refined_40 : decode c_Model_refined 40 = .ok (.aload_n 0, 1) := by decide +kernel
theorem d_Model_refined_41 : decode c_Model_refined 41 = .ok (.iload 5, 2) := by decide +kernel
theorem d_Model_refined_43 : decode c_Model_refined 43 = .ok (.ifCond .ne 7, 3) := by decide +kernel
theorem d_Model_refined_46 : decode c_Model_refined 46 = .ok (.iconst 1, 1) := by decide +kernel
theorem d_Model_refined_47 : decode c_Model_refined 47 = .ok (.goto 46, 3) := by decide +kernel
theorem d_Model_refined_50 : decode c_Model_refined 50 = .ok (.iload 6, 2) := by decide +kernel
theorem d_Model_refined_52 : decode c_Model_refined 52 = .ok (.ifCond .ne 22, 3) := by decide +kernel
theorem d_Model_refined_55 : decode c_Model_refined 55 = .ok (.iload_n 3, 1) := by decide +kernel
theorem d_Model_refined_56 : decode c_Model_refined 56 = .ok (.invokestatic 85, 3) := by decide +kernel
theorem d_Model_refined_59 : decode c_Model_refined 59 = .ok (.ifCond .eq 11, 3) := by decide +kernel
theorem d_Model_refined_62 : decode c_Model_refined 62 = .ok (.iload 4, 2) := by decide +kernel
theorem d_Model_refined_64 : decode c_Model_refined 64 = .ok (.invokestatic 85, 3) := by decide +kernel
theorem d_Model_refined_67 : decode c_Model_refined 67 = .ok (.ifCond .ne 7, 3) := by decide +kernel
theorem d_Model_refined_70 : decode c_Model_refined 70 = .ok (.iconst 2, 1) := by decide +kernel
theorem d_Model_refined_71 : decode c_Model_refined 71 = .ok (.goto 22, 3) := by decide +kernel
theorem d_Model_refined_74 : decode c_Model_refined 74 = .ok (.iload 6, 2) := by decide +kernel
theorem d_Model_refined_76 : decode c_Model_refined 76 = .ok (.ifCond .ne 16, 3) := by decide +kernel
theorem d_Model_refined_79 : decode c_Model_refined 79 = .ok (.aload_n 0, 1) := by decide +kernel
theorem d_Model_refined_80 : decode c_Model_refined 80 = .ok (.iload_n 2, 1) := by decide +kernel
theorem d_Model_refined_81 : decode c_Model_refined 81 = .ok (.iload_n 1, 1) := by decide +kernel
theorem d_Model_refined_82 : decode c_Model_refined 82 = .ok (.invokevirtual 88, 3) := by decide +kernel
theorem d_Model_refined_85 : decode c_Model_refined 85 = .ok (.ifCond .ne 7, 3) := by decide +kernel
theorem d_Model_refined_88 : decode c_Model_refined 88 = .ok (.iconst 3, 1) := by decide +kernel
theorem d_Model_refined_89 : decode c_Model_refined 89 = .ok (.goto 4, 3) := by decide +kernel
theorem d_Model_refined_92 : decode c_Model_refined 92 = .ok (.iconst 0, 1) := by decide +kernel
theorem d_Model_refined_93 : decode c_Model_refined 93 = .ok (.invokevirtual 66, 3) := by decide +kernel
theorem d_Model_refined_96 : decode c_Model_refined 96 = .ok (.ifCond .eq 5, 3) := by decide +kernel
theorem d_Model_refined_99 : decode c_Model_refined 99 = .ok (.iconst 0, 1) := by decide +kernel
theorem d_Model_refined_100 : decode c_Model_refined 100 = .ok (.ireturn, 1) := by decide +kernel
theorem d_Model_refined_101 : decode c_Model_refined 101 = .ok (.aload_n 0, 1) := by decide +kernel
theorem d_Model_refined_102 : decode c_Model_refined 102 = .ok (.getfield 23, 3) := by decide +kernel
theorem d_Model_refined_105 : decode c_Model_refined 105 = .ok (.iload_n 1, 1) := by decide +kernel
theorem d_Model_refined_106 : decode c_Model_refined 106 = .ok (.iaload, 1) := by decide +kernel
theorem d_Model_refined_107 : decode c_Model_refined 107 = .ok (.istore 7, 2) := by decide +kernel
theorem d_Model_refined_109 : decode c_Model_refined 109 = .ok (.aload_n 0, 1) := by decide +kernel
theorem d_Model_refined_110 : decode c_Model_refined 110 = .ok (.getfield 23, 3) := by decide +kernel
theorem d_Model_refined_113 : decode c_Model_refined 113 = .ok (.iload_n 1, 1) := by decide +kernel
theorem d_Model_refined_114 : decode c_Model_refined 114 = .ok (.iload_n 2, 1) := by decide +kernel
theorem d_Model_refined_115 : decode c_Model_refined 115 = .ok (.iastore, 1) := by decide +kernel
theorem d_Model_refined_116 : decode c_Model_refined 116 = .ok (.aload_n 0, 1) := by decide +kernel
theorem d_Model_refined_117 : decode c_Model_refined 117 = .ok (.getfield 26, 3) := by decide +kernel
theorem d_Model_refined_120 : decode c_Model_refined 120 = .ok (.iload_n 1, 1) := by decide +kernel
theorem d_Model_refined_121 : decode c_Model_refined 121 = .ok (.iload 6, 2) := by decide +kernel
theorem d_Model_refined_123 : decode c_Model_refined 123 = .ok (.ifCond .eq 7, 3) := by decide +kernel
theorem d_Model_refined_126 : decode c_Model_refined 126 = .ok (.iconst 0, 1) := by decide +kernel
theorem d_Model_refined_127 : decode c_Model_refined 127 = .ok (.goto 4, 3) := by decide +kernel
theorem d_Model_refined_130 : decode c_Model_refined 130 = .ok (.iload_n 3, 1) := by decide +kernel
theorem d_Model_refined_131 : decode c_Model_refined 131 = .ok (.iastore, 1) := by decide +kernel
theorem d_Model_refined_132 : decode c_Model_refined 132 = .ok (.aload_n 0, 1) := by decide +kernel
theorem d_Model_refined_133 : decode c_Model_refined 133 = .ok (.getfield 29, 3) := by decide +kernel
theorem d_Model_refined_136 : decode c_Model_refined 136 = .ok (.iload_n 1, 1) := by decide +kernel
theorem d_Model_refined_137 : decode c_Model_refined 137 = .ok (.iload 6, 2) := by decide +kernel
theorem d_Model_refined_139 : decode c_Model_refined 139 = .ok (.ifCond .eq 7, 3) := by decide +kernel
theorem d_Model_refined_142 : decode c_Model_refined 142 = .ok (.iconst 0, 1) := by decide +kernel
theorem d_Model_refined_143 : decode c_Model_refined 143 = .ok (.goto 5, 3) := by decide +kernel
theorem d_Model_refined_146 : decode c_Model_refined 146 = .ok (.iload 4, 2) := by decide +kernel
theorem d_Model_refined_148 : decode c_Model_refined 148 = .ok (.iastore, 1) := by decide +kernel
theorem d_Model_refined_149 : decode c_Model_refined 149 = .ok (.iload 7, 2) := by decide +kernel
theorem d_Model_refined_151 : decode c_Model_refined 151 = .ok (.ireturn, 1) := by decide +kernel
abbrev ws_Model_export : List Cond := .code y_Model_export c_Model_export 4 (some .boolean) :: tb
theorem hd_Model_export : y_Model_export.cls = R_Model ∧ y_Model_export.cls ≠ "java/lang/invoke/MethodHandle" ∧ y_Model_export.cls ≠ "java/lang/invoke/VarHandle" ∧ (parseMethodDescriptor y_Model_export.desc).map (fun d => d.parameters.length) = some 2 := by decide +kernel
theorem d_Model_export_0 : decode c_Model_export 0 = .ok (.aload_n 0, 1) := by decide +kernel
theorem d_Model_export_1 : decode c_Model_export 1 = .ok (.aload_n 0, 1) := by decide +kernel
theorem d_Model_export_2 : decode c_Model_export 2 = .ok (.iload_n 1, 1) := by decide +kernel
theorem d_Model_export_3 : decode c_Model_export 3 = .ok (.invokevirtual 70, 3) := by decide +kernel
theorem d_Model_export_6 : decode c_Model_export 6 = .ok (.ifCond .eq 7, 3) := by decide +kernel
theorem d_Model_export_9 : decode c_Model_export 9 = .ok (.iconst 0, 1) := by decide +kernel
theorem d_Model_export_10 : decode c_Model_export 10 = .ok (.goto 4, 3) := by decide +kernel
theorem d_Model_export_13 : decode c_Model_export 13 = .ok (.iconst 1, 1) := by decide +kernel
theorem d_Model_export_14 : decode c_Model_export 14 = .ok (.invokevirtual 66, 3) := by decide +kernel
theorem d_Model_export_17 : decode c_Model_export 17 = .ok (.ifCond .eq 5, 3) := by decide +kernel
theorem d_Model_export_20 : decode c_Model_export 20 = .ok (.iconst 0, 1) := by decide +kernel
theorem d_Model_export_21 : decode c_Model_export 21 = .ok (.ireturn, 1) := by decide +kernel
theorem d_Model_export_22 : decode c_Model_export 22 = .ok (.aload_n 0, 1) := by decide +kernel
theorem d_Model_export_23 : decode c_Model_export 23 = .ok (.getfield 19, 3) := by decide +kernel
theorem d_Model_export_26 : decode c_Model_export 26 = .ok (.iload_n 1, 1) := by decide +kernel
theorem d_Model_export_27 : decode c_Model_export 27 = .ok (.baload, 1) := by decide +kernel
theorem d_Model_export_28 : decode c_Model_export 28 = .ok (.iload_n 2, 1) := by decide +kernel
theorem d_Model_export_29 : decode c_Model_export 29 = .ok (.if_icmp .eq 7, 3) := by decide +kernel
theorem d_Model_export_32 : decode c_Model_export 32 = .ok (.iconst 1, 1) := by decide +kernel
theorem d_Model_export_33 : decode c_Model_export 33 = .ok (.goto 4, 3) := by decide +kernel
theorem d_Model_export_36 : decode c_Model_export 36 = .ok (.iconst 0, 1) := by decide +kernel
theorem d_Model_export_37 : decode c_Model_export 37 = .ok (.istore_n 3, 1) := by decide +kernel
theorem d_Model_export_38 : decode c_Model_export 38 = .ok (.aload_n 0, 1) := by decide +kernel
theorem d_Model_export_39 : decode c_Model_export 39 = .ok (.getfield 19, 3) := by decide +kernel
theorem d_Model_export_42 : decode c_Model_export 42 = .ok (.iload_n 1, 1) := by decide +kernel
theorem d_Model_export_43 : decode c_Model_export 43 = .ok (.iload_n 2, 1) := by decide +kernel
theorem d_Model_export_44 : decode c_Model_export 44 = .ok (.bastore, 1) := by decide +kernel
theorem d_Model_export_45 : decode c_Model_export 45 = .ok (.iload_n 3, 1) := by decide +kernel
theorem d_Model_export_46 : decode c_Model_export 46 = .ok (.ireturn, 1) := by decide +kernel
abbrev ws_Model_placeOf : List Cond := .code y_Model_placeOf c_Model_placeOf 4 (some .int) :: tb
theorem hd_Model_placeOf : y_Model_placeOf.cls = R_Model ∧ y_Model_placeOf.cls ≠ "java/lang/invoke/MethodHandle" ∧ y_Model_placeOf.cls ≠ "java/lang/invoke/VarHandle" ∧ (parseMethodDescriptor y_Model_placeOf.desc).map (fun d => d.parameters.length) = some 1 := by decide +kernel
theorem d_Model_placeOf_0 : decode c_Model_placeOf 0 = .ok (.iconst 0, 1) := by decide +kernel
theorem d_Model_placeOf_1 : decode c_Model_placeOf 1 = .ok (.istore_n 2, 1) := by decide +kernel
theorem d_Model_placeOf_2 : decode c_Model_placeOf 2 = .ok (.iconst 0, 1) := by decide +kernel
theorem d_Model_placeOf_3 : decode c_Model_placeOf 3 = .ok (.istore_n 3, 1) := by decide +kernel
theorem d_Model_placeOf_4 : decode c_Model_placeOf 4 = .ok (.iload_n 3, 1) := by decide +kernel
theorem d_Model_placeOf_5 : decode c_Model_placeOf 5 = .ok (.aload_n 0, 1) := by decide +kernel
theorem d_Model_placeOf_6 : decode c_Model_placeOf 6 = .ok (.getfield 63, 3) := by decide +kernel
theorem d_Model_placeOf_9 : decode c_Model_placeOf 9 = .ok (.if_icmp .ge 26, 3) := by decide +kernel
theorem d_Model_placeOf_12 : decode c_Model_placeOf 12 = .ok (.iload_n 2, 1) := by decide +kernel
theorem d_Model_placeOf_13 : decode c_Model_placeOf 13 = .ok (.aload_n 0, 1) := by decide +kernel
theorem d_Model_placeOf_14 : decode c_Model_placeOf 14 = .ok (.iload_n 3, 1) := by decide +kernel
theorem d_Model_placeOf_15 : decode c_Model_placeOf 15 = .ok (.iload_n 1, 1) := by decide +kernel
theorem d_Model_placeOf_16 : decode c_Model_placeOf 16 = .ok (.invokevirtual 88, 3) := by decide +kernel
theorem d_Model_placeOf_19 : decode c_Model_placeOf 19 = .ok (.ifCond .eq 7, 3) := by decide +kernel
theorem d_Model_placeOf_22 : decode c_Model_placeOf 22 = .ok (.iconst 1, 1) := by decide +kernel
theorem d_Model_placeOf_23 : decode c_Model_placeOf 23 = .ok (.goto 4, 3) := by decide +kernel
theorem d_Model_placeOf_26 : decode c_Model_placeOf 26 = .ok (.iconst 0, 1) := by decide +kernel
theorem d_Model_placeOf_27 : decode c_Model_placeOf 27 = .ok (.iadd, 1) := by decide +kernel
theorem d_Model_placeOf_28 : decode c_Model_placeOf 28 = .ok (.istore_n 2, 1) := by decide +kernel
theorem d_Model_placeOf_29 : decode c_Model_placeOf 29 = .ok (.iinc 3 1, 3) := by decide +kernel
theorem d_Model_placeOf_32 : decode c_Model_placeOf 32 = .ok (.goto (-28), 3) := by decide +kernel
theorem d_Model_placeOf_35 : decode c_Model_placeOf 35 = .ok (.iload_n 2, 1) := by decide +kernel
theorem d_Model_placeOf_36 : decode c_Model_placeOf 36 = .ok (.ireturn, 1) := by decide +kernel
/-! Model_thrown -/
def f_Model_thrown (mo : Mo) : Option (Int32) := some (Mo_code mo)
section
variable {p : Program} {l : Launch} {e : Env} {R : Room} {s : State} {m : MethodId} {args : Array Value} {below : List Frame} {meth : Method} {c : Code} {Q : State → Prop} {A : Nat → Prop}
set_option maxHeartbeats 4000000 in
set_option maxRecDepth 100000 in
theorem B_Model_thrown {cells slots : Nat} {dC : Nat → ClassId} {dI : Nat → Nat → Nat} {cI cZ cJ : ClassId} {mo_a : Nat → Nat} {mo : Mo} {res : Int32} (C0 : cxt p c m s args R cells slots R_Model c_Model_thrown tb 1 (dC, dI) vwCl (TYS cI cZ cJ) A 0 0)
    (hr4 : ∀ (H : Heap) (locs : List Loc) (ls : Array Slot) (v : Int32), va_P (dC, dI) vwCl (wMo cI cZ cJ mo_a mo) H → va_D A (wMo cI cZ cJ mo_a mo) → va_S A s.heap H locs → some v = some res → W p l e R s m args below meth c H locs cells slots Q (F0 m 4 ls [.int v]))
    {H : Heap} {locs : List Loc} {ls : Array Slot} (hP : va_P (dC, dI) vwCl (wMo cI cZ cJ mo_a mo) H) (hD : va_D A (wMo cI cZ cJ mo_a mo)) (hS : va_S A s.heap H locs) (hl : lv_has ls 1 [(0, .ref (mo_a 0))]) (hf : f_Model_thrown mo = some res) : W p l e R s m args below meth c H locs cells slots Q (F0 m 0 ls []) := by
  obtain ⟨hx, hb, hml, hown, hts, hK, hA, hRf, hRl, hN, hRc⟩ := id C0
  rw [f_Model_thrown] at hf
  refine lv_aload_n hx hb d_Model_thrown_0 rfl (lv_at hl 0 rfl) ?_
  refine va_get (D := (dC, dI)) (ci := 7) (v := .int (Mo_code mo)) (C := R_Model) (T := T_Model) (N := 27) hx hb hts in_Model hown hK hP 0 rfl rfl 0 (by decide) (hts _ t_824) (fun _ h9 => h9) rfl d_Model_thrown_1 ?_
  exact hr4 _ _ _ (Mo_code mo) hP hD hS hf
end
set_option maxHeartbeats 4000000 in
set_option maxRecDepth 100000 in
theorem k_Model_thrown (l : Launch) (dC : Nat → ClassId) (dI : Nat → Nat → Nat) (cI cZ cJ : ClassId) (mo_a : Nat → Nat) (sz : Nat) {mo : Mo} {r : Int32} (hf : f_Model_thrown mo = some r) :
    Met l y_Model_thrown ws_Model_thrown ({ frames := 0, cells := 0, slots := 0, locals := 0 }) (va_Pc [.ref (mo_a 0)] (kP (dC, dI) vwCl (TYS cI cZ cJ) (wMo cI cZ cJ mo_a mo) sz)) (va_Qi (fun (q : Int32) (_ : Unit) => q = r) (fun _ t => kQ (dC, dI) vwCl (TYS cI cZ cJ) (wMo cI cZ cJ mo_a mo) sz (wMo cI cZ cJ mo_a mo) t) (va_A (wMo cI cZ cJ mo_a mo) sz)) 0 0 (va_A (wMo cI cZ cJ mo_a mo) sz) := by
  refine Met.ofW (cc := c_Model_thrown) (maxL := 1) (ret := (some .int)) (by decide) rfl ?_
  intro p e s m args below meth c s₁ B hml hv
  obtain ⟨rfl, hsz, hP, hK, hD0, hN⟩ := hv
  have hr := B.returns
  have hlocks := B.notSynchronized
  subst hsz
  have hD := hD0.self (sz := s.heap.size)
  have hl := lv_entry ([.ref (mo_a 0)]) (n := 1) (Nat.le_of_ble_eq_true rfl)
  rw [lg_entry_eq]
  generalize (lg_sl ([.ref (mo_a 0)]) ++ List.replicate (1 - (lg_sl ([.ref (mo_a 0)])).length) Slot.unset).toArray = ls at hl ⊢
  refine B_Model_thrown (A := va_A (wMo cI cZ cJ mo_a mo) s.heap.size) ⟨B.exec, B.bytes, hml, findClass_of_methodNamed B.named, fun w h => atoms_spec (ws := ws_Model_thrown) B.pre w (List.mem_cons_of_mem _ h), hK, fun q h => Or.inr h, Nat.le_of_ble_eq_true rfl, Nat.le_of_ble_eq_true rfl, hN, Nat.le_of_ble_eq_true rfl, Nat.le_of_ble_eq_true rfl⟩ (fun H locs ls v hP hD hS hf => ?_) hP hD va_S.rf hl hf
  · cases hf
    exact W.iret B.exec B.bytes hr (fun t ht hW => ⟨⟨_, (), rfl, rfl, ⟨by rw [ht]; exact hP, va_K.moved hW.alike hK, hD⟩⟩, hS.F ht⟩) hS.2.2 d_Model_thrown_4

/-! Model_refuses -/
def f_Model_refuses (mo : Mo) (x1 : Int32) : Option (Int32 × Mo) := lt' (Mo_s_code mo x1) <| fun mo_1 => (if x1 ≤ 0 then some (0, mo_1) else some (1, mo_1))
section
variable {p : Program} {l : Launch} {e : Env} {R : Room} {s : State} {m : MethodId} {args : Array Value} {below : List Frame} {meth : Method} {c : Code} {Q : State → Prop} {A : Nat → Prop}
set_option maxHeartbeats 4000000 in
set_option maxRecDepth 100000 in
theorem B_Model_refuses {cells slots : Nat} {dC : Nat → ClassId} {dI : Nat → Nat → Nat} {cI cZ cJ : ClassId} {mo_a : Nat → Nat} {mo : Mo} {x1 : Int32} {res : Int32 × Mo} (C0 : cxt p c m s args R cells slots R_Model c_Model_refuses tb 2 (dC, dI) vwCl (TYS cI cZ cJ) A 0 0)
    (hr14 : ∀ (H : Heap) (locs : List Loc) (ls : Array Slot) (v : Int32) (mo' : Mo), vp_nar .boolean v = v → va_P (dC, dI) vwCl (wMo cI cZ cJ mo_a mo') H → va_D A (wMo cI cZ cJ mo_a mo') → va_S A s.heap H locs → some (v, mo') = some res → W p l e R s m args below meth c H locs cells slots Q (F0 m 14 ls [.int v]))
    {H : Heap} {locs : List Loc} {ls : Array Slot} (hP : va_P (dC, dI) vwCl (wMo cI cZ cJ mo_a mo) H) (hD : va_D A (wMo cI cZ cJ mo_a mo)) (hS : va_S A s.heap H locs) (hl : lv_has ls 2 [(0, .ref (mo_a 0)), (1, .int x1)]) (hf : f_Model_refuses mo x1 = some res) : W p l e R s m args below meth c H locs cells slots Q (F0 m 0 ls []) := by
  obtain ⟨hx, hb, hml, hown, hts, hK, hA, hRf, hRl, hN, hRc⟩ := id C0
  rw [f_Model_refuses] at hf
  refine lv_aload_n hx hb d_Model_refuses_0 rfl (lv_at hl 0 rfl) ?_
  refine lv_iload_n hx hb d_Model_refuses_1 rfl (lv_at hl 1 rfl) ?_
  refine va_put (D := (dC, dI)) (ci := 7) (v := .int x1) (ty := .int) (C := R_Model) (T := T_Model) (N := 27) hx hb hts in_Model ty_Model tyok_Model nm_Model hown hK hP hD hS 0 rfl rfl 0 (by decide) (hts _ t_824) (fun _ h9 => h9) rfl (by decide +kernel) rfl rfl (Nat.le_of_ble_eq_true rfl) d_Model_refuses_2 (fun H locs hP hD hS => ?_)
  obtain ⟨mo_1, emo_1, hf⟩ := lt_ex hf
  try dsimp only at hf
  have hP : va_P (dC, dI) vwCl (wMo cI cZ cJ mo_a mo_1) H := by rw [emo_1]; exact hP
  have hD : va_D A (wMo cI cZ cJ mo_a mo_1) := by rw [emo_1]; exact hD
  refine lv_iload_n hx hb d_Model_refuses_5 rfl (lv_at hl 1 rfl) ?_
  refine lv_if_le (tgt := 13) hx hb d_Model_refuses_6 (by decide) (fun c_3 => ?_) (fun c_3 => ?_)
  · rw [if_pos c_3] at hf
    refine lv_iconst (v := 0) hx hb d_Model_refuses_13 (by decide) ?_
    exact hr14 _ _ _ 0 mo_1 (by decide) hP hD hS hf
  · rw [if_neg c_3] at hf
    refine lv_iconst (v := 1) hx hb d_Model_refuses_9 (by decide) ?_
    refine lv_goto (tgt := 14) hx hb d_Model_refuses_10 (by decide) ?_
    exact hr14 _ _ _ 1 mo_1 (by decide) hP hD hS hf
end
set_option maxHeartbeats 4000000 in
set_option maxRecDepth 100000 in
theorem k_Model_refuses (l : Launch) (dC : Nat → ClassId) (dI : Nat → Nat → Nat) (cI cZ cJ : ClassId) (mo_a : Nat → Nat) (sz : Nat) {mo : Mo} {x1 : Int32} {r : Int32} {mo' : Mo} (hf : f_Model_refuses mo x1 = some (r, mo')) :
    Met l y_Model_refuses ws_Model_refuses ({ frames := 0, cells := 0, slots := 0, locals := 0 }) (va_Pc [.ref (mo_a 0), .int x1] (kP (dC, dI) vwCl (TYS cI cZ cJ) (wMo cI cZ cJ mo_a mo) sz)) (va_Qi (fun (q : Int32) (_ : Unit) => q = r ∧ vp_nar .boolean r = r) (fun _ t => kQ (dC, dI) vwCl (TYS cI cZ cJ) (wMo cI cZ cJ mo_a mo) sz (wMo cI cZ cJ mo_a mo') t) (va_A (wMo cI cZ cJ mo_a mo) sz)) 0 0 (va_A (wMo cI cZ cJ mo_a mo) sz) := by
  refine Met.ofW (cc := c_Model_refuses) (maxL := 2) (ret := (some .boolean)) (by decide) rfl ?_
  intro p e s m args below meth c s₁ B hml hv
  obtain ⟨rfl, hsz, hP, hK, hD0, hN⟩ := hv
  have hr := B.returns
  have hlocks := B.notSynchronized
  subst hsz
  have hD := hD0.self (sz := s.heap.size)
  have hl := lv_entry ([.ref (mo_a 0), .int x1]) (n := 2) (Nat.le_of_ble_eq_true rfl)
  rw [lg_entry_eq]
  generalize (lg_sl ([.ref (mo_a 0), .int x1]) ++ List.replicate (2 - (lg_sl ([.ref (mo_a 0), .int x1])).length) Slot.unset).toArray = ls at hl ⊢
  refine B_Model_refuses (A := va_A (wMo cI cZ cJ mo_a mo) s.heap.size) ⟨B.exec, B.bytes, hml, findClass_of_methodNamed B.named, fun w h => atoms_spec (ws := ws_Model_refuses) B.pre w (List.mem_cons_of_mem _ h), hK, fun q h => Or.inr h, Nat.le_of_ble_eq_true rfl, Nat.le_of_ble_eq_true rfl, hN, Nat.le_of_ble_eq_true rfl, Nat.le_of_ble_eq_true rfl⟩ (fun H locs ls v mo'1 hz hP hD hS hf => ?_) hP hD va_S.rf hl hf
  · cases hf
    exact W.zret B.exec B.bytes hr (nz_n hz) (fun t ht hW => ⟨⟨_, (), rfl, ⟨rfl, hz⟩, ⟨by rw [ht]; exact hP, va_K.moved hW.alike hK, hD⟩⟩, hS.F ht⟩) hS.2.2 d_Model_refuses_14

/-! Model_isSymbol -/
def f_Model_isSymbol (mo : Mo) (x1 : Int32) : Option (Int32) := (if x1 < 0 then some 0 else (if (Mo_n mo) ≤ x1 then some 0 else some 1))
section
variable {p : Program} {l : Launch} {e : Env} {R : Room} {s : State} {m : MethodId} {args : Array Value} {below : List Frame} {meth : Method} {c : Code} {Q : State → Prop} {A : Nat → Prop}
set_option maxHeartbeats 4000000 in
set_option maxRecDepth 100000 in
theorem B_Model_isSymbol {cells slots : Nat} {dC : Nat → ClassId} {dI : Nat → Nat → Nat} {cI cZ cJ : ClassId} {mo_a : Nat → Nat} {mo : Mo} {x1 : Int32} {res : Int32} (C0 : cxt p c m s args R cells slots R_Model c_Model_isSymbol tb 2 (dC, dI) vwCl (TYS cI cZ cJ) A 0 0)
    (hr17 : ∀ (H : Heap) (locs : List Loc) (ls : Array Slot) (v : Int32), vp_nar .boolean v = v → va_P (dC, dI) vwCl (wMo cI cZ cJ mo_a mo) H → va_D A (wMo cI cZ cJ mo_a mo) → va_S A s.heap H locs → some v = some res → W p l e R s m args below meth c H locs cells slots Q (F0 m 17 ls [.int v]))
    {H : Heap} {locs : List Loc} {ls : Array Slot} (hP : va_P (dC, dI) vwCl (wMo cI cZ cJ mo_a mo) H) (hD : va_D A (wMo cI cZ cJ mo_a mo)) (hS : va_S A s.heap H locs) (hl : lv_has ls 2 [(0, .ref (mo_a 0)), (1, .int x1)]) (hf : f_Model_isSymbol mo x1 = some res) : W p l e R s m args below meth c H locs cells slots Q (F0 m 0 ls []) := by
  obtain ⟨hx, hb, hml, hown, hts, hK, hA, hRf, hRl, hN, hRc⟩ := id C0
  rw [f_Model_isSymbol] at hf
  refine lv_iload_n hx hb d_Model_isSymbol_0 rfl (lv_at hl 1 rfl) ?_
  refine lv_if_lt (tgt := 16) hx hb d_Model_isSymbol_1 (by decide) (fun c_1 => ?_) (fun c_1 => ?_)
  · rw [if_pos c_1] at hf
    refine lv_iconst (v := 0) hx hb d_Model_isSymbol_16 (by decide) ?_
    exact hr17 _ _ _ 0 (by decide) hP hD hS hf
  · rw [if_neg c_1] at hf
    refine lv_iload_n hx hb d_Model_isSymbol_4 rfl (lv_at hl 1 rfl) ?_
    refine lv_aload_n hx hb d_Model_isSymbol_5 rfl (lv_at hl 0 rfl) ?_
    refine va_get (D := (dC, dI)) (ci := 7) (v := .int (Mo_n mo)) (C := R_Model) (T := T_Model) (N := 27) hx hb hts in_Model hown hK hP 0 rfl rfl 2 (by decide) (hts _ t_826) (fun _ h9 => h9) rfl d_Model_isSymbol_6 ?_
    refine lv_icmp_ge (tgt := 16) hx hb d_Model_isSymbol_9 (by decide) (fun c_2 => ?_) (fun c_2 => ?_)
    · rw [if_pos c_2] at hf
      refine lv_iconst (v := 0) hx hb d_Model_isSymbol_16 (by decide) ?_
      exact hr17 _ _ _ 0 (by decide) hP hD hS hf
    · rw [if_neg c_2] at hf
      refine lv_iconst (v := 1) hx hb d_Model_isSymbol_12 (by decide) ?_
      refine lv_goto (tgt := 17) hx hb d_Model_isSymbol_13 (by decide) ?_
      exact hr17 _ _ _ 1 (by decide) hP hD hS hf
end
set_option maxHeartbeats 4000000 in
set_option maxRecDepth 100000 in
theorem k_Model_isSymbol (l : Launch) (dC : Nat → ClassId) (dI : Nat → Nat → Nat) (cI cZ cJ : ClassId) (mo_a : Nat → Nat) (sz : Nat) {mo : Mo} {x1 : Int32} {r : Int32} (hf : f_Model_isSymbol mo x1 = some r) :
    Met l y_Model_isSymbol ws_Model_isSymbol ({ frames := 0, cells := 0, slots := 0, locals := 0 }) (va_Pc [.ref (mo_a 0), .int x1] (kP (dC, dI) vwCl (TYS cI cZ cJ) (wMo cI cZ cJ mo_a mo) sz)) (va_Qi (fun (q : Int32) (_ : Unit) => q = r ∧ vp_nar .boolean r = r) (fun _ t => kQ (dC, dI) vwCl (TYS cI cZ cJ) (wMo cI cZ cJ mo_a mo) sz (wMo cI cZ cJ mo_a mo) t) (va_A (wMo cI cZ cJ mo_a mo) sz)) 0 0 (va_A (wMo cI cZ cJ mo_a mo) sz) := by
  refine Met.ofW (cc := c_Model_isSymbol) (maxL := 2) (ret := (some .boolean)) (by decide) rfl ?_
  intro p e s m args below meth c s₁ B hml hv
  obtain ⟨rfl, hsz, hP, hK, hD0, hN⟩ := hv
  have hr := B.returns
  have hlocks := B.notSynchronized
  subst hsz
  have hD := hD0.self (sz := s.heap.size)
  have hl := lv_entry ([.ref (mo_a 0), .int x1]) (n := 2) (Nat.le_of_ble_eq_true rfl)
  rw [lg_entry_eq]
  generalize (lg_sl ([.ref (mo_a 0), .int x1]) ++ List.replicate (2 - (lg_sl ([.ref (mo_a 0), .int x1])).length) Slot.unset).toArray = ls at hl ⊢
  refine B_Model_isSymbol (A := va_A (wMo cI cZ cJ mo_a mo) s.heap.size) ⟨B.exec, B.bytes, hml, findClass_of_methodNamed B.named, fun w h => atoms_spec (ws := ws_Model_isSymbol) B.pre w (List.mem_cons_of_mem _ h), hK, fun q h => Or.inr h, Nat.le_of_ble_eq_true rfl, Nat.le_of_ble_eq_true rfl, hN, Nat.le_of_ble_eq_true rfl, Nat.le_of_ble_eq_true rfl⟩ (fun H locs ls v hz hP hD hS hf => ?_) hP hD va_S.rf hl hf
  · cases hf
    exact W.zret B.exec B.bytes hr (nz_n hz) (fun t ht hW => ⟨⟨_, (), rfl, ⟨rfl, hz⟩, ⟨by rw [ht]; exact hP, va_K.moved hW.alike hK, hD⟩⟩, hS.F ht⟩) hS.2.2 d_Model_isSymbol_17

/-! Model_symbol -/
def l_Model_symbol_80 (k109 : Mo → Option (Int32 × Mo)) : Nat → Mo → Int32 → Option (Int32 × Mo)
  | 0, _, _ => none
  | n + 1, mo, x4 => (if 16 ≤ x4 then k109 mo else gd (inb ((16 * (Mo_n mo)) + x4) 1280) <| lt' (Mo_s_rw mo (upd (Mo_rw mo) ((16 * (Mo_n mo)) + x4).toNatClampNeg 0)) <| fun mo_17 => lt' (x4 + 1) <| fun x4_19 => (l_Model_symbol_80 k109 n) mo_17 x4_19)
def j_Model_symbol_49_4 (mo : Mo) (x1 : Int32) (x2 : Int32) (z0_3 : Int32) : Option (Int32 × Mo) := bd (f_Model_refuses mo z0_3) <| fun (r_5, mo_6) => (if r_5 = 0 then gd (inb (Mo_n mo_6) 80) <| lt' (Mo_s_wd mo_6 (upd (Mo_wd mo_6) (Mo_n mo_6).toNatClampNeg x1)) <| fun mo_9 => gd (inb (Mo_n mo_9) 80) <| lt' (Mo_s_ht mo_9 (upd (Mo_ht mo_9) (Mo_n mo_9).toNatClampNeg x2)) <| fun mo_12 => l_Model_symbol_80 (fun mo_20 => gd (inb (Mo_n mo_20) 80) <| lt' (Mo_s_ex mo_20 (upd (Mo_ex mo_20) (Mo_n mo_20).toNatClampNeg (vp_nar .boolean 0))) <| fun mo_22 => gd (inb (Mo_n mo_22) 80) <| lt' (Mo_s_bs mo_22 (upd (Mo_bs mo_22) (Mo_n mo_22).toNatClampNeg (-1))) <| fun mo_25 => gd (inb (Mo_n mo_25) 80) <| lt' (Mo_s_dx mo_25 (upd (Mo_dx mo_25) (Mo_n mo_25).toNatClampNeg 0)) <| fun mo_28 => gd (inb (Mo_n mo_28) 80) <| lt' (Mo_s_dy mo_28 (upd (Mo_dy mo_28) (Mo_n mo_28).toNatClampNeg 0)) <| fun mo_31 => lt' (Mo_s_n mo_31 ((Mo_n mo_31) + 1)) <| fun mo_33 => some ((Mo_n mo_33) - 1, mo_33)) 100000 mo_12 0 else some (0, mo_6))
def j_Model_symbol_25_2 (mo : Mo) (x1 : Int32) (x2 : Int32) (z0_1 : Int32) : Option (Int32 × Mo) := (if z0_1 = 0 then j_Model_symbol_49_4 mo x1 x2 1 else (if (Mo_n mo) = 40 then j_Model_symbol_49_4 mo x1 x2 2 else j_Model_symbol_49_4 mo x1 x2 0))
def f_Model_symbol (mo : Mo) (x1 : Int32) (x2 : Int32) : Option (Int32 × Mo) := (if x1 ≤ 0 then j_Model_symbol_25_2 mo x1 x2 0 else (if 16 < x1 then j_Model_symbol_25_2 mo x1 x2 0 else (if x2 ≤ 0 then j_Model_symbol_25_2 mo x1 x2 0 else (if 16 < x2 then j_Model_symbol_25_2 mo x1 x2 0 else j_Model_symbol_25_2 mo x1 x2 1))))
section
variable {p : Program} {l : Launch} {e : Env} {R : Room} {s : State} {m : MethodId} {args : Array Value} {below : List Frame} {meth : Method} {c : Code} {Q : State → Prop} {A : Nat → Prop}
set_option maxHeartbeats 4000000 in
set_option maxRecDepth 100000 in
theorem L_Model_symbol_80 {cells slots : Nat} {dC : Nat → ClassId} {dI : Nat → Nat → Nat} {cI cZ cJ : ClassId} {mo_a : Nat → Nat} {k109 : Mo → Option (Int32 × Mo)} {res : Int32 × Mo} (C0 : cxt p c m s args R cells slots R_Model c_Model_symbol tb 5 (dC, dI) vwCl (TYS cI cZ cJ) A 1 21)
    (hk109 : ∀ (H : Heap) (locs : List Loc) (ls : Array Slot) (mo_14 : Mo), va_P (dC, dI) vwCl (wMo cI cZ cJ mo_a mo_14) H → va_D A (wMo cI cZ cJ mo_a mo_14) → va_S A s.heap H locs → lv_has ls 5 [(0, .ref (mo_a 0))] → k109 mo_14 = some res → W p l e R s m args below meth c H locs cells slots Q (F0 m 109 ls [])) :
    ∀ (n : Nat) (H : Heap) (locs : List Loc) (ls : Array Slot) (mo : Mo) (x4 : Int32), va_P (dC, dI) vwCl (wMo cI cZ cJ mo_a mo) H → va_D A (wMo cI cZ cJ mo_a mo) → va_S A s.heap H locs → lv_has ls 5 [(0, .ref (mo_a 0)), (4, .int x4)] → l_Model_symbol_80 k109 n mo x4 = some res → W p l e R s m args below meth c H locs cells slots Q (F0 m 80 ls []) := by
  obtain ⟨hx, hb, hml, hown, hts, hK, hA, hRf, hRl, hN, hRc⟩ := id C0
  intro n
  induction n with
  | zero =>
    intro H locs ls mo x4 hP hD hS hl hf
    exact absurd hf (by simp [l_Model_symbol_80])
  | succ n ih =>
    intro H locs ls mo x4 hP hD hS hl hf
    rw [l_Model_symbol_80] at hf
    refine lv_iload hx hb d_Model_symbol_80 (lv_at hl 1 rfl) ?_
    refine lv_bipush (v := 16) hx hb d_Model_symbol_82 (by decide) ?_
    refine lv_icmp_ge (tgt := 109) hx hb d_Model_symbol_84 (by decide) (fun c_15 => ?_) (fun c_15 => ?_)
    · rw [if_pos c_15] at hf
      exact hk109 _ _ _ mo hP hD hS (lv_sub hl [0] rfl) hf
    · rw [if_neg c_15] at hf
      refine lv_aload_n hx hb d_Model_symbol_87 rfl (lv_at hl 0 rfl) ?_
      refine va_get (D := (dC, dI)) (ci := 7) (v := .ref (mo_a 3)) (C := R_Model) (T := T_Model) (N := 27) hx hb hts in_Model hown hK hP 0 rfl rfl 5 (by decide) (hts _ t_829) (fun _ h9 => h9) rfl d_Model_symbol_88 ?_
      refine lv_bipush (v := 16) hx hb d_Model_symbol_91 (by decide) ?_
      refine lv_aload_n hx hb d_Model_symbol_93 rfl (lv_at hl 0 rfl) ?_
      refine va_get (D := (dC, dI)) (ci := 7) (v := .int (Mo_n mo)) (C := R_Model) (T := T_Model) (N := 27) hx hb hts in_Model hown hK hP 0 rfl rfl 2 (by decide) (hts _ t_826) (fun _ h9 => h9) rfl d_Model_symbol_94 ?_
      refine lv_imul hx hb d_Model_symbol_97 ?_
      refine lv_iload hx hb d_Model_symbol_98 (lv_at hl 1 rfl) ?_
      refine lv_iadd hx hb d_Model_symbol_100 ?_
      refine lv_iconst (v := 0) hx hb d_Model_symbol_101 (by decide) ?_
      obtain ⟨h_16, hf⟩ := gd_ex hf
      refine va_iast (f := Mo_rw mo) hx hb hK hP hD hS 3 0 rfl rfl (inb_in h_16) d_Model_symbol_102 (fun H locs hP hD hS => ?_)
      obtain ⟨mo_17, emo_17, hf⟩ := lt_ex hf
      try dsimp only at hf
      have hP : va_P (dC, dI) vwCl (wMo cI cZ cJ mo_a mo_17) H := by rw [emo_17]; exact hP
      have hD : va_D A (wMo cI cZ cJ mo_a mo_17) := by rw [emo_17]; exact hD
      obtain ⟨x4_19, ex4_19, hf⟩ := lt_ex hf
      try dsimp only at hf
      refine lv_iinc (v := x4_19) (lv' := [(4, .int x4_19), (0, .ref (mo_a 0))]) hx hb d_Model_symbol_103 hl (k := 1) rfl (by rw [ex4_19]; rfl) (by decide) rfl (fun ls hl => ?_)
      refine lv_goto (tgt := 80) hx hb d_Model_symbol_106 (by decide) ?_
      exact ih _ _ _ mo_17 x4_19 hP hD hS (lv_sub hl [1, 0] rfl) hf
set_option maxHeartbeats 4000000 in
set_option maxRecDepth 100000 in
theorem B_Model_symbol {cells slots : Nat} {dC : Nat → ClassId} {dI : Nat → Nat → Nat} {cI cZ cJ : ClassId} {mo_a : Nat → Nat} {mo : Mo} {x1 : Int32} {x2 : Int32} {res : Int32 × Mo} (C0 : cxt p c m s args R cells slots R_Model c_Model_symbol tb 5 (dC, dI) vwCl (TYS cI cZ cJ) A 1 21)
    (hr56 : ∀ (H : Heap) (locs : List Loc) (ls : Array Slot) (v : Int32) (mo' : Mo), va_P (dC, dI) vwCl (wMo cI cZ cJ mo_a mo') H → va_D A (wMo cI cZ cJ mo_a mo') → va_S A s.heap H locs → some (v, mo') = some res → W p l e R s m args below meth c H locs cells slots Q (F0 m 56 ls [.int v]))
    (hr165 : ∀ (H : Heap) (locs : List Loc) (ls : Array Slot) (v : Int32) (mo' : Mo), va_P (dC, dI) vwCl (wMo cI cZ cJ mo_a mo') H → va_D A (wMo cI cZ cJ mo_a mo') → va_S A s.heap H locs → some (v, mo') = some res → W p l e R s m args below meth c H locs cells slots Q (F0 m 165 ls [.int v]))
    {H : Heap} {locs : List Loc} {ls : Array Slot} (hP : va_P (dC, dI) vwCl (wMo cI cZ cJ mo_a mo) H) (hD : va_D A (wMo cI cZ cJ mo_a mo)) (hS : va_S A s.heap H locs) (hl : lv_has ls 5 [(0, .ref (mo_a 0)), (1, .int x1), (2, .int x2)]) (hf : f_Model_symbol mo x1 x2 = some res) : W p l e R s m args below meth c H locs cells slots Q (F0 m 0 ls []) := by
  obtain ⟨hx, hb, hml, hown, hts, hK, hA, hRf, hRl, hN, hRc⟩ := id C0
  rw [f_Model_symbol] at hf
  refine lv_iload_n hx hb d_Model_symbol_0 rfl (lv_at hl 1 rfl) ?_
  have J25_1 : ∀ (H : Heap) (locs : List Loc) (ls : Array Slot) (z0_1 : Int32), va_P (dC, dI) vwCl (wMo cI cZ cJ mo_a mo) H → va_D A (wMo cI cZ cJ mo_a mo) → va_S A s.heap H locs → lv_has ls 5 [(0, .ref (mo_a 0)), (1, .int x1), (2, .int x2)] → j_Model_symbol_25_2 mo x1 x2 z0_1 = some res → W p l e R s m args below meth c H locs cells slots Q (F0 m 25 ls [.int z0_1]) := by
    intro H locs ls z0_1 hP hD hS hl hf
    rw [j_Model_symbol_25_2] at hf
    refine lv_istore_n (lv' := [(3, .int z0_1), (0, .ref (mo_a 0)), (1, .int x1), (2, .int x2)]) hx hb d_Model_symbol_25 rfl hl (by decide) rfl (fun ls hl => ?_)
    refine lv_aload_n hx hb d_Model_symbol_26 rfl (lv_at hl 1 rfl) ?_
    refine lv_iload_n hx hb d_Model_symbol_27 rfl (lv_at hl 0 rfl) ?_
    have J49_3 : ∀ (H : Heap) (locs : List Loc) (ls : Array Slot) (z0_3 : Int32), va_P (dC, dI) vwCl (wMo cI cZ cJ mo_a mo) H → va_D A (wMo cI cZ cJ mo_a mo) → va_S A s.heap H locs → lv_has ls 5 [(0, .ref (mo_a 0)), (1, .int x1), (2, .int x2)] → j_Model_symbol_49_4 mo x1 x2 z0_3 = some res → W p l e R s m args below meth c H locs cells slots Q (F0 m 49 ls [.int z0_3, .ref (mo_a 0)]) := by
      intro H locs ls z0_3 hP hD hS hl hf
      rw [j_Model_symbol_49_4] at hf
      obtain ⟨⟨r_5, mo_6⟩, hf1, hf⟩ := bd_ex hf
      try dsimp only at hf
      have hPc := hP.sub (ws' := (wMo cI cZ cJ mo_a mo)) [0, 1, 2, 3, 4, 5, 6, 7, 8, 9, 10, 11, 12, 13, 14, 15] rfl
      have hDc := hD.sub (ws' := (wMo cI cZ cJ mo_a mo)) [0, 1, 2, 3, 4, 5, 6, 7, 8, 9, 10, 11, 12, 13, 14, 15] (by decide) rfl
      have hFc := va_free (wc := (wMo cI cZ cJ mo_a mo)) hD hS hA [0, 1, 2, 3, 4, 5, 6, 7, 8, 9, 10, 11, 12, 13, 14, 15] rfl
      refine va_calli (va_runV (As := [.int z0_3]) (rest := []) ⟨hx, hb, hml, hown, hts⟩ (k_Model_refuses l dC dI cI cZ cJ mo_a H.size hf1) (cwV 1 hts (gV t_914 t_916 t_23 t_63 t_917) rfl rfl rfl hd_Model_refuses ⟨Nat.le_trans (Nat.le_of_ble_eq_true rfl) hRf, Nat.le_trans (Nat.le_of_ble_eq_true rfl) hRl⟩) ⟨kP_blind, va_recv hK hP (ci := 7) (q0 := 0) rfl rfl, kP_at hPc hK hDc hN⟩ rfl rfl hl.1 rfl (lv_room (Nat.le_of_ble_eq_true rfl)) d_Model_symbol_49 hRc) hS (fun q _ h => hFc q h) hFc (fun r9 u t H1 locs ht hvm hw hB hz1 hk1 hS => ?_)
      rw [hw.1]
      obtain ⟨hP, hD⟩ := kQ_join (wr := ([] : va_W)) (w1 := (wMo cI cZ cJ mo_a mo_6)) hP hD [0, 1, 2, 3, 4, 5, 6, 7, 8, 9, 10, 11, 12, 13, 14, 15] [] rfl rfl (by decide) (by decide) ht hk1 hFc hB
      generalize H1 = H at hP hS ⊢
      have hP : va_P (dC, dI) vwCl (wMo cI cZ cJ mo_a mo_6) H := hP.sub [0, 1, 2, 3, 4, 5, 6, 7, 8, 9, 10, 11, 12, 13, 14, 15] rfl
      have hD : va_D A (wMo cI cZ cJ mo_a mo_6) := hD.sub [0, 1, 2, 3, 4, 5, 6, 7, 8, 9, 10, 11, 12, 13, 14, 15] (by decide) rfl
      refine lv_if_eq (tgt := 57) hx hb d_Model_symbol_52 (by decide) (fun c_7 => ?_) (fun c_7 => ?_)
      · rw [if_pos c_7] at hf
        refine lv_aload_n hx hb d_Model_symbol_57 rfl (lv_at hl 0 rfl) ?_
        refine va_get (D := (dC, dI)) (ci := 7) (v := .ref (mo_a 1)) (C := R_Model) (T := T_Model) (N := 27) hx hb hts in_Model hown hK hP 0 rfl rfl 3 (by decide) (hts _ t_827) (fun _ h9 => h9) rfl d_Model_symbol_58 ?_
        refine lv_aload_n hx hb d_Model_symbol_61 rfl (lv_at hl 0 rfl) ?_
        refine va_get (D := (dC, dI)) (ci := 7) (v := .int (Mo_n mo_6)) (C := R_Model) (T := T_Model) (N := 27) hx hb hts in_Model hown hK hP 0 rfl rfl 2 (by decide) (hts _ t_826) (fun _ h9 => h9) rfl d_Model_symbol_62 ?_
        refine lv_iload_n hx hb d_Model_symbol_65 rfl (lv_at hl 1 rfl) ?_
        obtain ⟨h_8, hf⟩ := gd_ex hf
        refine va_iast (f := Mo_wd mo_6) hx hb hK hP hD hS 1 0 rfl rfl (inb_in h_8) d_Model_symbol_66 (fun H locs hP hD hS => ?_)
        obtain ⟨mo_9, emo_9, hf⟩ := lt_ex hf
        try dsimp only at hf
        have hP : va_P (dC, dI) vwCl (wMo cI cZ cJ mo_a mo_9) H := by rw [emo_9]; exact hP
        have hD : va_D A (wMo cI cZ cJ mo_a mo_9) := by rw [emo_9]; exact hD
        refine lv_aload_n hx hb d_Model_symbol_67 rfl (lv_at hl 0 rfl) ?_
        refine va_get (D := (dC, dI)) (ci := 7) (v := .ref (mo_a 2)) (C := R_Model) (T := T_Model) (N := 27) hx hb hts in_Model hown hK hP 0 rfl rfl 4 (by decide) (hts _ t_828) (fun _ h9 => h9) rfl d_Model_symbol_68 ?_
        refine lv_aload_n hx hb d_Model_symbol_71 rfl (lv_at hl 0 rfl) ?_
        refine va_get (D := (dC, dI)) (ci := 7) (v := .int (Mo_n mo_9)) (C := R_Model) (T := T_Model) (N := 27) hx hb hts in_Model hown hK hP 0 rfl rfl 2 (by decide) (hts _ t_826) (fun _ h9 => h9) rfl d_Model_symbol_72 ?_
        refine lv_iload_n hx hb d_Model_symbol_75 rfl (lv_at hl 2 rfl) ?_
        obtain ⟨h_11, hf⟩ := gd_ex hf
        refine va_iast (f := Mo_ht mo_9) hx hb hK hP hD hS 2 0 rfl rfl (inb_in h_11) d_Model_symbol_76 (fun H locs hP hD hS => ?_)
        obtain ⟨mo_12, emo_12, hf⟩ := lt_ex hf
        try dsimp only at hf
        have hP : va_P (dC, dI) vwCl (wMo cI cZ cJ mo_a mo_12) H := by rw [emo_12]; exact hP
        have hD : va_D A (wMo cI cZ cJ mo_a mo_12) := by rw [emo_12]; exact hD
        refine lv_iconst (v := 0) hx hb d_Model_symbol_77 (by decide) ?_
        refine lv_istore (lv' := [(4, .int 0), (0, .ref (mo_a 0)), (1, .int x1), (2, .int x2)]) hx hb d_Model_symbol_78 hl (by decide) rfl (fun ls hl => ?_)
        refine L_Model_symbol_80 C0 (fun H locs ls mo_20 hP hD hS hl hf => ?_) 100000 _ _ _ mo_12 0 hP hD hS (lv_sub hl [1, 0] rfl) hf
        try dsimp only at hf
        refine lv_aload_n hx hb d_Model_symbol_109 rfl (lv_at hl 0 rfl) ?_
        refine va_get (D := (dC, dI)) (ci := 7) (v := .ref (mo_a 4)) (C := R_Model) (T := T_Model) (N := 27) hx hb hts in_Model hown hK hP 0 rfl rfl 6 (by decide) (hts _ t_830) (fun _ h9 => h9) rfl d_Model_symbol_110 ?_
        refine lv_aload_n hx hb d_Model_symbol_113 rfl (lv_at hl 0 rfl) ?_
        refine va_get (D := (dC, dI)) (ci := 7) (v := .int (Mo_n mo_20)) (C := R_Model) (T := T_Model) (N := 27) hx hb hts in_Model hown hK hP 0 rfl rfl 2 (by decide) (hts _ t_826) (fun _ h9 => h9) rfl d_Model_symbol_114 ?_
        refine lv_iconst (v := 0) hx hb d_Model_symbol_117 (by decide) ?_
        obtain ⟨h_21, hf⟩ := gd_ex hf
        refine va_zast (f := Mo_ex mo_20) hx hb hK hP hD hS 4 1 rfl rfl (inb_in h_21) d_Model_symbol_118 (fun H locs hP hD hS => ?_)
        obtain ⟨mo_22, emo_22, hf⟩ := lt_ex hf
        try dsimp only at hf
        have hP : va_P (dC, dI) vwCl (wMo cI cZ cJ mo_a mo_22) H := by rw [emo_22]; exact hP
        have hD : va_D A (wMo cI cZ cJ mo_a mo_22) := by rw [emo_22]; exact hD
        refine lv_aload_n hx hb d_Model_symbol_119 rfl (lv_at hl 0 rfl) ?_
        refine va_get (D := (dC, dI)) (ci := 7) (v := .ref (mo_a 5)) (C := R_Model) (T := T_Model) (N := 27) hx hb hts in_Model hown hK hP 0 rfl rfl 7 (by decide) (hts _ t_831) (fun _ h9 => h9) rfl d_Model_symbol_120 ?_
        refine lv_aload_n hx hb d_Model_symbol_123 rfl (lv_at hl 0 rfl) ?_
        refine va_get (D := (dC, dI)) (ci := 7) (v := .int (Mo_n mo_22)) (C := R_Model) (T := T_Model) (N := 27) hx hb hts in_Model hown hK hP 0 rfl rfl 2 (by decide) (hts _ t_826) (fun _ h9 => h9) rfl d_Model_symbol_124 ?_
        refine lv_iconst (v := (-1)) hx hb d_Model_symbol_127 (by decide) ?_
        obtain ⟨h_24, hf⟩ := gd_ex hf
        refine va_iast (f := Mo_bs mo_22) hx hb hK hP hD hS 5 0 rfl rfl (inb_in h_24) d_Model_symbol_128 (fun H locs hP hD hS => ?_)
        obtain ⟨mo_25, emo_25, hf⟩ := lt_ex hf
        try dsimp only at hf
        have hP : va_P (dC, dI) vwCl (wMo cI cZ cJ mo_a mo_25) H := by rw [emo_25]; exact hP
        have hD : va_D A (wMo cI cZ cJ mo_a mo_25) := by rw [emo_25]; exact hD
        refine lv_aload_n hx hb d_Model_symbol_129 rfl (lv_at hl 0 rfl) ?_
        refine va_get (D := (dC, dI)) (ci := 7) (v := .ref (mo_a 6)) (C := R_Model) (T := T_Model) (N := 27) hx hb hts in_Model hown hK hP 0 rfl rfl 8 (by decide) (hts _ t_832) (fun _ h9 => h9) rfl d_Model_symbol_130 ?_
        refine lv_aload_n hx hb d_Model_symbol_133 rfl (lv_at hl 0 rfl) ?_
        refine va_get (D := (dC, dI)) (ci := 7) (v := .int (Mo_n mo_25)) (C := R_Model) (T := T_Model) (N := 27) hx hb hts in_Model hown hK hP 0 rfl rfl 2 (by decide) (hts _ t_826) (fun _ h9 => h9) rfl d_Model_symbol_134 ?_
        refine lv_iconst (v := 0) hx hb d_Model_symbol_137 (by decide) ?_
        obtain ⟨h_27, hf⟩ := gd_ex hf
        refine va_iast (f := Mo_dx mo_25) hx hb hK hP hD hS 6 0 rfl rfl (inb_in h_27) d_Model_symbol_138 (fun H locs hP hD hS => ?_)
        obtain ⟨mo_28, emo_28, hf⟩ := lt_ex hf
        try dsimp only at hf
        have hP : va_P (dC, dI) vwCl (wMo cI cZ cJ mo_a mo_28) H := by rw [emo_28]; exact hP
        have hD : va_D A (wMo cI cZ cJ mo_a mo_28) := by rw [emo_28]; exact hD
        refine lv_aload_n hx hb d_Model_symbol_139 rfl (lv_at hl 0 rfl) ?_
        refine va_get (D := (dC, dI)) (ci := 7) (v := .ref (mo_a 7)) (C := R_Model) (T := T_Model) (N := 27) hx hb hts in_Model hown hK hP 0 rfl rfl 9 (by decide) (hts _ t_833) (fun _ h9 => h9) rfl d_Model_symbol_140 ?_
        refine lv_aload_n hx hb d_Model_symbol_143 rfl (lv_at hl 0 rfl) ?_
        refine va_get (D := (dC, dI)) (ci := 7) (v := .int (Mo_n mo_28)) (C := R_Model) (T := T_Model) (N := 27) hx hb hts in_Model hown hK hP 0 rfl rfl 2 (by decide) (hts _ t_826) (fun _ h9 => h9) rfl d_Model_symbol_144 ?_
        refine lv_iconst (v := 0) hx hb d_Model_symbol_147 (by decide) ?_
        obtain ⟨h_30, hf⟩ := gd_ex hf
        refine va_iast (f := Mo_dy mo_28) hx hb hK hP hD hS 7 0 rfl rfl (inb_in h_30) d_Model_symbol_148 (fun H locs hP hD hS => ?_)
        obtain ⟨mo_31, emo_31, hf⟩ := lt_ex hf
        try dsimp only at hf
        have hP : va_P (dC, dI) vwCl (wMo cI cZ cJ mo_a mo_31) H := by rw [emo_31]; exact hP
        have hD : va_D A (wMo cI cZ cJ mo_a mo_31) := by rw [emo_31]; exact hD
        refine lv_aload_n hx hb d_Model_symbol_149 rfl (lv_at hl 0 rfl) ?_
        refine lv_dup hx hb d_Model_symbol_150 rfl ?_
        refine va_get (D := (dC, dI)) (ci := 7) (v := .int (Mo_n mo_31)) (C := R_Model) (T := T_Model) (N := 27) hx hb hts in_Model hown hK hP 0 rfl rfl 2 (by decide) (hts _ t_826) (fun _ h9 => h9) rfl d_Model_symbol_151 ?_
        refine lv_iconst (v := 1) hx hb d_Model_symbol_154 (by decide) ?_
        refine lv_iadd hx hb d_Model_symbol_155 ?_
        refine va_put (D := (dC, dI)) (ci := 7) (v := .int ((Mo_n mo_31) + 1)) (ty := .int) (C := R_Model) (T := T_Model) (N := 27) hx hb hts in_Model ty_Model tyok_Model nm_Model hown hK hP hD hS 0 rfl rfl 2 (by decide) (hts _ t_826) (fun _ h9 => h9) rfl (by decide +kernel) rfl rfl (Nat.le_of_ble_eq_true rfl) d_Model_symbol_156 (fun H locs hP hD hS => ?_)
        obtain ⟨mo_33, emo_33, hf⟩ := lt_ex hf
        try dsimp only at hf
        have hP : va_P (dC, dI) vwCl (wMo cI cZ cJ mo_a mo_33) H := by rw [emo_33]; exact hP
        have hD : va_D A (wMo cI cZ cJ mo_a mo_33) := by rw [emo_33]; exact hD
        refine lv_aload_n hx hb d_Model_symbol_159 rfl (lv_at hl 0 rfl) ?_
        refine va_get (D := (dC, dI)) (ci := 7) (v := .int (Mo_n mo_33)) (C := R_Model) (T := T_Model) (N := 27) hx hb hts in_Model hown hK hP 0 rfl rfl 2 (by decide) (hts _ t_826) (fun _ h9 => h9) rfl d_Model_symbol_160 ?_
        refine lv_iconst (v := 1) hx hb d_Model_symbol_163 (by decide) ?_
        refine lv_isub hx hb d_Model_symbol_164 ?_
        exact hr165 _ _ _ ((Mo_n mo_33) - 1) mo_33 hP hD hS hf
      · rw [if_neg c_7] at hf
        refine lv_iconst (v := 0) hx hb d_Model_symbol_55 (by decide) ?_
        exact hr56 _ _ _ 0 mo_6 hP hD hS hf
    refine lv_if_ne (tgt := 35) hx hb d_Model_symbol_28 (by decide) (fun c_35 => ?_) (fun c_35 => ?_)
    · rw [if_neg c_35] at hf
      refine lv_aload_n hx hb d_Model_symbol_35 rfl (lv_at hl 1 rfl) ?_
      refine va_get (D := (dC, dI)) (ci := 7) (v := .int (Mo_n mo)) (C := R_Model) (T := T_Model) (N := 27) hx hb hts in_Model hown hK hP 0 rfl rfl 2 (by decide) (hts _ t_826) (fun _ h9 => h9) rfl d_Model_symbol_36 ?_
      refine lv_bipush (v := 40) hx hb d_Model_symbol_39 (by decide) ?_
      refine lv_icmp_ne (tgt := 48) hx hb d_Model_symbol_41 (by decide) (fun c_36 => ?_) (fun c_36 => ?_)
      · rw [if_neg c_36] at hf
        refine lv_iconst (v := 0) hx hb d_Model_symbol_48 (by decide) ?_
        exact J49_3 _ _ _ 0 hP hD hS (lv_sub hl [1, 2, 3] rfl) hf
      · rw [if_pos c_36] at hf
        refine lv_iconst (v := 2) hx hb d_Model_symbol_44 (by decide) ?_
        refine lv_goto (tgt := 49) hx hb d_Model_symbol_45 (by decide) ?_
        exact J49_3 _ _ _ 2 hP hD hS (lv_sub hl [1, 2, 3] rfl) hf
    · rw [if_pos c_35] at hf
      refine lv_iconst (v := 1) hx hb d_Model_symbol_31 (by decide) ?_
      refine lv_goto (tgt := 49) hx hb d_Model_symbol_32 (by decide) ?_
      exact J49_3 _ _ _ 1 hP hD hS (lv_sub hl [1, 2, 3] rfl) hf
  refine lv_if_le (tgt := 24) hx hb d_Model_symbol_1 (by decide) (fun c_37 => ?_) (fun c_37 => ?_)
  · rw [if_pos c_37] at hf
    refine lv_iconst (v := 0) hx hb d_Model_symbol_24 (by decide) ?_
    exact J25_1 _ _ _ 0 hP hD hS (lv_sub hl [0, 1, 2] rfl) hf
  · rw [if_neg c_37] at hf
    refine lv_iload_n hx hb d_Model_symbol_4 rfl (lv_at hl 1 rfl) ?_
    refine lv_bipush (v := 16) hx hb d_Model_symbol_5 (by decide) ?_
    refine lv_icmp_gt (tgt := 24) hx hb d_Model_symbol_7 (by decide) (fun c_38 => ?_) (fun c_38 => ?_)
    · rw [if_pos c_38] at hf
      refine lv_iconst (v := 0) hx hb d_Model_symbol_24 (by decide) ?_
      exact J25_1 _ _ _ 0 hP hD hS (lv_sub hl [0, 1, 2] rfl) hf
    · rw [if_neg c_38] at hf
      refine lv_iload_n hx hb d_Model_symbol_10 rfl (lv_at hl 2 rfl) ?_
      refine lv_if_le (tgt := 24) hx hb d_Model_symbol_11 (by decide) (fun c_39 => ?_) (fun c_39 => ?_)
      · rw [if_pos c_39] at hf
        refine lv_iconst (v := 0) hx hb d_Model_symbol_24 (by decide) ?_
        exact J25_1 _ _ _ 0 hP hD hS (lv_sub hl [0, 1, 2] rfl) hf
      · rw [if_neg c_39] at hf
        refine lv_iload_n hx hb d_Model_symbol_14 rfl (lv_at hl 2 rfl) ?_
        refine lv_bipush (v := 16) hx hb d_Model_symbol_15 (by decide) ?_
        refine lv_icmp_gt (tgt := 24) hx hb d_Model_symbol_17 (by decide) (fun c_40 => ?_) (fun c_40 => ?_)
        · rw [if_pos c_40] at hf
          refine lv_iconst (v := 0) hx hb d_Model_symbol_24 (by decide) ?_
          exact J25_1 _ _ _ 0 hP hD hS (lv_sub hl [0, 1, 2] rfl) hf
        · rw [if_neg c_40] at hf
          refine lv_iconst (v := 1) hx hb d_Model_symbol_20 (by decide) ?_
          refine lv_goto (tgt := 25) hx hb d_Model_symbol_21 (by decide) ?_
          exact J25_1 _ _ _ 1 hP hD hS (lv_sub hl [0, 1, 2] rfl) hf
end
set_option maxHeartbeats 4000000 in
set_option maxRecDepth 100000 in
theorem k_Model_symbol (l : Launch) (dC : Nat → ClassId) (dI : Nat → Nat → Nat) (cI cZ cJ : ClassId) (mo_a : Nat → Nat) (sz : Nat) {mo : Mo} {x1 : Int32} {x2 : Int32} {r : Int32} {mo' : Mo} (hf : f_Model_symbol mo x1 x2 = some (r, mo')) :
    Met l y_Model_symbol ws_Model_symbol ({ frames := 1, cells := 0, slots := 0, locals := 21 }) (va_Pc [.ref (mo_a 0), .int x1, .int x2] (kP (dC, dI) vwCl (TYS cI cZ cJ) (wMo cI cZ cJ mo_a mo) sz)) (va_Qi (fun (q : Int32) (_ : Unit) => q = r) (fun _ t => kQ (dC, dI) vwCl (TYS cI cZ cJ) (wMo cI cZ cJ mo_a mo) sz (wMo cI cZ cJ mo_a mo') t) (va_A (wMo cI cZ cJ mo_a mo) sz)) 0 0 (va_A (wMo cI cZ cJ mo_a mo) sz) := by
  refine Met.ofW (cc := c_Model_symbol) (maxL := 5) (ret := (some .int)) (by decide) rfl ?_
  intro p e s m args below meth c s₁ B hml hv
  obtain ⟨rfl, hsz, hP, hK, hD0, hN⟩ := hv
  have hr := B.returns
  have hlocks := B.notSynchronized
  subst hsz
  have hD := hD0.self (sz := s.heap.size)
  have hl := lv_entry ([.ref (mo_a 0), .int x1, .int x2]) (n := 5) (Nat.le_of_ble_eq_true rfl)
  rw [lg_entry_eq]
  generalize (lg_sl ([.ref (mo_a 0), .int x1, .int x2]) ++ List.replicate (5 - (lg_sl ([.ref (mo_a 0), .int x1, .int x2])).length) Slot.unset).toArray = ls at hl ⊢
  refine B_Model_symbol (A := va_A (wMo cI cZ cJ mo_a mo) s.heap.size) ⟨B.exec, B.bytes, hml, findClass_of_methodNamed B.named, fun w h => atoms_spec (ws := ws_Model_symbol) B.pre w (List.mem_cons_of_mem _ h), hK, fun q h => Or.inr h, Nat.le_of_ble_eq_true rfl, Nat.le_of_ble_eq_true rfl, hN, Nat.le_of_ble_eq_true rfl, Nat.le_of_ble_eq_true rfl⟩ (fun H locs ls v mo'1 hP hD hS hf => ?_) (fun H locs ls v mo'1 hP hD hS hf => ?_) hP hD va_S.rf hl hf
  · cases hf
    exact W.iret B.exec B.bytes hr (fun t ht hW => ⟨⟨_, (), rfl, rfl, ⟨by rw [ht]; exact hP, va_K.moved hW.alike hK, hD⟩⟩, hS.F ht⟩) hS.2.2 d_Model_symbol_56
  · cases hf
    exact W.iret B.exec B.bytes hr (fun t ht hW => ⟨⟨_, (), rfl, rfl, ⟨by rw [ht]; exact hP, va_K.moved hW.alike hK, hD⟩⟩, hS.F ht⟩) hS.2.2 d_Model_symbol_165

/-! Model_isSample -/
def f_Model_isSample (mo : Mo) (x1 : Int32) (x2 : Int32) (x3 : Int32) : Option (Int32) := bd (f_Model_isSymbol mo x1) <| fun r_1 => (if r_1 = 0 then some 0 else (if x2 < 0 then some 0 else (if x3 < 0 then some 0 else gd (inb x1 80) <| (if (Mo_wd mo x1.toNatClampNeg) ≤ x2 then some 0 else gd (inb x1 80) <| (if (Mo_ht mo x1.toNatClampNeg) ≤ x3 then some 0 else some 1)))))
section
variable {p : Program} {l : Launch} {e : Env} {R : Room} {s : State} {m : MethodId} {args : Array Value} {below : List Frame} {meth : Method} {c : Code} {Q : State → Prop} {A : Nat → Prop}
set_option maxHeartbeats 4000000 in
set_option maxRecDepth 100000 in
theorem B_Model_isSample {cells slots : Nat} {dC : Nat → ClassId} {dI : Nat → Nat → Nat} {cI cZ cJ : ClassId} {mo_a : Nat → Nat} {mo : Mo} {x1 : Int32} {x2 : Int32} {x3 : Int32} {res : Int32} (C0 : cxt p c m s args R cells slots R_Model c_Model_isSample tb 4 (dC, dI) vwCl (TYS cI cZ cJ) A 1 21)
    (hr41 : ∀ (H : Heap) (locs : List Loc) (ls : Array Slot) (v : Int32), vp_nar .boolean v = v → va_P (dC, dI) vwCl (wMo cI cZ cJ mo_a mo) H → va_D A (wMo cI cZ cJ mo_a mo) → va_S A s.heap H locs → some v = some res → W p l e R s m args below meth c H locs cells slots Q (F0 m 41 ls [.int v]))
    {H : Heap} {locs : List Loc} {ls : Array Slot} (hP : va_P (dC, dI) vwCl (wMo cI cZ cJ mo_a mo) H) (hD : va_D A (wMo cI cZ cJ mo_a mo)) (hS : va_S A s.heap H locs) (hl : lv_has ls 4 [(0, .ref (mo_a 0)), (1, .int x1), (2, .int x2), (3, .int x3)]) (hf : f_Model_isSample mo x1 x2 x3 = some res) : W p l e R s m args below meth c H locs cells slots Q (F0 m 0 ls []) := by
  obtain ⟨hx, hb, hml, hown, hts, hK, hA, hRf, hRl, hN, hRc⟩ := id C0
  rw [f_Model_isSample] at hf
  refine lv_aload_n hx hb d_Model_isSample_0 rfl (lv_at hl 0 rfl) ?_
  refine lv_iload_n hx hb d_Model_isSample_1 rfl (lv_at hl 1 rfl) ?_
  obtain ⟨r_1, hf1, hf⟩ := bd_ex hf
  try dsimp only at hf
  have hPc := hP.sub (ws' := (wMo cI cZ cJ mo_a mo)) [0, 1, 2, 3, 4, 5, 6, 7, 8, 9, 10, 11, 12, 13, 14, 15] rfl
  have hDc := hD.sub (ws' := (wMo cI cZ cJ mo_a mo)) [0, 1, 2, 3, 4, 5, 6, 7, 8, 9, 10, 11, 12, 13, 14, 15] (by decide) rfl
  have hFc := va_free (wc := (wMo cI cZ cJ mo_a mo)) hD hS hA [0, 1, 2, 3, 4, 5, 6, 7, 8, 9, 10, 11, 12, 13, 14, 15] rfl
  refine va_calli (va_runV (As := [.int x1]) (rest := []) ⟨hx, hb, hml, hown, hts⟩ (k_Model_isSymbol l dC dI cI cZ cJ mo_a H.size hf1) (cwV 1 hts (gV t_926 t_928 t_25 t_63 t_929) rfl rfl rfl hd_Model_isSymbol ⟨Nat.le_trans (Nat.le_of_ble_eq_true rfl) hRf, Nat.le_trans (Nat.le_of_ble_eq_true rfl) hRl⟩) ⟨kP_blind, va_recv hK hP (ci := 7) (q0 := 0) rfl rfl, kP_at hPc hK hDc hN⟩ rfl rfl hl.1 rfl (lv_room (Nat.le_of_ble_eq_true rfl)) d_Model_isSample_2 hRc) hS (fun q _ h => hFc q h) hFc (fun r9 u t H1 locs ht hvm hw hB hz1 hk1 hS => ?_)
  rw [hw.1]
  obtain ⟨hP, hD⟩ := kQ_join (wr := ([] : va_W)) (w1 := (wMo cI cZ cJ mo_a mo)) hP hD [0, 1, 2, 3, 4, 5, 6, 7, 8, 9, 10, 11, 12, 13, 14, 15] [] rfl rfl (by decide) (by decide) ht hk1 hFc hB
  generalize H1 = H at hP hS ⊢
  have hP : va_P (dC, dI) vwCl (wMo cI cZ cJ mo_a mo) H := hP.sub [0, 1, 2, 3, 4, 5, 6, 7, 8, 9, 10, 11, 12, 13, 14, 15] rfl
  have hD : va_D A (wMo cI cZ cJ mo_a mo) := hD.sub [0, 1, 2, 3, 4, 5, 6, 7, 8, 9, 10, 11, 12, 13, 14, 15] (by decide) rfl
  refine lv_if_eq (tgt := 40) hx hb d_Model_isSample_5 (by decide) (fun c_2 => ?_) (fun c_2 => ?_)
  · rw [if_pos c_2] at hf
    refine lv_iconst (v := 0) hx hb d_Model_isSample_40 (by decide) ?_
    exact hr41 _ _ _ 0 (by decide) hP hD hS hf
  · rw [if_neg c_2] at hf
    refine lv_iload_n hx hb d_Model_isSample_8 rfl (lv_at hl 2 rfl) ?_
    refine lv_if_lt (tgt := 40) hx hb d_Model_isSample_9 (by decide) (fun c_3 => ?_) (fun c_3 => ?_)
    · rw [if_pos c_3] at hf
      refine lv_iconst (v := 0) hx hb d_Model_isSample_40 (by decide) ?_
      exact hr41 _ _ _ 0 (by decide) hP hD hS hf
    · rw [if_neg c_3] at hf
      refine lv_iload_n hx hb d_Model_isSample_12 rfl (lv_at hl 3 rfl) ?_
      refine lv_if_lt (tgt := 40) hx hb d_Model_isSample_13 (by decide) (fun c_4 => ?_) (fun c_4 => ?_)
      · rw [if_pos c_4] at hf
        refine lv_iconst (v := 0) hx hb d_Model_isSample_40 (by decide) ?_
        exact hr41 _ _ _ 0 (by decide) hP hD hS hf
      · rw [if_neg c_4] at hf
        refine lv_iload_n hx hb d_Model_isSample_16 rfl (lv_at hl 2 rfl) ?_
        refine lv_aload_n hx hb d_Model_isSample_17 rfl (lv_at hl 0 rfl) ?_
        refine va_get (D := (dC, dI)) (ci := 7) (v := .ref (mo_a 1)) (C := R_Model) (T := T_Model) (N := 27) hx hb hts in_Model hown hK hP 0 rfl rfl 3 (by decide) (hts _ t_827) (fun _ h9 => h9) rfl d_Model_isSample_18 ?_
        refine lv_iload_n hx hb d_Model_isSample_21 rfl (lv_at hl 1 rfl) ?_
        obtain ⟨h_5, hf⟩ := gd_ex hf
        refine va_iald (f := Mo_wd mo) hx hb hK hP 1 0 rfl rfl (inb_in h_5) d_Model_isSample_22 ?_
        refine lv_icmp_ge (tgt := 40) hx hb d_Model_isSample_23 (by decide) (fun c_6 => ?_) (fun c_6 => ?_)
        · rw [if_pos c_6] at hf
          refine lv_iconst (v := 0) hx hb d_Model_isSample_40 (by decide) ?_
          exact hr41 _ _ _ 0 (by decide) hP hD hS hf
        · rw [if_neg c_6] at hf
          refine lv_iload_n hx hb d_Model_isSample_26 rfl (lv_at hl 3 rfl) ?_
          refine lv_aload_n hx hb d_Model_isSample_27 rfl (lv_at hl 0 rfl) ?_
          refine va_get (D := (dC, dI)) (ci := 7) (v := .ref (mo_a 2)) (C := R_Model) (T := T_Model) (N := 27) hx hb hts in_Model hown hK hP 0 rfl rfl 4 (by decide) (hts _ t_828) (fun _ h9 => h9) rfl d_Model_isSample_28 ?_
          refine lv_iload_n hx hb d_Model_isSample_31 rfl (lv_at hl 1 rfl) ?_
          obtain ⟨h_7, hf⟩ := gd_ex hf
          refine va_iald (f := Mo_ht mo) hx hb hK hP 2 0 rfl rfl (inb_in h_7) d_Model_isSample_32 ?_
          refine lv_icmp_ge (tgt := 40) hx hb d_Model_isSample_33 (by decide) (fun c_8 => ?_) (fun c_8 => ?_)
          · rw [if_pos c_8] at hf
            refine lv_iconst (v := 0) hx hb d_Model_isSample_40 (by decide) ?_
            exact hr41 _ _ _ 0 (by decide) hP hD hS hf
          · rw [if_neg c_8] at hf
            refine lv_iconst (v := 1) hx hb d_Model_isSample_36 (by decide) ?_
            refine lv_goto (tgt := 41) hx hb d_Model_isSample_37 (by decide) ?_
            exact hr41 _ _ _ 1 (by decide) hP hD hS hf
end
set_option maxHeartbeats 4000000 in
set_option maxRecDepth 100000 in
theorem k_Model_isSample (l : Launch) (dC : Nat → ClassId) (dI : Nat → Nat → Nat) (cI cZ cJ : ClassId) (mo_a : Nat → Nat) (sz : Nat) {mo : Mo} {x1 : Int32} {x2 : Int32} {x3 : Int32} {r : Int32} (hf : f_Model_isSample mo x1 x2 x3 = some r) :
    Met l y_Model_isSample ws_Model_isSample ({ frames := 1, cells := 0, slots := 0, locals := 21 }) (va_Pc [.ref (mo_a 0), .int x1, .int x2, .int x3] (kP (dC, dI) vwCl (TYS cI cZ cJ) (wMo cI cZ cJ mo_a mo) sz)) (va_Qi (fun (q : Int32) (_ : Unit) => q = r ∧ vp_nar .boolean r = r) (fun _ t => kQ (dC, dI) vwCl (TYS cI cZ cJ) (wMo cI cZ cJ mo_a mo) sz (wMo cI cZ cJ mo_a mo) t) (va_A (wMo cI cZ cJ mo_a mo) sz)) 0 0 (va_A (wMo cI cZ cJ mo_a mo) sz) := by
  refine Met.ofW (cc := c_Model_isSample) (maxL := 4) (ret := (some .boolean)) (by decide) rfl ?_
  intro p e s m args below meth c s₁ B hml hv
  obtain ⟨rfl, hsz, hP, hK, hD0, hN⟩ := hv
  have hr := B.returns
  have hlocks := B.notSynchronized
  subst hsz
  have hD := hD0.self (sz := s.heap.size)
  have hl := lv_entry ([.ref (mo_a 0), .int x1, .int x2, .int x3]) (n := 4) (Nat.le_of_ble_eq_true rfl)
  rw [lg_entry_eq]
  generalize (lg_sl ([.ref (mo_a 0), .int x1, .int x2, .int x3]) ++ List.replicate (4 - (lg_sl ([.ref (mo_a 0), .int x1, .int x2, .int x3])).length) Slot.unset).toArray = ls at hl ⊢
  refine B_Model_isSample (A := va_A (wMo cI cZ cJ mo_a mo) s.heap.size) ⟨B.exec, B.bytes, hml, findClass_of_methodNamed B.named, fun w h => atoms_spec (ws := ws_Model_isSample) B.pre w (List.mem_cons_of_mem _ h), hK, fun q h => Or.inr h, Nat.le_of_ble_eq_true rfl, Nat.le_of_ble_eq_true rfl, hN, Nat.le_of_ble_eq_true rfl, Nat.le_of_ble_eq_true rfl⟩ (fun H locs ls v hz hP hD hS hf => ?_) hP hD va_S.rf hl hf
  · cases hf
    exact W.zret B.exec B.bytes hr (nz_n hz) (fun t ht hW => ⟨⟨_, (), rfl, ⟨rfl, hz⟩, ⟨by rw [ht]; exact hP, va_K.moved hW.alike hK, hD⟩⟩, hS.F ht⟩) hS.2.2 d_Model_isSample_41

/-! Model_sample -/
def j_Model_sample_33_2 (mo : Mo) (x1 : Int32) (x2 : Int32) (x3 : Int32) (z0_1 : Int32) : Option (Int32) := (if z0_1 = 0 then some 0 else gd (inb ((16 * x1) + x3) 1280) <| some (((Mo_rw mo ((16 * x1) + x3).toNatClampNeg) >>> (x2 &&& 31)) &&& 1))
def f_Model_sample (mo : Mo) (x1 : Int32) (x2 : Int32) (x3 : Int32) : Option (Int32) := (if x2 < 0 then j_Model_sample_33_2 mo x1 x2 x3 0 else (if x3 < 0 then j_Model_sample_33_2 mo x1 x2 x3 0 else gd (inb x1 80) <| (if (Mo_wd mo x1.toNatClampNeg) ≤ x2 then j_Model_sample_33_2 mo x1 x2 x3 0 else gd (inb x1 80) <| (if (Mo_ht mo x1.toNatClampNeg) ≤ x3 then j_Model_sample_33_2 mo x1 x2 x3 0 else j_Model_sample_33_2 mo x1 x2 x3 1))))
section
variable {p : Program} {l : Launch} {e : Env} {R : Room} {s : State} {m : MethodId} {args : Array Value} {below : List Frame} {meth : Method} {c : Code} {Q : State → Prop} {A : Nat → Prop}
set_option maxHeartbeats 4000000 in
set_option maxRecDepth 100000 in
theorem B_Model_sample {cells slots : Nat} {dC : Nat → ClassId} {dI : Nat → Nat → Nat} {cI cZ cJ : ClassId} {mo_a : Nat → Nat} {mo : Mo} {x1 : Int32} {x2 : Int32} {x3 : Int32} {res : Int32} (C0 : cxt p c m s args R cells slots R_Model c_Model_sample tb 5 (dC, dI) vwCl (TYS cI cZ cJ) A 0 0)
    (hr59 : ∀ (H : Heap) (locs : List Loc) (ls : Array Slot) (v : Int32), va_P (dC, dI) vwCl (wMo cI cZ cJ mo_a mo) H → va_D A (wMo cI cZ cJ mo_a mo) → va_S A s.heap H locs → some v = some res → W p l e R s m args below meth c H locs cells slots Q (F0 m 59 ls [.int v]))
    {H : Heap} {locs : List Loc} {ls : Array Slot} (hP : va_P (dC, dI) vwCl (wMo cI cZ cJ mo_a mo) H) (hD : va_D A (wMo cI cZ cJ mo_a mo)) (hS : va_S A s.heap H locs) (hl : lv_has ls 5 [(0, .ref (mo_a 0)), (1, .int x1), (2, .int x2), (3, .int x3)]) (hf : f_Model_sample mo x1 x2 x3 = some res) : W p l e R s m args below meth c H locs cells slots Q (F0 m 0 ls []) := by
  obtain ⟨hx, hb, hml, hown, hts, hK, hA, hRf, hRl, hN, hRc⟩ := id C0
  rw [f_Model_sample] at hf
  refine lv_iload_n hx hb d_Model_sample_0 rfl (lv_at hl 2 rfl) ?_
  have J33_1 : ∀ (H : Heap) (locs : List Loc) (ls : Array Slot) (z0_1 : Int32), va_P (dC, dI) vwCl (wMo cI cZ cJ mo_a mo) H → va_D A (wMo cI cZ cJ mo_a mo) → va_S A s.heap H locs → lv_has ls 5 [(0, .ref (mo_a 0)), (1, .int x1), (2, .int x2), (3, .int x3)] → j_Model_sample_33_2 mo x1 x2 x3 z0_1 = some res → W p l e R s m args below meth c H locs cells slots Q (F0 m 33 ls [.int z0_1]) := by
    intro H locs ls z0_1 hP hD hS hl hf
    rw [j_Model_sample_33_2] at hf
    refine lv_istore (lv' := [(4, .int z0_1), (0, .ref (mo_a 0)), (1, .int x1), (2, .int x2), (3, .int x3)]) hx hb d_Model_sample_33 hl (by decide) rfl (fun ls hl => ?_)
    refine lv_iload hx hb d_Model_sample_35 (lv_at hl 0 rfl) ?_
    refine lv_if_eq (tgt := 58) hx hb d_Model_sample_37 (by decide) (fun c_3 => ?_) (fun c_3 => ?_)
    · rw [if_pos c_3] at hf
      refine lv_iconst (v := 0) hx hb d_Model_sample_58 (by decide) ?_
      exact hr59 _ _ _ 0 hP hD hS hf
    · rw [if_neg c_3] at hf
      refine lv_aload_n hx hb d_Model_sample_40 rfl (lv_at hl 1 rfl) ?_
      refine va_get (D := (dC, dI)) (ci := 7) (v := .ref (mo_a 3)) (C := R_Model) (T := T_Model) (N := 27) hx hb hts in_Model hown hK hP 0 rfl rfl 5 (by decide) (hts _ t_829) (fun _ h9 => h9) rfl d_Model_sample_41 ?_
      refine lv_bipush (v := 16) hx hb d_Model_sample_44 (by decide) ?_
      refine lv_iload_n hx hb d_Model_sample_46 rfl (lv_at hl 2 rfl) ?_
      refine lv_imul hx hb d_Model_sample_47 ?_
      refine lv_iload_n hx hb d_Model_sample_48 rfl (lv_at hl 4 rfl) ?_
      refine lv_iadd hx hb d_Model_sample_49 ?_
      obtain ⟨h_4, hf⟩ := gd_ex hf
      refine va_iald (f := Mo_rw mo) hx hb hK hP 3 0 rfl rfl (inb_in h_4) d_Model_sample_50 ?_
      refine lv_iload_n hx hb d_Model_sample_51 rfl (lv_at hl 3 rfl) ?_
      refine lv_ishr hx hb d_Model_sample_52 ?_
      refine lv_iconst (v := 1) hx hb d_Model_sample_53 (by decide) ?_
      refine lv_iand hx hb d_Model_sample_54 ?_
      refine lv_goto (tgt := 59) hx hb d_Model_sample_55 (by decide) ?_
      exact hr59 _ _ _ (((Mo_rw mo ((16 * x1) + x3).toNatClampNeg) >>> (x2 &&& 31)) &&& 1) hP hD hS hf
  refine lv_if_lt (tgt := 32) hx hb d_Model_sample_1 (by decide) (fun c_5 => ?_) (fun c_5 => ?_)
  · rw [if_pos c_5] at hf
    refine lv_iconst (v := 0) hx hb d_Model_sample_32 (by decide) ?_
    exact J33_1 _ _ _ 0 hP hD hS (lv_sub hl [0, 1, 2, 3] rfl) hf
  · rw [if_neg c_5] at hf
    refine lv_iload_n hx hb d_Model_sample_4 rfl (lv_at hl 3 rfl) ?_
    refine lv_if_lt (tgt := 32) hx hb d_Model_sample_5 (by decide) (fun c_6 => ?_) (fun c_6 => ?_)
    · rw [if_pos c_6] at hf
      refine lv_iconst (v := 0) hx hb d_Model_sample_32 (by decide) ?_
      exact J33_1 _ _ _ 0 hP hD hS (lv_sub hl [0, 1, 2, 3] rfl) hf
    · rw [if_neg c_6] at hf
      refine lv_iload_n hx hb d_Model_sample_8 rfl (lv_at hl 2 rfl) ?_
      refine lv_aload_n hx hb d_Model_sample_9 rfl (lv_at hl 0 rfl) ?_
      refine va_get (D := (dC, dI)) (ci := 7) (v := .ref (mo_a 1)) (C := R_Model) (T := T_Model) (N := 27) hx hb hts in_Model hown hK hP 0 rfl rfl 3 (by decide) (hts _ t_827) (fun _ h9 => h9) rfl d_Model_sample_10 ?_
      refine lv_iload_n hx hb d_Model_sample_13 rfl (lv_at hl 1 rfl) ?_
      obtain ⟨h_7, hf⟩ := gd_ex hf
      refine va_iald (f := Mo_wd mo) hx hb hK hP 1 0 rfl rfl (inb_in h_7) d_Model_sample_14 ?_
      refine lv_icmp_ge (tgt := 32) hx hb d_Model_sample_15 (by decide) (fun c_8 => ?_) (fun c_8 => ?_)
      · rw [if_pos c_8] at hf
        refine lv_iconst (v := 0) hx hb d_Model_sample_32 (by decide) ?_
        exact J33_1 _ _ _ 0 hP hD hS (lv_sub hl [0, 1, 2, 3] rfl) hf
      · rw [if_neg c_8] at hf
        refine lv_iload_n hx hb d_Model_sample_18 rfl (lv_at hl 3 rfl) ?_
        refine lv_aload_n hx hb d_Model_sample_19 rfl (lv_at hl 0 rfl) ?_
        refine va_get (D := (dC, dI)) (ci := 7) (v := .ref (mo_a 2)) (C := R_Model) (T := T_Model) (N := 27) hx hb hts in_Model hown hK hP 0 rfl rfl 4 (by decide) (hts _ t_828) (fun _ h9 => h9) rfl d_Model_sample_20 ?_
        refine lv_iload_n hx hb d_Model_sample_23 rfl (lv_at hl 1 rfl) ?_
        obtain ⟨h_9, hf⟩ := gd_ex hf
        refine va_iald (f := Mo_ht mo) hx hb hK hP 2 0 rfl rfl (inb_in h_9) d_Model_sample_24 ?_
        refine lv_icmp_ge (tgt := 32) hx hb d_Model_sample_25 (by decide) (fun c_10 => ?_) (fun c_10 => ?_)
        · rw [if_pos c_10] at hf
          refine lv_iconst (v := 0) hx hb d_Model_sample_32 (by decide) ?_
          exact J33_1 _ _ _ 0 hP hD hS (lv_sub hl [0, 1, 2, 3] rfl) hf
        · rw [if_neg c_10] at hf
          refine lv_iconst (v := 1) hx hb d_Model_sample_28 (by decide) ?_
          refine lv_goto (tgt := 33) hx hb d_Model_sample_29 (by decide) ?_
          exact J33_1 _ _ _ 1 hP hD hS (lv_sub hl [0, 1, 2, 3] rfl) hf
end
set_option maxHeartbeats 4000000 in
set_option maxRecDepth 100000 in
theorem k_Model_sample (l : Launch) (dC : Nat → ClassId) (dI : Nat → Nat → Nat) (cI cZ cJ : ClassId) (mo_a : Nat → Nat) (sz : Nat) {mo : Mo} {x1 : Int32} {x2 : Int32} {x3 : Int32} {r : Int32} (hf : f_Model_sample mo x1 x2 x3 = some r) :
    Met l y_Model_sample ws_Model_sample ({ frames := 0, cells := 0, slots := 0, locals := 0 }) (va_Pc [.ref (mo_a 0), .int x1, .int x2, .int x3] (kP (dC, dI) vwCl (TYS cI cZ cJ) (wMo cI cZ cJ mo_a mo) sz)) (va_Qi (fun (q : Int32) (_ : Unit) => q = r) (fun _ t => kQ (dC, dI) vwCl (TYS cI cZ cJ) (wMo cI cZ cJ mo_a mo) sz (wMo cI cZ cJ mo_a mo) t) (va_A (wMo cI cZ cJ mo_a mo) sz)) 0 0 (va_A (wMo cI cZ cJ mo_a mo) sz) := by
  refine Met.ofW (cc := c_Model_sample) (maxL := 5) (ret := (some .int)) (by decide) rfl ?_
  intro p e s m args below meth c s₁ B hml hv
  obtain ⟨rfl, hsz, hP, hK, hD0, hN⟩ := hv
  have hr := B.returns
  have hlocks := B.notSynchronized
  subst hsz
  have hD := hD0.self (sz := s.heap.size)
  have hl := lv_entry ([.ref (mo_a 0), .int x1, .int x2, .int x3]) (n := 5) (Nat.le_of_ble_eq_true rfl)
  rw [lg_entry_eq]
  generalize (lg_sl ([.ref (mo_a 0), .int x1, .int x2, .int x3]) ++ List.replicate (5 - (lg_sl ([.ref (mo_a 0), .int x1, .int x2, .int x3])).length) Slot.unset).toArray = ls at hl ⊢
  refine B_Model_sample (A := va_A (wMo cI cZ cJ mo_a mo) s.heap.size) ⟨B.exec, B.bytes, hml, findClass_of_methodNamed B.named, fun w h => atoms_spec (ws := ws_Model_sample) B.pre w (List.mem_cons_of_mem _ h), hK, fun q h => Or.inr h, Nat.le_of_ble_eq_true rfl, Nat.le_of_ble_eq_true rfl, hN, Nat.le_of_ble_eq_true rfl, Nat.le_of_ble_eq_true rfl⟩ (fun H locs ls v hP hD hS hf => ?_) hP hD va_S.rf hl hf
  · cases hf
    exact W.iret B.exec B.bytes hr (fun t ht hW => ⟨⟨_, (), rfl, rfl, ⟨by rw [ht]; exact hP, va_K.moved hW.alike hK, hD⟩⟩, hS.F ht⟩) hS.2.2 d_Model_sample_59

/-! Model_ones -/
def l_Model_ones_4 (x0 : Int32) (k24 : Int32 → Option (Int32)) : Nat → Int32 → Int32 → Option (Int32)
  | 0, _, _ => none
  | n + 1, x1, x2 => (if 16 ≤ x2 then k24 x1 else lt' (x1 + ((x0 >>> (x2 &&& 31)) &&& 1)) <| fun x1_3 => lt' (x2 + 1) <| fun x2_4 => (l_Model_ones_4 x0 k24 n) x1_3 x2_4)
def f_Model_ones (x0 : Int32) : Option (Int32) := l_Model_ones_4 x0 (fun x1_5 => some x1_5) 100000 0 0
section
variable {p : Program} {l : Launch} {e : Env} {R : Room} {s : State} {m : MethodId} {args : Array Value} {below : List Frame} {meth : Method} {c : Code} {Q : State → Prop} {A : Nat → Prop}
set_option maxHeartbeats 4000000 in
set_option maxRecDepth 100000 in
theorem L_Model_ones_4 {cells slots : Nat} {dC : Nat → ClassId} {dI : Nat → Nat → Nat} {cI cZ cJ : ClassId} {x0 : Int32} {k24 : Int32 → Option (Int32)} {res : Int32} (C0 : cxt p c m s args R cells slots R_Model c_Model_ones tb 3 (dC, dI) vwCl (TYS cI cZ cJ) A 0 0)
    (hk24 : ∀ (H : Heap) (locs : List Loc) (ls : Array Slot) (x1_1 : Int32), va_P (dC, dI) vwCl ([] : va_W) H → va_D A ([] : va_W) → va_S A s.heap H locs → lv_has ls 3 [(1, .int x1_1)] → k24 x1_1 = some res → W p l e R s m args below meth c H locs cells slots Q (F0 m 24 ls [])) :
    ∀ (n : Nat) (H : Heap) (locs : List Loc) (ls : Array Slot) (x1 : Int32) (x2 : Int32), va_P (dC, dI) vwCl ([] : va_W) H → va_D A ([] : va_W) → va_S A s.heap H locs → lv_has ls 3 [(0, .int x0), (1, .int x1), (2, .int x2)] → l_Model_ones_4 x0 k24 n x1 x2 = some res → W p l e R s m args below meth c H locs cells slots Q (F0 m 4 ls []) := by
  obtain ⟨hx, hb, hml, hown, hts, hK, hA, hRf, hRl, hN, hRc⟩ := id C0
  intro n
  induction n with
  | zero =>
    intro H locs ls x1 x2 hP hD hS hl hf
    exact absurd hf (by simp [l_Model_ones_4])
  | succ n ih =>
    intro H locs ls x1 x2 hP hD hS hl hf
    rw [l_Model_ones_4] at hf
    refine lv_iload_n hx hb d_Model_ones_4 rfl (lv_at hl 2 rfl) ?_
    refine lv_bipush (v := 16) hx hb d_Model_ones_5 (by decide) ?_
    refine lv_icmp_ge (tgt := 24) hx hb d_Model_ones_7 (by decide) (fun c_2 => ?_) (fun c_2 => ?_)
    · rw [if_pos c_2] at hf
      exact hk24 _ _ _ x1 hP hD hS (lv_sub hl [1] rfl) hf
    · rw [if_neg c_2] at hf
      refine lv_iload_n hx hb d_Model_ones_10 rfl (lv_at hl 1 rfl) ?_
      refine lv_iload_n hx hb d_Model_ones_11 rfl (lv_at hl 0 rfl) ?_
      refine lv_iload_n hx hb d_Model_ones_12 rfl (lv_at hl 2 rfl) ?_
      refine lv_ishr hx hb d_Model_ones_13 ?_
      refine lv_iconst (v := 1) hx hb d_Model_ones_14 (by decide) ?_
      refine lv_iand hx hb d_Model_ones_15 ?_
      refine lv_iadd hx hb d_Model_ones_16 ?_
      obtain ⟨x1_3, ex1_3, hf⟩ := lt_ex hf
      try dsimp only at hf
      refine tp_i ex1_3 ?_
      refine lv_istore_n (lv' := [(1, .int x1_3), (0, .int x0), (2, .int x2)]) hx hb d_Model_ones_17 rfl hl (by decide) rfl (fun ls hl => ?_)
      obtain ⟨x2_4, ex2_4, hf⟩ := lt_ex hf
      try dsimp only at hf
      refine lv_iinc (v := x2_4) (lv' := [(2, .int x2_4), (1, .int x1_3), (0, .int x0)]) hx hb d_Model_ones_18 hl (k := 2) rfl (by rw [ex2_4]; rfl) (by decide) rfl (fun ls hl => ?_)
      refine lv_goto (tgt := 4) hx hb d_Model_ones_21 (by decide) ?_
      exact ih _ _ _ x1_3 x2_4 hP hD hS (lv_sub hl [2, 1, 0] rfl) hf
set_option maxHeartbeats 4000000 in
set_option maxRecDepth 100000 in
theorem B_Model_ones {cells slots : Nat} {dC : Nat → ClassId} {dI : Nat → Nat → Nat} {cI cZ cJ : ClassId} {x0 : Int32} {res : Int32} (C0 : cxt p c m s args R cells slots R_Model c_Model_ones tb 3 (dC, dI) vwCl (TYS cI cZ cJ) A 0 0)
    (hr25 : ∀ (H : Heap) (locs : List Loc) (ls : Array Slot) (v : Int32), va_P (dC, dI) vwCl ([] : va_W) H → va_D A ([] : va_W) → va_S A s.heap H locs → some v = some res → W p l e R s m args below meth c H locs cells slots Q (F0 m 25 ls [.int v]))
    {H : Heap} {locs : List Loc} {ls : Array Slot} (hP : va_P (dC, dI) vwCl ([] : va_W) H) (hD : va_D A ([] : va_W)) (hS : va_S A s.heap H locs) (hl : lv_has ls 3 [(0, .int x0)]) (hf : f_Model_ones x0 = some res) : W p l e R s m args below meth c H locs cells slots Q (F0 m 0 ls []) := by
  obtain ⟨hx, hb, hml, hown, hts, hK, hA, hRf, hRl, hN, hRc⟩ := id C0
  rw [f_Model_ones] at hf
  refine lv_iconst (v := 0) hx hb d_Model_ones_0 (by decide) ?_
  refine lv_istore_n (lv' := [(1, .int 0), (0, .int x0)]) hx hb d_Model_ones_1 rfl hl (by decide) rfl (fun ls hl => ?_)
  refine lv_iconst (v := 0) hx hb d_Model_ones_2 (by decide) ?_
  refine lv_istore_n (lv' := [(2, .int 0), (1, .int 0), (0, .int x0)]) hx hb d_Model_ones_3 rfl hl (by decide) rfl (fun ls hl => ?_)
  refine L_Model_ones_4 C0 (fun H locs ls x1_5 hP hD hS hl hf => ?_) 100000 _ _ _ 0 0 hP hD hS (lv_sub hl [2, 1, 0] rfl) hf
  try dsimp only at hf
  refine lv_iload_n hx hb d_Model_ones_24 rfl (lv_at hl 0 rfl) ?_
  exact hr25 _ _ _ x1_5 hP hD hS hf
end
set_option maxHeartbeats 4000000 in
set_option maxRecDepth 100000 in
theorem k_Model_ones (l : Launch) (dC : Nat → ClassId) (dI : Nat → Nat → Nat) (cI cZ cJ : ClassId) (sz : Nat) {x0 : Int32} {r : Int32} (hf : f_Model_ones x0 = some r) :
    Met l y_Model_ones ws_Model_ones ({ frames := 0, cells := 0, slots := 0, locals := 0 }) (va_Pc [.int x0] (kP (dC, dI) vwCl (TYS cI cZ cJ) ([] : va_W) sz)) (va_Qi (fun (q : Int32) (_ : Unit) => q = r) (fun _ t => kQ (dC, dI) vwCl (TYS cI cZ cJ) ([] : va_W) sz ([] : va_W) t) (va_A ([] : va_W) sz)) 0 0 (va_A ([] : va_W) sz) := by
  refine Met.ofW (cc := c_Model_ones) (maxL := 3) (ret := (some .int)) (by decide) rfl ?_
  intro p e s m args below meth c s₁ B hml hv
  obtain ⟨rfl, hsz, hP, hK, hD0, hN⟩ := hv
  have hr := B.returns
  have hlocks := B.notSynchronized
  subst hsz
  have hD := hD0.self (sz := s.heap.size)
  have hl := lv_entry ([.int x0]) (n := 3) (Nat.le_of_ble_eq_true rfl)
  rw [lg_entry_eq]
  generalize (lg_sl ([.int x0]) ++ List.replicate (3 - (lg_sl ([.int x0])).length) Slot.unset).toArray = ls at hl ⊢
  refine B_Model_ones (A := va_A ([] : va_W) s.heap.size) ⟨B.exec, B.bytes, hml, findClass_of_methodNamed B.named, fun w h => atoms_spec (ws := ws_Model_ones) B.pre w (List.mem_cons_of_mem _ h), hK, fun q h => Or.inr h, Nat.le_of_ble_eq_true rfl, Nat.le_of_ble_eq_true rfl, hN, Nat.le_of_ble_eq_true rfl, Nat.le_of_ble_eq_true rfl⟩ (fun H locs ls v hP hD hS hf => ?_) hP hD va_S.rf hl hf
  · cases hf
    exact W.iret B.exec B.bytes hr (fun t ht hW => ⟨⟨_, (), rfl, rfl, ⟨by rw [ht]; exact hP, va_K.moved hW.alike hK, hD⟩⟩, hS.F ht⟩) hS.2.2 d_Model_ones_25

/-! Model_put -/
def j_Model_put_66_11 (x4 : Int32) (z0_8 : Int32) (mo_10 : Mo) : Option (Int32 × Mo) := (if z0_8 = x4 then some (0, mo_10) else some (1, mo_10))
def j_Model_put_40_9 (x1 : Int32) (x2 : Int32) (x3 : Int32) (x4 : Int32) (mo_5 : Mo) (z0_8 : Int32) : Option (Int32 × Mo) := (if z0_8 = x4 then j_Model_put_66_11 x4 z0_8 mo_5 else gd (inb ((16 * x1) + x3) 1280) <| gd (inb ((16 * x1) + x3) 1280) <| lt' (Mo_s_rw mo_5 (upd (Mo_rw mo_5) ((16 * x1) + x3).toNatClampNeg ((Mo_rw mo_5 ((16 * x1) + x3).toNatClampNeg) ^^^ ((1 : Int32) <<< (x2 &&& 31))))) <| fun mo_16 => j_Model_put_66_11 x4 z0_8 mo_16)
def j_Model_put_16_3 (mo : Mo) (x1 : Int32) (x2 : Int32) (x3 : Int32) (x4 : Int32) (z0_2 : Int32) : Option (Int32 × Mo) := bd (f_Model_refuses mo z0_2) <| fun (r_4, mo_5) => (if r_4 = 0 then bd (f_Model_sample mo_5 x1 x2 x3) <| fun r_7 => (if r_7 = 1 then j_Model_put_40_9 x1 x2 x3 x4 mo_5 1 else j_Model_put_40_9 x1 x2 x3 x4 mo_5 0) else some (0, mo_5))
def f_Model_put (mo : Mo) (x1 : Int32) (x2 : Int32) (x3 : Int32) (x4 : Int32) : Option (Int32 × Mo) := bd (f_Model_isSample mo x1 x2 x3) <| fun r_1 => (if r_1 = 0 then j_Model_put_16_3 mo x1 x2 x3 x4 1 else j_Model_put_16_3 mo x1 x2 x3 x4 0)
section
variable {p : Program} {l : Launch} {e : Env} {R : Room} {s : State} {m : MethodId} {args : Array Value} {below : List Frame} {meth : Method} {c : Code} {Q : State → Prop} {A : Nat → Prop}
set_option maxHeartbeats 4000000 in
set_option maxRecDepth 100000 in
theorem B_Model_put {cells slots : Nat} {dC : Nat → ClassId} {dI : Nat → Nat → Nat} {cI cZ cJ : ClassId} {mo_a : Nat → Nat} {mo : Mo} {x1 : Int32} {x2 : Int32} {x3 : Int32} {x4 : Int32} {res : Int32 × Mo} (C0 : cxt p c m s args R cells slots R_Model c_Model_put tb 6 (dC, dI) vwCl (TYS cI cZ cJ) A 2 44)
    (hr23 : ∀ (H : Heap) (locs : List Loc) (ls : Array Slot) (v : Int32) (mo' : Mo), vp_nar .boolean v = v → va_P (dC, dI) vwCl (wMo cI cZ cJ mo_a mo') H → va_D A (wMo cI cZ cJ mo_a mo') → va_S A s.heap H locs → some (v, mo') = some res → W p l e R s m args below meth c H locs cells slots Q (F0 m 23 ls [.int v]))
    (hr78 : ∀ (H : Heap) (locs : List Loc) (ls : Array Slot) (v : Int32) (mo' : Mo), vp_nar .boolean v = v → va_P (dC, dI) vwCl (wMo cI cZ cJ mo_a mo') H → va_D A (wMo cI cZ cJ mo_a mo') → va_S A s.heap H locs → some (v, mo') = some res → W p l e R s m args below meth c H locs cells slots Q (F0 m 78 ls [.int v]))
    {H : Heap} {locs : List Loc} {ls : Array Slot} (hP : va_P (dC, dI) vwCl (wMo cI cZ cJ mo_a mo) H) (hD : va_D A (wMo cI cZ cJ mo_a mo)) (hS : va_S A s.heap H locs) (hl : lv_has ls 6 [(0, .ref (mo_a 0)), (1, .int x1), (2, .int x2), (3, .int x3), (4, .int x4)]) (hf : f_Model_put mo x1 x2 x3 x4 = some res) : W p l e R s m args below meth c H locs cells slots Q (F0 m 0 ls []) := by
  obtain ⟨hx, hb, hml, hown, hts, hK, hA, hRf, hRl, hN, hRc⟩ := id C0
  rw [f_Model_put] at hf
  refine lv_aload_n hx hb d_Model_put_0 rfl (lv_at hl 0 rfl) ?_
  refine lv_aload_n hx hb d_Model_put_1 rfl (lv_at hl 0 rfl) ?_
  refine lv_iload_n hx hb d_Model_put_2 rfl (lv_at hl 1 rfl) ?_
  refine lv_iload_n hx hb d_Model_put_3 rfl (lv_at hl 2 rfl) ?_
  refine lv_iload_n hx hb d_Model_put_4 rfl (lv_at hl 3 rfl) ?_
  obtain ⟨r_1, hf1, hf⟩ := bd_ex hf
  try dsimp only at hf
  have hPc := hP.sub (ws' := (wMo cI cZ cJ mo_a mo)) [0, 1, 2, 3, 4, 5, 6, 7, 8, 9, 10, 11, 12, 13, 14, 15] rfl
  have hDc := hD.sub (ws' := (wMo cI cZ cJ mo_a mo)) [0, 1, 2, 3, 4, 5, 6, 7, 8, 9, 10, 11, 12, 13, 14, 15] (by decide) rfl
  have hFc := va_free (wc := (wMo cI cZ cJ mo_a mo)) hD hS hA [0, 1, 2, 3, 4, 5, 6, 7, 8, 9, 10, 11, 12, 13, 14, 15] rfl
  refine va_calli (va_runV (As := [.int x1, .int x2, .int x3]) (rest := [.ref (mo_a 0)]) ⟨hx, hb, hml, hown, hts⟩ (k_Model_isSample l dC dI cI cZ cJ mo_a H.size hf1) (cwV 3 hts (gV t_922 t_924 t_24 t_63 t_925) rfl rfl rfl hd_Model_isSample ⟨Nat.le_trans (Nat.le_of_ble_eq_true rfl) hRf, Nat.le_trans (Nat.le_of_ble_eq_true rfl) hRl⟩) ⟨kP_blind, va_recv hK hP (ci := 7) (q0 := 0) rfl rfl, kP_at hPc hK hDc hN⟩ rfl rfl hl.1 rfl (lv_room (Nat.le_of_ble_eq_true rfl)) d_Model_put_5 hRc) hS (fun q _ h => hFc q h) hFc (fun r9 u t H1 locs ht hvm hw hB hz1 hk1 hS => ?_)
  rw [hw.1]
  obtain ⟨hP, hD⟩ := kQ_join (wr := ([] : va_W)) (w1 := (wMo cI cZ cJ mo_a mo)) hP hD [0, 1, 2, 3, 4, 5, 6, 7, 8, 9, 10, 11, 12, 13, 14, 15] [] rfl rfl (by decide) (by decide) ht hk1 hFc hB
  generalize H1 = H at hP hS ⊢
  have hP : va_P (dC, dI) vwCl (wMo cI cZ cJ mo_a mo) H := hP.sub [0, 1, 2, 3, 4, 5, 6, 7, 8, 9, 10, 11, 12, 13, 14, 15] rfl
  have hD : va_D A (wMo cI cZ cJ mo_a mo) := hD.sub [0, 1, 2, 3, 4, 5, 6, 7, 8, 9, 10, 11, 12, 13, 14, 15] (by decide) rfl
  have J16_2 : ∀ (H : Heap) (locs : List Loc) (ls : Array Slot) (z0_2 : Int32), va_P (dC, dI) vwCl (wMo cI cZ cJ mo_a mo) H → va_D A (wMo cI cZ cJ mo_a mo) → va_S A s.heap H locs → lv_has ls 6 [(0, .ref (mo_a 0)), (1, .int x1), (2, .int x2), (3, .int x3), (4, .int x4)] → j_Model_put_16_3 mo x1 x2 x3 x4 z0_2 = some res → W p l e R s m args below meth c H locs cells slots Q (F0 m 16 ls [.int z0_2, .ref (mo_a 0)]) := by
    intro H locs ls z0_2 hP hD hS hl hf
    rw [j_Model_put_16_3] at hf
    obtain ⟨⟨r_4, mo_5⟩, hf1, hf⟩ := bd_ex hf
    try dsimp only at hf
    have hPc := hP.sub (ws' := (wMo cI cZ cJ mo_a mo)) [0, 1, 2, 3, 4, 5, 6, 7, 8, 9, 10, 11, 12, 13, 14, 15] rfl
    have hDc := hD.sub (ws' := (wMo cI cZ cJ mo_a mo)) [0, 1, 2, 3, 4, 5, 6, 7, 8, 9, 10, 11, 12, 13, 14, 15] (by decide) rfl
    have hFc := va_free (wc := (wMo cI cZ cJ mo_a mo)) hD hS hA [0, 1, 2, 3, 4, 5, 6, 7, 8, 9, 10, 11, 12, 13, 14, 15] rfl
    refine va_calli (va_runV (As := [.int z0_2]) (rest := []) ⟨hx, hb, hml, hown, hts⟩ (k_Model_refuses l dC dI cI cZ cJ mo_a H.size hf1) (cwV 1 hts (gV t_914 t_916 t_23 t_63 t_917) rfl rfl rfl hd_Model_refuses ⟨Nat.le_trans (Nat.le_of_ble_eq_true rfl) hRf, Nat.le_trans (Nat.le_of_ble_eq_true rfl) hRl⟩) ⟨kP_blind, va_recv hK hP (ci := 7) (q0 := 0) rfl rfl, kP_at hPc hK hDc hN⟩ rfl rfl hl.1 rfl (lv_room (Nat.le_of_ble_eq_true rfl)) d_Model_put_16 hRc) hS (fun q _ h => hFc q h) hFc (fun r9 u t H1 locs ht hvm hw hB hz1 hk1 hS => ?_)
    rw [hw.1]
    obtain ⟨hP, hD⟩ := kQ_join (wr := ([] : va_W)) (w1 := (wMo cI cZ cJ mo_a mo_5)) hP hD [0, 1, 2, 3, 4, 5, 6, 7, 8, 9, 10, 11, 12, 13, 14, 15] [] rfl rfl (by decide) (by decide) ht hk1 hFc hB
    generalize H1 = H at hP hS ⊢
    have hP : va_P (dC, dI) vwCl (wMo cI cZ cJ mo_a mo_5) H := hP.sub [0, 1, 2, 3, 4, 5, 6, 7, 8, 9, 10, 11, 12, 13, 14, 15] rfl
    have hD : va_D A (wMo cI cZ cJ mo_a mo_5) := hD.sub [0, 1, 2, 3, 4, 5, 6, 7, 8, 9, 10, 11, 12, 13, 14, 15] (by decide) rfl
    refine lv_if_eq (tgt := 24) hx hb d_Model_put_19 (by decide) (fun c_6 => ?_) (fun c_6 => ?_)
    · rw [if_pos c_6] at hf
      refine lv_aload_n hx hb d_Model_put_24 rfl (lv_at hl 0 rfl) ?_
      refine lv_iload_n hx hb d_Model_put_25 rfl (lv_at hl 1 rfl) ?_
      refine lv_iload_n hx hb d_Model_put_26 rfl (lv_at hl 2 rfl) ?_
      refine lv_iload_n hx hb d_Model_put_27 rfl (lv_at hl 3 rfl) ?_
      obtain ⟨r_7, hf1, hf⟩ := bd_ex hf
      try dsimp only at hf
      have hPc := hP.sub (ws' := (wMo cI cZ cJ mo_a mo_5)) [0, 1, 2, 3, 4, 5, 6, 7, 8, 9, 10, 11, 12, 13, 14, 15] rfl
      have hDc := hD.sub (ws' := (wMo cI cZ cJ mo_a mo_5)) [0, 1, 2, 3, 4, 5, 6, 7, 8, 9, 10, 11, 12, 13, 14, 15] (by decide) rfl
      have hFc := va_free (wc := (wMo cI cZ cJ mo_a mo_5)) hD hS hA [0, 1, 2, 3, 4, 5, 6, 7, 8, 9, 10, 11, 12, 13, 14, 15] rfl
      refine va_calli (va_runV (As := [.int x1, .int x2, .int x3]) (rest := []) ⟨hx, hb, hml, hown, hts⟩ (k_Model_sample l dC dI cI cZ cJ mo_a H.size hf1) (cwV 3 hts (gV t_930 t_932 t_26 t_63 t_933) rfl rfl rfl hd_Model_sample ⟨Nat.le_trans (Nat.le_of_ble_eq_true rfl) hRf, Nat.le_trans (Nat.le_of_ble_eq_true rfl) hRl⟩) ⟨kP_blind, va_recv hK hP (ci := 7) (q0 := 0) rfl rfl, kP_at hPc hK hDc hN⟩ rfl rfl hl.1 rfl (lv_room (Nat.le_of_ble_eq_true rfl)) d_Model_put_28 hRc) hS (fun q _ h => hFc q h) hFc (fun r9 u t H1 locs ht hvm hw hB hz1 hk1 hS => ?_)
      rw [hw]
      obtain ⟨hP, hD⟩ := kQ_join (wr := ([] : va_W)) (w1 := (wMo cI cZ cJ mo_a mo_5)) hP hD [0, 1, 2, 3, 4, 5, 6, 7, 8, 9, 10, 11, 12, 13, 14, 15] [] rfl rfl (by decide) (by decide) ht hk1 hFc hB
      generalize H1 = H at hP hS ⊢
      have hP : va_P (dC, dI) vwCl (wMo cI cZ cJ mo_a mo_5) H := hP.sub [0, 1, 2, 3, 4, 5, 6, 7, 8, 9, 10, 11, 12, 13, 14, 15] rfl
      have hD : va_D A (wMo cI cZ cJ mo_a mo_5) := hD.sub [0, 1, 2, 3, 4, 5, 6, 7, 8, 9, 10, 11, 12, 13, 14, 15] (by decide) rfl
      refine lv_iconst (v := 1) hx hb d_Model_put_31 (by decide) ?_
      have J40_8 : ∀ (H : Heap) (locs : List Loc) (ls : Array Slot) (z0_8 : Int32), va_P (dC, dI) vwCl (wMo cI cZ cJ mo_a mo_5) H → va_D A (wMo cI cZ cJ mo_a mo_5) → va_S A s.heap H locs → lv_has ls 6 [(0, .ref (mo_a 0)), (1, .int x1), (2, .int x2), (3, .int x3), (4, .int x4)] → j_Model_put_40_9 x1 x2 x3 x4 mo_5 z0_8 = some res → W p l e R s m args below meth c H locs cells slots Q (F0 m 40 ls [.int z0_8]) := by
        intro H locs ls z0_8 hP hD hS hl hf
        rw [j_Model_put_40_9] at hf
        refine lv_istore (lv' := [(5, .int z0_8), (0, .ref (mo_a 0)), (1, .int x1), (2, .int x2), (3, .int x3), (4, .int x4)]) hx hb d_Model_put_40 hl (by decide) rfl (fun ls hl => ?_)
        refine lv_iload hx hb d_Model_put_42 (lv_at hl 0 rfl) ?_
        refine lv_iload hx hb d_Model_put_44 (lv_at hl 5 rfl) ?_
        have J66_10 : ∀ (H : Heap) (locs : List Loc) (ls : Array Slot) (mo_10 : Mo), va_P (dC, dI) vwCl (wMo cI cZ cJ mo_a mo_10) H → va_D A (wMo cI cZ cJ mo_a mo_10) → va_S A s.heap H locs → lv_has ls 6 [(4, .int x4), (5, .int z0_8)] → j_Model_put_66_11 x4 z0_8 mo_10 = some res → W p l e R s m args below meth c H locs cells slots Q (F0 m 66 ls []) := by
          intro H locs ls mo_10 hP hD hS hl hf
          rw [j_Model_put_66_11] at hf
          refine lv_iload hx hb d_Model_put_66 (lv_at hl 1 rfl) ?_
          refine lv_iload hx hb d_Model_put_68 (lv_at hl 0 rfl) ?_
          refine lv_icmp_eq (tgt := 77) hx hb d_Model_put_70 (by decide) (fun c_12 => ?_) (fun c_12 => ?_)
          · rw [if_pos c_12] at hf
            refine lv_iconst (v := 0) hx hb d_Model_put_77 (by decide) ?_
            exact hr78 _ _ _ 0 mo_10 (by decide) hP hD hS hf
          · rw [if_neg c_12] at hf
            refine lv_iconst (v := 1) hx hb d_Model_put_73 (by decide) ?_
            refine lv_goto (tgt := 78) hx hb d_Model_put_74 (by decide) ?_
            exact hr78 _ _ _ 1 mo_10 (by decide) hP hD hS hf
        refine lv_icmp_eq (tgt := 66) hx hb d_Model_put_46 (by decide) (fun c_13 => ?_) (fun c_13 => ?_)
        · rw [if_pos c_13] at hf
          exact J66_10 _ _ _ mo_5 hP hD hS (lv_sub hl [5, 0] rfl) hf
        · rw [if_neg c_13] at hf
          refine lv_aload_n hx hb d_Model_put_49 rfl (lv_at hl 1 rfl) ?_
          refine va_get (D := (dC, dI)) (ci := 7) (v := .ref (mo_a 3)) (C := R_Model) (T := T_Model) (N := 27) hx hb hts in_Model hown hK hP 0 rfl rfl 5 (by decide) (hts _ t_829) (fun _ h9 => h9) rfl d_Model_put_50 ?_
          refine lv_bipush (v := 16) hx hb d_Model_put_53 (by decide) ?_
          refine lv_iload_n hx hb d_Model_put_55 rfl (lv_at hl 2 rfl) ?_
          refine lv_imul hx hb d_Model_put_56 ?_
          refine lv_iload_n hx hb d_Model_put_57 rfl (lv_at hl 4 rfl) ?_
          refine lv_iadd hx hb d_Model_put_58 ?_
          refine lv_dup2_11 hx hb d_Model_put_59 rfl rfl ?_
          obtain ⟨h_14, hf⟩ := gd_ex hf
          refine va_iald (f := Mo_rw mo_5) hx hb hK hP 3 0 rfl rfl (inb_in h_14) d_Model_put_60 ?_
          refine lv_iconst (v := 1) hx hb d_Model_put_61 (by decide) ?_
          refine lv_iload_n hx hb d_Model_put_62 rfl (lv_at hl 3 rfl) ?_
          refine lv_ishl hx hb d_Model_put_63 ?_
          refine lv_ixor hx hb d_Model_put_64 ?_
          obtain ⟨h_15, hf⟩ := gd_ex hf
          refine va_iast (f := Mo_rw mo_5) hx hb hK hP hD hS 3 0 rfl rfl (inb_in h_15) d_Model_put_65 (fun H locs hP hD hS => ?_)
          obtain ⟨mo_16, emo_16, hf⟩ := lt_ex hf
          try dsimp only at hf
          have hP : va_P (dC, dI) vwCl (wMo cI cZ cJ mo_a mo_16) H := by rw [emo_16]; exact hP
          have hD : va_D A (wMo cI cZ cJ mo_a mo_16) := by rw [emo_16]; exact hD
          exact J66_10 _ _ _ mo_16 hP hD hS (lv_sub hl [5, 0] rfl) hf
      refine lv_icmp_ne (tgt := 39) hx hb d_Model_put_32 (by decide) (fun c_18 => ?_) (fun c_18 => ?_)
      · rw [if_neg c_18] at hf
        refine lv_iconst (v := 0) hx hb d_Model_put_39 (by decide) ?_
        exact J40_8 _ _ _ 0 hP hD hS (lv_sub hl [0, 1, 2, 3, 4] rfl) hf
      · rw [if_pos c_18] at hf
        refine lv_iconst (v := 1) hx hb d_Model_put_35 (by decide) ?_
        refine lv_goto (tgt := 40) hx hb d_Model_put_36 (by decide) ?_
        exact J40_8 _ _ _ 1 hP hD hS (lv_sub hl [0, 1, 2, 3, 4] rfl) hf
    · rw [if_neg c_6] at hf
      refine lv_iconst (v := 0) hx hb d_Model_put_22 (by decide) ?_
      exact hr23 _ _ _ 0 mo_5 (by decide) hP hD hS hf
  refine lv_if_eq (tgt := 15) hx hb d_Model_put_8 (by decide) (fun c_19 => ?_) (fun c_19 => ?_)
  · rw [if_pos c_19] at hf
    refine lv_iconst (v := 1) hx hb d_Model_put_15 (by decide) ?_
    exact J16_2 _ _ _ 1 hP hD hS (lv_sub hl [0, 1, 2, 3, 4] rfl) hf
  · rw [if_neg c_19] at hf
    refine lv_iconst (v := 0) hx hb d_Model_put_11 (by decide) ?_
    refine lv_goto (tgt := 16) hx hb d_Model_put_12 (by decide) ?_
    exact J16_2 _ _ _ 0 hP hD hS (lv_sub hl [0, 1, 2, 3, 4] rfl) hf
end
set_option maxHeartbeats 4000000 in
set_option maxRecDepth 100000 in
theorem k_Model_put (l : Launch) (dC : Nat → ClassId) (dI : Nat → Nat → Nat) (cI cZ cJ : ClassId) (mo_a : Nat → Nat) (sz : Nat) {mo : Mo} {x1 : Int32} {x2 : Int32} {x3 : Int32} {x4 : Int32} {r : Int32} {mo' : Mo} (hf : f_Model_put mo x1 x2 x3 x4 = some (r, mo')) :
    Met l y_Model_put ws_Model_put ({ frames := 2, cells := 0, slots := 0, locals := 44 }) (va_Pc [.ref (mo_a 0), .int x1, .int x2, .int x3, .int x4] (kP (dC, dI) vwCl (TYS cI cZ cJ) (wMo cI cZ cJ mo_a mo) sz)) (va_Qi (fun (q : Int32) (_ : Unit) => q = r ∧ vp_nar .boolean r = r) (fun _ t => kQ (dC, dI) vwCl (TYS cI cZ cJ) (wMo cI cZ cJ mo_a mo) sz (wMo cI cZ cJ mo_a mo') t) (va_A (wMo cI cZ cJ mo_a mo) sz)) 0 0 (va_A (wMo cI cZ cJ mo_a mo) sz) := by
  refine Met.ofW (cc := c_Model_put) (maxL := 6) (ret := (some .boolean)) (by decide) rfl ?_
  intro p e s m args below meth c s₁ B hml hv
  obtain ⟨rfl, hsz, hP, hK, hD0, hN⟩ := hv
  have hr := B.returns
  have hlocks := B.notSynchronized
  subst hsz
  have hD := hD0.self (sz := s.heap.size)
  have hl := lv_entry ([.ref (mo_a 0), .int x1, .int x2, .int x3, .int x4]) (n := 6) (Nat.le_of_ble_eq_true rfl)
  rw [lg_entry_eq]
  generalize (lg_sl ([.ref (mo_a 0), .int x1, .int x2, .int x3, .int x4]) ++ List.replicate (6 - (lg_sl ([.ref (mo_a 0), .int x1, .int x2, .int x3, .int x4])).length) Slot.unset).toArray = ls at hl ⊢
  refine B_Model_put (A := va_A (wMo cI cZ cJ mo_a mo) s.heap.size) ⟨B.exec, B.bytes, hml, findClass_of_methodNamed B.named, fun w h => atoms_spec (ws := ws_Model_put) B.pre w (List.mem_cons_of_mem _ h), hK, fun q h => Or.inr h, Nat.le_of_ble_eq_true rfl, Nat.le_of_ble_eq_true rfl, hN, Nat.le_of_ble_eq_true rfl, Nat.le_of_ble_eq_true rfl⟩ (fun H locs ls v mo'1 hz hP hD hS hf => ?_) (fun H locs ls v mo'1 hz hP hD hS hf => ?_) hP hD va_S.rf hl hf
  · cases hf
    exact W.zret B.exec B.bytes hr (nz_n hz) (fun t ht hW => ⟨⟨_, (), rfl, ⟨rfl, hz⟩, ⟨by rw [ht]; exact hP, va_K.moved hW.alike hK, hD⟩⟩, hS.F ht⟩) hS.2.2 d_Model_put_23
  · cases hf
    exact W.zret B.exec B.bytes hr (nz_n hz) (fun t ht hW => ⟨⟨_, (), rfl, ⟨rfl, hz⟩, ⟨by rw [ht]; exact hP, va_K.moved hW.alike hK, hD⟩⟩, hS.F ht⟩) hS.2.2 d_Model_put_78

/-! Model_row -/
def j_Model_row_28_3 (mo : Mo) (x1 : Int32) (x2 : Int32) (x3 : Int32) (z0_2 : Int32) : Option (Int32 × Mo) := bd (f_Model_refuses mo z0_2) <| fun (r_4, mo_5) => (if r_4 = 0 then gd (inb x1 80) <| gd (inb ((16 * x1) + x2) 1280) <| lt' (Mo_s_rw mo_5 (upd (Mo_rw mo_5) ((16 * x1) + x2).toNatClampNeg (x3 &&& (((1 : Int32) <<< ((Mo_wd mo_5 x1.toNatClampNeg) &&& 31)) - 1)))) <| fun mo_9 => gd (inb ((16 * x1) + x2) 1280) <| bd (f_Model_ones (Mo_rw mo_9 ((16 * x1) + x2).toNatClampNeg)) <| fun r_12 => some (r_12, mo_9) else some (0, mo_5))
def f_Model_row (mo : Mo) (x1 : Int32) (x2 : Int32) (x3 : Int32) : Option (Int32 × Mo) := bd (f_Model_isSymbol mo x1) <| fun r_1 => (if r_1 = 0 then j_Model_row_28_3 mo x1 x2 x3 1 else (if x2 < 0 then j_Model_row_28_3 mo x1 x2 x3 1 else gd (inb x1 80) <| (if (Mo_ht mo x1.toNatClampNeg) ≤ x2 then j_Model_row_28_3 mo x1 x2 x3 1 else j_Model_row_28_3 mo x1 x2 x3 0)))
section
variable {p : Program} {l : Launch} {e : Env} {R : Room} {s : State} {m : MethodId} {args : Array Value} {below : List Frame} {meth : Method} {c : Code} {Q : State → Prop} {A : Nat → Prop}
set_option maxHeartbeats 4000000 in
set_option maxRecDepth 100000 in
theorem B_Model_row {cells slots : Nat} {dC : Nat → ClassId} {dI : Nat → Nat → Nat} {cI cZ cJ : ClassId} {mo_a : Nat → Nat} {mo : Mo} {x1 : Int32} {x2 : Int32} {x3 : Int32} {res : Int32 × Mo} (C0 : cxt p c m s args R cells slots R_Model c_Model_row tb 4 (dC, dI) vwCl (TYS cI cZ cJ) A 1 22)
    (hr35 : ∀ (H : Heap) (locs : List Loc) (ls : Array Slot) (v : Int32) (mo' : Mo), va_P (dC, dI) vwCl (wMo cI cZ cJ mo_a mo') H → va_D A (wMo cI cZ cJ mo_a mo') → va_S A s.heap H locs → some (v, mo') = some res → W p l e R s m args below meth c H locs cells slots Q (F0 m 35 ls [.int v]))
    (hr73 : ∀ (H : Heap) (locs : List Loc) (ls : Array Slot) (v : Int32) (mo' : Mo), va_P (dC, dI) vwCl (wMo cI cZ cJ mo_a mo') H → va_D A (wMo cI cZ cJ mo_a mo') → va_S A s.heap H locs → some (v, mo') = some res → W p l e R s m args below meth c H locs cells slots Q (F0 m 73 ls [.int v]))
    {H : Heap} {locs : List Loc} {ls : Array Slot} (hP : va_P (dC, dI) vwCl (wMo cI cZ cJ mo_a mo) H) (hD : va_D A (wMo cI cZ cJ mo_a mo)) (hS : va_S A s.heap H locs) (hl : lv_has ls 4 [(0, .ref (mo_a 0)), (1, .int x1), (2, .int x2), (3, .int x3)]) (hf : f_Model_row mo x1 x2 x3 = some res) : W p l e R s m args below meth c H locs cells slots Q (F0 m 0 ls []) := by
  obtain ⟨hx, hb, hml, hown, hts, hK, hA, hRf, hRl, hN, hRc⟩ := id C0
  rw [f_Model_row] at hf
  refine lv_aload_n hx hb d_Model_row_0 rfl (lv_at hl 0 rfl) ?_
  refine lv_aload_n hx hb d_Model_row_1 rfl (lv_at hl 0 rfl) ?_
  refine lv_iload_n hx hb d_Model_row_2 rfl (lv_at hl 1 rfl) ?_
  obtain ⟨r_1, hf1, hf⟩ := bd_ex hf
  try dsimp only at hf
  have hPc := hP.sub (ws' := (wMo cI cZ cJ mo_a mo)) [0, 1, 2, 3, 4, 5, 6, 7, 8, 9, 10, 11, 12, 13, 14, 15] rfl
  have hDc := hD.sub (ws' := (wMo cI cZ cJ mo_a mo)) [0, 1, 2, 3, 4, 5, 6, 7, 8, 9, 10, 11, 12, 13, 14, 15] (by decide) rfl
  have hFc := va_free (wc := (wMo cI cZ cJ mo_a mo)) hD hS hA [0, 1, 2, 3, 4, 5, 6, 7, 8, 9, 10, 11, 12, 13, 14, 15] rfl
  refine va_calli (va_runV (As := [.int x1]) (rest := [.ref (mo_a 0)]) ⟨hx, hb, hml, hown, hts⟩ (k_Model_isSymbol l dC dI cI cZ cJ mo_a H.size hf1) (cwV 1 hts (gV t_926 t_928 t_25 t_63 t_929) rfl rfl rfl hd_Model_isSymbol ⟨Nat.le_trans (Nat.le_of_ble_eq_true rfl) hRf, Nat.le_trans (Nat.le_of_ble_eq_true rfl) hRl⟩) ⟨kP_blind, va_recv hK hP (ci := 7) (q0 := 0) rfl rfl, kP_at hPc hK hDc hN⟩ rfl rfl hl.1 rfl (lv_room (Nat.le_of_ble_eq_true rfl)) d_Model_row_3 hRc) hS (fun q _ h => hFc q h) hFc (fun r9 u t H1 locs ht hvm hw hB hz1 hk1 hS => ?_)
  rw [hw.1]
  obtain ⟨hP, hD⟩ := kQ_join (wr := ([] : va_W)) (w1 := (wMo cI cZ cJ mo_a mo)) hP hD [0, 1, 2, 3, 4, 5, 6, 7, 8, 9, 10, 11, 12, 13, 14, 15] [] rfl rfl (by decide) (by decide) ht hk1 hFc hB
  generalize H1 = H at hP hS ⊢
  have hP : va_P (dC, dI) vwCl (wMo cI cZ cJ mo_a mo) H := hP.sub [0, 1, 2, 3, 4, 5, 6, 7, 8, 9, 10, 11, 12, 13, 14, 15] rfl
  have hD : va_D A (wMo cI cZ cJ mo_a mo) := hD.sub [0, 1, 2, 3, 4, 5, 6, 7, 8, 9, 10, 11, 12, 13, 14, 15] (by decide) rfl
  have J28_2 : ∀ (H : Heap) (locs : List Loc) (ls : Array Slot) (z0_2 : Int32), va_P (dC, dI) vwCl (wMo cI cZ cJ mo_a mo) H → va_D A (wMo cI cZ cJ mo_a mo) → va_S A s.heap H locs → lv_has ls 4 [(0, .ref (mo_a 0)), (1, .int x1), (2, .int x2), (3, .int x3)] → j_Model_row_28_3 mo x1 x2 x3 z0_2 = some res → W p l e R s m args below meth c H locs cells slots Q (F0 m 28 ls [.int z0_2, .ref (mo_a 0)]) := by
    intro H locs ls z0_2 hP hD hS hl hf
    rw [j_Model_row_28_3] at hf
    obtain ⟨⟨r_4, mo_5⟩, hf1, hf⟩ := bd_ex hf
    try dsimp only at hf
    have hPc := hP.sub (ws' := (wMo cI cZ cJ mo_a mo)) [0, 1, 2, 3, 4, 5, 6, 7, 8, 9, 10, 11, 12, 13, 14, 15] rfl
    have hDc := hD.sub (ws' := (wMo cI cZ cJ mo_a mo)) [0, 1, 2, 3, 4, 5, 6, 7, 8, 9, 10, 11, 12, 13, 14, 15] (by decide) rfl
    have hFc := va_free (wc := (wMo cI cZ cJ mo_a mo)) hD hS hA [0, 1, 2, 3, 4, 5, 6, 7, 8, 9, 10, 11, 12, 13, 14, 15] rfl
    refine va_calli (va_runV (As := [.int z0_2]) (rest := []) ⟨hx, hb, hml, hown, hts⟩ (k_Model_refuses l dC dI cI cZ cJ mo_a H.size hf1) (cwV 1 hts (gV t_914 t_916 t_23 t_63 t_917) rfl rfl rfl hd_Model_refuses ⟨Nat.le_trans (Nat.le_of_ble_eq_true rfl) hRf, Nat.le_trans (Nat.le_of_ble_eq_true rfl) hRl⟩) ⟨kP_blind, va_recv hK hP (ci := 7) (q0 := 0) rfl rfl, kP_at hPc hK hDc hN⟩ rfl rfl hl.1 rfl (lv_room (Nat.le_of_ble_eq_true rfl)) d_Model_row_28 hRc) hS (fun q _ h => hFc q h) hFc (fun r9 u t H1 locs ht hvm hw hB hz1 hk1 hS => ?_)
    rw [hw.1]
    obtain ⟨hP, hD⟩ := kQ_join (wr := ([] : va_W)) (w1 := (wMo cI cZ cJ mo_a mo_5)) hP hD [0, 1, 2, 3, 4, 5, 6, 7, 8, 9, 10, 11, 12, 13, 14, 15] [] rfl rfl (by decide) (by decide) ht hk1 hFc hB
    generalize H1 = H at hP hS ⊢
    have hP : va_P (dC, dI) vwCl (wMo cI cZ cJ mo_a mo_5) H := hP.sub [0, 1, 2, 3, 4, 5, 6, 7, 8, 9, 10, 11, 12, 13, 14, 15] rfl
    have hD : va_D A (wMo cI cZ cJ mo_a mo_5) := hD.sub [0, 1, 2, 3, 4, 5, 6, 7, 8, 9, 10, 11, 12, 13, 14, 15] (by decide) rfl
    refine lv_if_eq (tgt := 36) hx hb d_Model_row_31 (by decide) (fun c_6 => ?_) (fun c_6 => ?_)
    · rw [if_pos c_6] at hf
      refine lv_aload_n hx hb d_Model_row_36 rfl (lv_at hl 0 rfl) ?_
      refine va_get (D := (dC, dI)) (ci := 7) (v := .ref (mo_a 3)) (C := R_Model) (T := T_Model) (N := 27) hx hb hts in_Model hown hK hP 0 rfl rfl 5 (by decide) (hts _ t_829) (fun _ h9 => h9) rfl d_Model_row_37 ?_
      refine lv_bipush (v := 16) hx hb d_Model_row_40 (by decide) ?_
      refine lv_iload_n hx hb d_Model_row_42 rfl (lv_at hl 1 rfl) ?_
      refine lv_imul hx hb d_Model_row_43 ?_
      refine lv_iload_n hx hb d_Model_row_44 rfl (lv_at hl 2 rfl) ?_
      refine lv_iadd hx hb d_Model_row_45 ?_
      refine lv_iload_n hx hb d_Model_row_46 rfl (lv_at hl 3 rfl) ?_
      refine lv_iconst (v := 1) hx hb d_Model_row_47 (by decide) ?_
      refine lv_aload_n hx hb d_Model_row_48 rfl (lv_at hl 0 rfl) ?_
      refine va_get (D := (dC, dI)) (ci := 7) (v := .ref (mo_a 1)) (C := R_Model) (T := T_Model) (N := 27) hx hb hts in_Model hown hK hP 0 rfl rfl 3 (by decide) (hts _ t_827) (fun _ h9 => h9) rfl d_Model_row_49 ?_
      refine lv_iload_n hx hb d_Model_row_52 rfl (lv_at hl 1 rfl) ?_
      obtain ⟨h_7, hf⟩ := gd_ex hf
      refine va_iald (f := Mo_wd mo_5) hx hb hK hP 1 0 rfl rfl (inb_in h_7) d_Model_row_53 ?_
      refine lv_ishl hx hb d_Model_row_54 ?_
      refine lv_iconst (v := 1) hx hb d_Model_row_55 (by decide) ?_
      refine lv_isub hx hb d_Model_row_56 ?_
      refine lv_iand hx hb d_Model_row_57 ?_
      obtain ⟨h_8, hf⟩ := gd_ex hf
      refine va_iast (f := Mo_rw mo_5) hx hb hK hP hD hS 3 0 rfl rfl (inb_in h_8) d_Model_row_58 (fun H locs hP hD hS => ?_)
      obtain ⟨mo_9, emo_9, hf⟩ := lt_ex hf
      try dsimp only at hf
      have hP : va_P (dC, dI) vwCl (wMo cI cZ cJ mo_a mo_9) H := by rw [emo_9]; exact hP
      have hD : va_D A (wMo cI cZ cJ mo_a mo_9) := by rw [emo_9]; exact hD
      refine lv_aload_n hx hb d_Model_row_59 rfl (lv_at hl 0 rfl) ?_
      refine va_get (D := (dC, dI)) (ci := 7) (v := .ref (mo_a 3)) (C := R_Model) (T := T_Model) (N := 27) hx hb hts in_Model hown hK hP 0 rfl rfl 5 (by decide) (hts _ t_829) (fun _ h9 => h9) rfl d_Model_row_60 ?_
      refine lv_bipush (v := 16) hx hb d_Model_row_63 (by decide) ?_
      refine lv_iload_n hx hb d_Model_row_65 rfl (lv_at hl 1 rfl) ?_
      refine lv_imul hx hb d_Model_row_66 ?_
      refine lv_iload_n hx hb d_Model_row_67 rfl (lv_at hl 2 rfl) ?_
      refine lv_iadd hx hb d_Model_row_68 ?_
      obtain ⟨h_11, hf⟩ := gd_ex hf
      refine va_iald (f := Mo_rw mo_9) hx hb hK hP 3 0 rfl rfl (inb_in h_11) d_Model_row_69 ?_
      obtain ⟨r_12, hf1, hf⟩ := bd_ex hf
      try dsimp only at hf
      have hPc := hP.sub (ws' := ([] : va_W)) [] rfl
      have hDc := hD.sub (ws' := ([] : va_W)) [] (by decide) rfl
      have hFc := va_free (wc := ([] : va_W)) hD hS hA [] rfl
      refine va_calli (va_runS (As := [.int (Mo_rw mo_9 ((16 * x1) + x2).toNatClampNeg)]) (rest := []) ⟨hx, hb, hml, hown, hts⟩ (k_Model_ones l dC dI cI cZ cJ H.size hf1) (cwS 1 hts (gS t_938 t_939 t_63 t_940) rfl rfl rfl hd_Model_ones ⟨Nat.le_trans (Nat.le_of_ble_eq_true rfl) hRf, Nat.le_trans (Nat.le_of_ble_eq_true rfl) hRl⟩) ⟨kP_blind, kP_at hPc hK hDc hN⟩ rfl rfl hl.1 rfl (lv_room (Nat.le_of_ble_eq_true rfl)) d_Model_row_70 hRc) hS (fun q _ h => hFc q h) hFc (fun r9 u t H1 locs ht hvm hw hB hz1 hk1 hS => ?_)
      rw [hw]
      obtain ⟨hP, hD⟩ := kQ_join (wr := (wMo cI cZ cJ mo_a mo_9)) (w1 := ([] : va_W)) hP hD [] [0, 1, 2, 3, 4, 5, 6, 7, 8, 9, 10, 11, 12, 13, 14, 15] rfl rfl (by decide) (by decide) ht hk1 hFc hB
      generalize H1 = H at hP hS ⊢
      have hP : va_P (dC, dI) vwCl (wMo cI cZ cJ mo_a mo_9) H := hP.sub [0, 1, 2, 3, 4, 5, 6, 7, 8, 9, 10, 11, 12, 13, 14, 15] rfl
      have hD : va_D A (wMo cI cZ cJ mo_a mo_9) := hD.sub [0, 1, 2, 3, 4, 5, 6, 7, 8, 9, 10, 11, 12, 13, 14, 15] (by decide) rfl
      exact hr73 _ _ _ r_12 mo_9 hP hD hS hf
    · rw [if_neg c_6] at hf
      refine lv_iconst (v := 0) hx hb d_Model_row_34 (by decide) ?_
      exact hr35 _ _ _ 0 mo_5 hP hD hS hf
  refine lv_if_eq (tgt := 27) hx hb d_Model_row_6 (by decide) (fun c_13 => ?_) (fun c_13 => ?_)
  · rw [if_pos c_13] at hf
    refine lv_iconst (v := 1) hx hb d_Model_row_27 (by decide) ?_
    exact J28_2 _ _ _ 1 hP hD hS (lv_sub hl [0, 1, 2, 3] rfl) hf
  · rw [if_neg c_13] at hf
    refine lv_iload_n hx hb d_Model_row_9 rfl (lv_at hl 2 rfl) ?_
    refine lv_if_lt (tgt := 27) hx hb d_Model_row_10 (by decide) (fun c_14 => ?_) (fun c_14 => ?_)
    · rw [if_pos c_14] at hf
      refine lv_iconst (v := 1) hx hb d_Model_row_27 (by decide) ?_
      exact J28_2 _ _ _ 1 hP hD hS (lv_sub hl [0, 1, 2, 3] rfl) hf
    · rw [if_neg c_14] at hf
      refine lv_iload_n hx hb d_Model_row_13 rfl (lv_at hl 2 rfl) ?_
      refine lv_aload_n hx hb d_Model_row_14 rfl (lv_at hl 0 rfl) ?_
      refine va_get (D := (dC, dI)) (ci := 7) (v := .ref (mo_a 2)) (C := R_Model) (T := T_Model) (N := 27) hx hb hts in_Model hown hK hP 0 rfl rfl 4 (by decide) (hts _ t_828) (fun _ h9 => h9) rfl d_Model_row_15 ?_
      refine lv_iload_n hx hb d_Model_row_18 rfl (lv_at hl 1 rfl) ?_
      obtain ⟨h_15, hf⟩ := gd_ex hf
      refine va_iald (f := Mo_ht mo) hx hb hK hP 2 0 rfl rfl (inb_in h_15) d_Model_row_19 ?_
      refine lv_icmp_ge (tgt := 27) hx hb d_Model_row_20 (by decide) (fun c_16 => ?_) (fun c_16 => ?_)
      · rw [if_pos c_16] at hf
        refine lv_iconst (v := 1) hx hb d_Model_row_27 (by decide) ?_
        exact J28_2 _ _ _ 1 hP hD hS (lv_sub hl [0, 1, 2, 3] rfl) hf
      · rw [if_neg c_16] at hf
        refine lv_iconst (v := 0) hx hb d_Model_row_23 (by decide) ?_
        refine lv_goto (tgt := 28) hx hb d_Model_row_24 (by decide) ?_
        exact J28_2 _ _ _ 0 hP hD hS (lv_sub hl [0, 1, 2, 3] rfl) hf
end
set_option maxHeartbeats 4000000 in
set_option maxRecDepth 100000 in
theorem k_Model_row (l : Launch) (dC : Nat → ClassId) (dI : Nat → Nat → Nat) (cI cZ cJ : ClassId) (mo_a : Nat → Nat) (sz : Nat) {mo : Mo} {x1 : Int32} {x2 : Int32} {x3 : Int32} {r : Int32} {mo' : Mo} (hf : f_Model_row mo x1 x2 x3 = some (r, mo')) :
    Met l y_Model_row ws_Model_row ({ frames := 1, cells := 0, slots := 0, locals := 22 }) (va_Pc [.ref (mo_a 0), .int x1, .int x2, .int x3] (kP (dC, dI) vwCl (TYS cI cZ cJ) (wMo cI cZ cJ mo_a mo) sz)) (va_Qi (fun (q : Int32) (_ : Unit) => q = r) (fun _ t => kQ (dC, dI) vwCl (TYS cI cZ cJ) (wMo cI cZ cJ mo_a mo) sz (wMo cI cZ cJ mo_a mo') t) (va_A (wMo cI cZ cJ mo_a mo) sz)) 0 0 (va_A (wMo cI cZ cJ mo_a mo) sz) := by
  refine Met.ofW (cc := c_Model_row) (maxL := 4) (ret := (some .int)) (by decide) rfl ?_
  intro p e s m args below meth c s₁ B hml hv
  obtain ⟨rfl, hsz, hP, hK, hD0, hN⟩ := hv
  have hr := B.returns
  have hlocks := B.notSynchronized
  subst hsz
  have hD := hD0.self (sz := s.heap.size)
  have hl := lv_entry ([.ref (mo_a 0), .int x1, .int x2, .int x3]) (n := 4) (Nat.le_of_ble_eq_true rfl)
  rw [lg_entry_eq]
  generalize (lg_sl ([.ref (mo_a 0), .int x1, .int x2, .int x3]) ++ List.replicate (4 - (lg_sl ([.ref (mo_a 0), .int x1, .int x2, .int x3])).length) Slot.unset).toArray = ls at hl ⊢
  refine B_Model_row (A := va_A (wMo cI cZ cJ mo_a mo) s.heap.size) ⟨B.exec, B.bytes, hml, findClass_of_methodNamed B.named, fun w h => atoms_spec (ws := ws_Model_row) B.pre w (List.mem_cons_of_mem _ h), hK, fun q h => Or.inr h, Nat.le_of_ble_eq_true rfl, Nat.le_of_ble_eq_true rfl, hN, Nat.le_of_ble_eq_true rfl, Nat.le_of_ble_eq_true rfl⟩ (fun H locs ls v mo'1 hP hD hS hf => ?_) (fun H locs ls v mo'1 hP hD hS hf => ?_) hP hD va_S.rf hl hf
  · cases hf
    exact W.iret B.exec B.bytes hr (fun t ht hW => ⟨⟨_, (), rfl, rfl, ⟨by rw [ht]; exact hP, va_K.moved hW.alike hK, hD⟩⟩, hS.F ht⟩) hS.2.2 d_Model_row_35
  · cases hf
    exact W.iret B.exec B.bytes hr (fun t ht hW => ⟨⟨_, (), rfl, rfl, ⟨by rw [ht]; exact hP, va_K.moved hW.alike hK, hD⟩⟩, hS.F ht⟩) hS.2.2 d_Model_row_73

/-! Model_at -/
def j_Model_at_16_3 (mo : Mo) (x1 : Int32) (x2 : Int32) (x3 : Int32) (z0_2 : Int32) : Option (Int32 × Mo) := bd (f_Model_refuses mo z0_2) <| fun (r_4, mo_5) => (if r_4 = 0 then bd (f_Model_sample mo_5 x1 x2 x3) <| fun r_7 => (if r_7 = 1 then some (1, mo_5) else some (0, mo_5)) else some (0, mo_5))
def f_Model_at (mo : Mo) (x1 : Int32) (x2 : Int32) (x3 : Int32) : Option (Int32 × Mo) := bd (f_Model_isSample mo x1 x2 x3) <| fun r_1 => (if r_1 = 0 then j_Model_at_16_3 mo x1 x2 x3 1 else j_Model_at_16_3 mo x1 x2 x3 0)
section
variable {p : Program} {l : Launch} {e : Env} {R : Room} {s : State} {m : MethodId} {args : Array Value} {below : List Frame} {meth : Method} {c : Code} {Q : State → Prop} {A : Nat → Prop}
set_option maxHeartbeats 4000000 in
set_option maxRecDepth 100000 in
theorem B_Model_at {cells slots : Nat} {dC : Nat → ClassId} {dI : Nat → Nat → Nat} {cI cZ cJ : ClassId} {mo_a : Nat → Nat} {mo : Mo} {x1 : Int32} {x2 : Int32} {x3 : Int32} {res : Int32 × Mo} (C0 : cxt p c m s args R cells slots R_Model c_Model_at tb 4 (dC, dI) vwCl (TYS cI cZ cJ) A 2 44)
    (hr38 : ∀ (H : Heap) (locs : List Loc) (ls : Array Slot) (v : Int32) (mo' : Mo), vp_nar .boolean v = v → va_P (dC, dI) vwCl (wMo cI cZ cJ mo_a mo') H → va_D A (wMo cI cZ cJ mo_a mo') → va_S A s.heap H locs → some (v, mo') = some res → W p l e R s m args below meth c H locs cells slots Q (F0 m 38 ls [.int v]))
    {H : Heap} {locs : List Loc} {ls : Array Slot} (hP : va_P (dC, dI) vwCl (wMo cI cZ cJ mo_a mo) H) (hD : va_D A (wMo cI cZ cJ mo_a mo)) (hS : va_S A s.heap H locs) (hl : lv_has ls 4 [(0, .ref (mo_a 0)), (1, .int x1), (2, .int x2), (3, .int x3)]) (hf : f_Model_at mo x1 x2 x3 = some res) : W p l e R s m args below meth c H locs cells slots Q (F0 m 0 ls []) := by
  obtain ⟨hx, hb, hml, hown, hts, hK, hA, hRf, hRl, hN, hRc⟩ := id C0
  rw [f_Model_at] at hf
  refine lv_aload_n hx hb d_Model_at_0 rfl (lv_at hl 0 rfl) ?_
  refine lv_aload_n hx hb d_Model_at_1 rfl (lv_at hl 0 rfl) ?_
  refine lv_iload_n hx hb d_Model_at_2 rfl (lv_at hl 1 rfl) ?_
  refine lv_iload_n hx hb d_Model_at_3 rfl (lv_at hl 2 rfl) ?_
  refine lv_iload_n hx hb d_Model_at_4 rfl (lv_at hl 3 rfl) ?_
  obtain ⟨r_1, hf1, hf⟩ := bd_ex hf
  try dsimp only at hf
  have hPc := hP.sub (ws' := (wMo cI cZ cJ mo_a mo)) [0, 1, 2, 3, 4, 5, 6, 7, 8, 9, 10, 11, 12, 13, 14, 15] rfl
  have hDc := hD.sub (ws' := (wMo cI cZ cJ mo_a mo)) [0, 1, 2, 3, 4, 5, 6, 7, 8, 9, 10, 11, 12, 13, 14, 15] (by decide) rfl
  have hFc := va_free (wc := (wMo cI cZ cJ mo_a mo)) hD hS hA [0, 1, 2, 3, 4, 5, 6, 7, 8, 9, 10, 11, 12, 13, 14, 15] rfl
  refine va_calli (va_runV (As := [.int x1, .int x2, .int x3]) (rest := [.ref (mo_a 0)]) ⟨hx, hb, hml, hown, hts⟩ (k_Model_isSample l dC dI cI cZ cJ mo_a H.size hf1) (cwV 3 hts (gV t_922 t_924 t_24 t_63 t_925) rfl rfl rfl hd_Model_isSample ⟨Nat.le_trans (Nat.le_of_ble_eq_true rfl) hRf, Nat.le_trans (Nat.le_of_ble_eq_true rfl) hRl⟩) ⟨kP_blind, va_recv hK hP (ci := 7) (q0 := 0) rfl rfl, kP_at hPc hK hDc hN⟩ rfl rfl hl.1 rfl (lv_room (Nat.le_of_ble_eq_true rfl)) d_Model_at_5 hRc) hS (fun q _ h => hFc q h) hFc (fun r9 u t H1 locs ht hvm hw hB hz1 hk1 hS => ?_)
  rw [hw.1]
  obtain ⟨hP, hD⟩ := kQ_join (wr := ([] : va_W)) (w1 := (wMo cI cZ cJ mo_a mo)) hP hD [0, 1, 2, 3, 4, 5, 6, 7, 8, 9, 10, 11, 12, 13, 14, 15] [] rfl rfl (by decide) (by decide) ht hk1 hFc hB
  generalize H1 = H at hP hS ⊢
  have hP : va_P (dC, dI) vwCl (wMo cI cZ cJ mo_a mo) H := hP.sub [0, 1, 2, 3, 4, 5, 6, 7, 8, 9, 10, 11, 12, 13, 14, 15] rfl
  have hD : va_D A (wMo cI cZ cJ mo_a mo) := hD.sub [0, 1, 2, 3, 4, 5, 6, 7, 8, 9, 10, 11, 12, 13, 14, 15] (by decide) rfl
  have J16_2 : ∀ (H : Heap) (locs : List Loc) (ls : Array Slot) (z0_2 : Int32), va_P (dC, dI) vwCl (wMo cI cZ cJ mo_a mo) H → va_D A (wMo cI cZ cJ mo_a mo) → va_S A s.heap H locs → lv_has ls 4 [(0, .ref (mo_a 0)), (1, .int x1), (2, .int x2), (3, .int x3)] → j_Model_at_16_3 mo x1 x2 x3 z0_2 = some res → W p l e R s m args below meth c H locs cells slots Q (F0 m 16 ls [.int z0_2, .ref (mo_a 0)]) := by
    intro H locs ls z0_2 hP hD hS hl hf
    rw [j_Model_at_16_3] at hf
    obtain ⟨⟨r_4, mo_5⟩, hf1, hf⟩ := bd_ex hf
    try dsimp only at hf
    have hPc := hP.sub (ws' := (wMo cI cZ cJ mo_a mo)) [0, 1, 2, 3, 4, 5, 6, 7, 8, 9, 10, 11, 12, 13, 14, 15] rfl
    have hDc := hD.sub (ws' := (wMo cI cZ cJ mo_a mo)) [0, 1, 2, 3, 4, 5, 6, 7, 8, 9, 10, 11, 12, 13, 14, 15] (by decide) rfl
    have hFc := va_free (wc := (wMo cI cZ cJ mo_a mo)) hD hS hA [0, 1, 2, 3, 4, 5, 6, 7, 8, 9, 10, 11, 12, 13, 14, 15] rfl
    refine va_calli (va_runV (As := [.int z0_2]) (rest := []) ⟨hx, hb, hml, hown, hts⟩ (k_Model_refuses l dC dI cI cZ cJ mo_a H.size hf1) (cwV 1 hts (gV t_914 t_916 t_23 t_63 t_917) rfl rfl rfl hd_Model_refuses ⟨Nat.le_trans (Nat.le_of_ble_eq_true rfl) hRf, Nat.le_trans (Nat.le_of_ble_eq_true rfl) hRl⟩) ⟨kP_blind, va_recv hK hP (ci := 7) (q0 := 0) rfl rfl, kP_at hPc hK hDc hN⟩ rfl rfl hl.1 rfl (lv_room (Nat.le_of_ble_eq_true rfl)) d_Model_at_16 hRc) hS (fun q _ h => hFc q h) hFc (fun r9 u t H1 locs ht hvm hw hB hz1 hk1 hS => ?_)
    rw [hw.1]
    obtain ⟨hP, hD⟩ := kQ_join (wr := ([] : va_W)) (w1 := (wMo cI cZ cJ mo_a mo_5)) hP hD [0, 1, 2, 3, 4, 5, 6, 7, 8, 9, 10, 11, 12, 13, 14, 15] [] rfl rfl (by decide) (by decide) ht hk1 hFc hB
    generalize H1 = H at hP hS ⊢
    have hP : va_P (dC, dI) vwCl (wMo cI cZ cJ mo_a mo_5) H := hP.sub [0, 1, 2, 3, 4, 5, 6, 7, 8, 9, 10, 11, 12, 13, 14, 15] rfl
    have hD : va_D A (wMo cI cZ cJ mo_a mo_5) := hD.sub [0, 1, 2, 3, 4, 5, 6, 7, 8, 9, 10, 11, 12, 13, 14, 15] (by decide) rfl
    refine lv_if_ne (tgt := 37) hx hb d_Model_at_19 (by decide) (fun c_6 => ?_) (fun c_6 => ?_)
    · rw [if_neg c_6] at hf
      refine lv_iconst (v := 0) hx hb d_Model_at_37 (by decide) ?_
      exact hr38 _ _ _ 0 mo_5 (by decide) hP hD hS hf
    · rw [if_pos c_6] at hf
      refine lv_aload_n hx hb d_Model_at_22 rfl (lv_at hl 0 rfl) ?_
      refine lv_iload_n hx hb d_Model_at_23 rfl (lv_at hl 1 rfl) ?_
      refine lv_iload_n hx hb d_Model_at_24 rfl (lv_at hl 2 rfl) ?_
      refine lv_iload_n hx hb d_Model_at_25 rfl (lv_at hl 3 rfl) ?_
      obtain ⟨r_7, hf1, hf⟩ := bd_ex hf
      try dsimp only at hf
      have hPc := hP.sub (ws' := (wMo cI cZ cJ mo_a mo_5)) [0, 1, 2, 3, 4, 5, 6, 7, 8, 9, 10, 11, 12, 13, 14, 15] rfl
      have hDc := hD.sub (ws' := (wMo cI cZ cJ mo_a mo_5)) [0, 1, 2, 3, 4, 5, 6, 7, 8, 9, 10, 11, 12, 13, 14, 15] (by decide) rfl
      have hFc := va_free (wc := (wMo cI cZ cJ mo_a mo_5)) hD hS hA [0, 1, 2, 3, 4, 5, 6, 7, 8, 9, 10, 11, 12, 13, 14, 15] rfl
      refine va_calli (va_runV (As := [.int x1, .int x2, .int x3]) (rest := []) ⟨hx, hb, hml, hown, hts⟩ (k_Model_sample l dC dI cI cZ cJ mo_a H.size hf1) (cwV 3 hts (gV t_930 t_932 t_26 t_63 t_933) rfl rfl rfl hd_Model_sample ⟨Nat.le_trans (Nat.le_of_ble_eq_true rfl) hRf, Nat.le_trans (Nat.le_of_ble_eq_true rfl) hRl⟩) ⟨kP_blind, va_recv hK hP (ci := 7) (q0 := 0) rfl rfl, kP_at hPc hK hDc hN⟩ rfl rfl hl.1 rfl (lv_room (Nat.le_of_ble_eq_true rfl)) d_Model_at_26 hRc) hS (fun q _ h => hFc q h) hFc (fun r9 u t H1 locs ht hvm hw hB hz1 hk1 hS => ?_)
      rw [hw]
      obtain ⟨hP, hD⟩ := kQ_join (wr := ([] : va_W)) (w1 := (wMo cI cZ cJ mo_a mo_5)) hP hD [0, 1, 2, 3, 4, 5, 6, 7, 8, 9, 10, 11, 12, 13, 14, 15] [] rfl rfl (by decide) (by decide) ht hk1 hFc hB
      generalize H1 = H at hP hS ⊢
      have hP : va_P (dC, dI) vwCl (wMo cI cZ cJ mo_a mo_5) H := hP.sub [0, 1, 2, 3, 4, 5, 6, 7, 8, 9, 10, 11, 12, 13, 14, 15] rfl
      have hD : va_D A (wMo cI cZ cJ mo_a mo_5) := hD.sub [0, 1, 2, 3, 4, 5, 6, 7, 8, 9, 10, 11, 12, 13, 14, 15] (by decide) rfl
      refine lv_iconst (v := 1) hx hb d_Model_at_29 (by decide) ?_
      refine lv_icmp_ne (tgt := 37) hx hb d_Model_at_30 (by decide) (fun c_8 => ?_) (fun c_8 => ?_)
      · rw [if_neg c_8] at hf
        refine lv_iconst (v := 0) hx hb d_Model_at_37 (by decide) ?_
        exact hr38 _ _ _ 0 mo_5 (by decide) hP hD hS hf
      · rw [if_pos c_8] at hf
        refine lv_iconst (v := 1) hx hb d_Model_at_33 (by decide) ?_
        refine lv_goto (tgt := 38) hx hb d_Model_at_34 (by decide) ?_
        exact hr38 _ _ _ 1 mo_5 (by decide) hP hD hS hf
  refine lv_if_eq (tgt := 15) hx hb d_Model_at_8 (by decide) (fun c_9 => ?_) (fun c_9 => ?_)
  · rw [if_pos c_9] at hf
    refine lv_iconst (v := 1) hx hb d_Model_at_15 (by decide) ?_
    exact J16_2 _ _ _ 1 hP hD hS (lv_sub hl [0, 1, 2, 3] rfl) hf
  · rw [if_neg c_9] at hf
    refine lv_iconst (v := 0) hx hb d_Model_at_11 (by decide) ?_
    refine lv_goto (tgt := 16) hx hb d_Model_at_12 (by decide) ?_
    exact J16_2 _ _ _ 0 hP hD hS (lv_sub hl [0, 1, 2, 3] rfl) hf
end
set_option maxHeartbeats 4000000 in
set_option maxRecDepth 100000 in
theorem k_Model_at (l : Launch) (dC : Nat → ClassId) (dI : Nat → Nat → Nat) (cI cZ cJ : ClassId) (mo_a : Nat → Nat) (sz : Nat) {mo : Mo} {x1 : Int32} {x2 : Int32} {x3 : Int32} {r : Int32} {mo' : Mo} (hf : f_Model_at mo x1 x2 x3 = some (r, mo')) :
    Met l y_Model_at ws_Model_at ({ frames := 2, cells := 0, slots := 0, locals := 44 }) (va_Pc [.ref (mo_a 0), .int x1, .int x2, .int x3] (kP (dC, dI) vwCl (TYS cI cZ cJ) (wMo cI cZ cJ mo_a mo) sz)) (va_Qi (fun (q : Int32) (_ : Unit) => q = r ∧ vp_nar .boolean r = r) (fun _ t => kQ (dC, dI) vwCl (TYS cI cZ cJ) (wMo cI cZ cJ mo_a mo) sz (wMo cI cZ cJ mo_a mo') t) (va_A (wMo cI cZ cJ mo_a mo) sz)) 0 0 (va_A (wMo cI cZ cJ mo_a mo) sz) := by
  refine Met.ofW (cc := c_Model_at) (maxL := 4) (ret := (some .boolean)) (by decide) rfl ?_
  intro p e s m args below meth c s₁ B hml hv
  obtain ⟨rfl, hsz, hP, hK, hD0, hN⟩ := hv
  have hr := B.returns
  have hlocks := B.notSynchronized
  subst hsz
  have hD := hD0.self (sz := s.heap.size)
  have hl := lv_entry ([.ref (mo_a 0), .int x1, .int x2, .int x3]) (n := 4) (Nat.le_of_ble_eq_true rfl)
  rw [lg_entry_eq]
  generalize (lg_sl ([.ref (mo_a 0), .int x1, .int x2, .int x3]) ++ List.replicate (4 - (lg_sl ([.ref (mo_a 0), .int x1, .int x2, .int x3])).length) Slot.unset).toArray = ls at hl ⊢
  refine B_Model_at (A := va_A (wMo cI cZ cJ mo_a mo) s.heap.size) ⟨B.exec, B.bytes, hml, findClass_of_methodNamed B.named, fun w h => atoms_spec (ws := ws_Model_at) B.pre w (List.mem_cons_of_mem _ h), hK, fun q h => Or.inr h, Nat.le_of_ble_eq_true rfl, Nat.le_of_ble_eq_true rfl, hN, Nat.le_of_ble_eq_true rfl, Nat.le_of_ble_eq_true rfl⟩ (fun H locs ls v mo'1 hz hP hD hS hf => ?_) hP hD va_S.rf hl hf
  · cases hf
    exact W.zret B.exec B.bytes hr (nz_n hz) (fun t ht hW => ⟨⟨_, (), rfl, ⟨rfl, hz⟩, ⟨by rw [ht]; exact hP, va_K.moved hW.alike hK, hD⟩⟩, hS.F ht⟩) hS.2.2 d_Model_at_38

/-! Model_isBefore -/
def f_Model_isBefore (mo : Mo) (x1 : Int32) (x2 : Int32) : Option (Int32) := gd (inb x1 80) <| gd (inb x2 80) <| (if (Mo_ht mo x1.toNatClampNeg) = (Mo_ht mo x2.toNatClampNeg) then gd (inb x1 80) <| gd (inb x2 80) <| (if (Mo_wd mo x1.toNatClampNeg) = (Mo_wd mo x2.toNatClampNeg) then (if x2 ≤ x1 then some 0 else some 1) else gd (inb x1 80) <| gd (inb x2 80) <| (if (Mo_wd mo x2.toNatClampNeg) ≤ (Mo_wd mo x1.toNatClampNeg) then some 0 else some 1)) else gd (inb x1 80) <| gd (inb x2 80) <| (if (Mo_ht mo x2.toNatClampNeg) ≤ (Mo_ht mo x1.toNatClampNeg) then some 0 else some 1))
section
variable {p : Program} {l : Launch} {e : Env} {R : Room} {s : State} {m : MethodId} {args : Array Value} {below : List Frame} {meth : Method} {c : Code} {Q : State → Prop} {A : Nat → Prop}
set_option maxHeartbeats 4000000 in
set_option maxRecDepth 100000 in
theorem B_Model_isBefore {cells slots : Nat} {dC : Nat → ClassId} {dI : Nat → Nat → Nat} {cI cZ cJ : ClassId} {mo_a : Nat → Nat} {mo : Mo} {x1 : Int32} {x2 : Int32} {res : Int32} (C0 : cxt p c m s args R cells slots R_Model c_Model_isBefore tb 3 (dC, dI) vwCl (TYS cI cZ cJ) A 0 0)
    (hr35 : ∀ (H : Heap) (locs : List Loc) (ls : Array Slot) (v : Int32), vp_nar .boolean v = v → va_P (dC, dI) vwCl (wMo cI cZ cJ mo_a mo) H → va_D A (wMo cI cZ cJ mo_a mo) → va_S A s.heap H locs → some v = some res → W p l e R s m args below meth c H locs cells slots Q (F0 m 35 ls [.int v]))
    (hr84 : ∀ (H : Heap) (locs : List Loc) (ls : Array Slot) (v : Int32), vp_nar .boolean v = v → va_P (dC, dI) vwCl (wMo cI cZ cJ mo_a mo) H → va_D A (wMo cI cZ cJ mo_a mo) → va_S A s.heap H locs → some v = some res → W p l e R s m args below meth c H locs cells slots Q (F0 m 84 ls [.int v]))
    {H : Heap} {locs : List Loc} {ls : Array Slot} (hP : va_P (dC, dI) vwCl (wMo cI cZ cJ mo_a mo) H) (hD : va_D A (wMo cI cZ cJ mo_a mo)) (hS : va_S A s.heap H locs) (hl : lv_has ls 3 [(0, .ref (mo_a 0)), (1, .int x1), (2, .int x2)]) (hf : f_Model_isBefore mo x1 x2 = some res) : W p l e R s m args below meth c H locs cells slots Q (F0 m 0 ls []) := by
  obtain ⟨hx, hb, hml, hown, hts, hK, hA, hRf, hRl, hN, hRc⟩ := id C0
  rw [f_Model_isBefore] at hf
  refine lv_aload_n hx hb d_Model_isBefore_0 rfl (lv_at hl 0 rfl) ?_
  refine va_get (D := (dC, dI)) (ci := 7) (v := .ref (mo_a 2)) (C := R_Model) (T := T_Model) (N := 27) hx hb hts in_Model hown hK hP 0 rfl rfl 4 (by decide) (hts _ t_828) (fun _ h9 => h9) rfl d_Model_isBefore_1 ?_
  refine lv_iload_n hx hb d_Model_isBefore_4 rfl (lv_at hl 1 rfl) ?_
  obtain ⟨h_1, hf⟩ := gd_ex hf
  refine va_iald (f := Mo_ht mo) hx hb hK hP 2 0 rfl rfl (inb_in h_1) d_Model_isBefore_5 ?_
  refine lv_aload_n hx hb d_Model_isBefore_6 rfl (lv_at hl 0 rfl) ?_
  refine va_get (D := (dC, dI)) (ci := 7) (v := .ref (mo_a 2)) (C := R_Model) (T := T_Model) (N := 27) hx hb hts in_Model hown hK hP 0 rfl rfl 4 (by decide) (hts _ t_828) (fun _ h9 => h9) rfl d_Model_isBefore_7 ?_
  refine lv_iload_n hx hb d_Model_isBefore_10 rfl (lv_at hl 2 rfl) ?_
  obtain ⟨h_2, hf⟩ := gd_ex hf
  refine va_iald (f := Mo_ht mo) hx hb hK hP 2 0 rfl rfl (inb_in h_2) d_Model_isBefore_11 ?_
  refine lv_icmp_eq (tgt := 36) hx hb d_Model_isBefore_12 (by decide) (fun c_3 => ?_) (fun c_3 => ?_)
  · rw [if_pos c_3] at hf
    refine lv_aload_n hx hb d_Model_isBefore_36 rfl (lv_at hl 0 rfl) ?_
    refine va_get (D := (dC, dI)) (ci := 7) (v := .ref (mo_a 1)) (C := R_Model) (T := T_Model) (N := 27) hx hb hts in_Model hown hK hP 0 rfl rfl 3 (by decide) (hts _ t_827) (fun _ h9 => h9) rfl d_Model_isBefore_37 ?_
    refine lv_iload_n hx hb d_Model_isBefore_40 rfl (lv_at hl 1 rfl) ?_
    obtain ⟨h_4, hf⟩ := gd_ex hf
    refine va_iald (f := Mo_wd mo) hx hb hK hP 1 0 rfl rfl (inb_in h_4) d_Model_isBefore_41 ?_
    refine lv_aload_n hx hb d_Model_isBefore_42 rfl (lv_at hl 0 rfl) ?_
    refine va_get (D := (dC, dI)) (ci := 7) (v := .ref (mo_a 1)) (C := R_Model) (T := T_Model) (N := 27) hx hb hts in_Model hown hK hP 0 rfl rfl 3 (by decide) (hts _ t_827) (fun _ h9 => h9) rfl d_Model_isBefore_43 ?_
    refine lv_iload_n hx hb d_Model_isBefore_46 rfl (lv_at hl 2 rfl) ?_
    obtain ⟨h_5, hf⟩ := gd_ex hf
    refine va_iald (f := Mo_wd mo) hx hb hK hP 1 0 rfl rfl (inb_in h_5) d_Model_isBefore_47 ?_
    refine lv_icmp_eq (tgt := 74) hx hb d_Model_isBefore_48 (by decide) (fun c_6 => ?_) (fun c_6 => ?_)
    · rw [if_pos c_6] at hf
      refine lv_iload_n hx hb d_Model_isBefore_74 rfl (lv_at hl 1 rfl) ?_
      refine lv_iload_n hx hb d_Model_isBefore_75 rfl (lv_at hl 2 rfl) ?_
      refine lv_icmp_ge (tgt := 83) hx hb d_Model_isBefore_76 (by decide) (fun c_7 => ?_) (fun c_7 => ?_)
      · rw [if_pos c_7] at hf
        refine lv_iconst (v := 0) hx hb d_Model_isBefore_83 (by decide) ?_
        exact hr84 _ _ _ 0 (by decide) hP hD hS hf
      · rw [if_neg c_7] at hf
        refine lv_iconst (v := 1) hx hb d_Model_isBefore_79 (by decide) ?_
        refine lv_goto (tgt := 84) hx hb d_Model_isBefore_80 (by decide) ?_
        exact hr84 _ _ _ 1 (by decide) hP hD hS hf
    · rw [if_neg c_6] at hf
      refine lv_aload_n hx hb d_Model_isBefore_51 rfl (lv_at hl 0 rfl) ?_
      refine va_get (D := (dC, dI)) (ci := 7) (v := .ref (mo_a 1)) (C := R_Model) (T := T_Model) (N := 27) hx hb hts in_Model hown hK hP 0 rfl rfl 3 (by decide) (hts _ t_827) (fun _ h9 => h9) rfl d_Model_isBefore_52 ?_
      refine lv_iload_n hx hb d_Model_isBefore_55 rfl (lv_at hl 1 rfl) ?_
      obtain ⟨h_8, hf⟩ := gd_ex hf
      refine va_iald (f := Mo_wd mo) hx hb hK hP 1 0 rfl rfl (inb_in h_8) d_Model_isBefore_56 ?_
      refine lv_aload_n hx hb d_Model_isBefore_57 rfl (lv_at hl 0 rfl) ?_
      refine va_get (D := (dC, dI)) (ci := 7) (v := .ref (mo_a 1)) (C := R_Model) (T := T_Model) (N := 27) hx hb hts in_Model hown hK hP 0 rfl rfl 3 (by decide) (hts _ t_827) (fun _ h9 => h9) rfl d_Model_isBefore_58 ?_
      refine lv_iload_n hx hb d_Model_isBefore_61 rfl (lv_at hl 2 rfl) ?_
      obtain ⟨h_9, hf⟩ := gd_ex hf
      refine va_iald (f := Mo_wd mo) hx hb hK hP 1 0 rfl rfl (inb_in h_9) d_Model_isBefore_62 ?_
      refine lv_icmp_ge (tgt := 70) hx hb d_Model_isBefore_63 (by decide) (fun c_10 => ?_) (fun c_10 => ?_)
      · rw [if_pos c_10] at hf
        refine lv_iconst (v := 0) hx hb d_Model_isBefore_70 (by decide) ?_
        refine lv_goto (tgt := 84) hx hb d_Model_isBefore_71 (by decide) ?_
        exact hr84 _ _ _ 0 (by decide) hP hD hS hf
      · rw [if_neg c_10] at hf
        refine lv_iconst (v := 1) hx hb d_Model_isBefore_66 (by decide) ?_
        refine lv_goto (tgt := 84) hx hb d_Model_isBefore_67 (by decide) ?_
        exact hr84 _ _ _ 1 (by decide) hP hD hS hf
  · rw [if_neg c_3] at hf
    refine lv_aload_n hx hb d_Model_isBefore_15 rfl (lv_at hl 0 rfl) ?_
    refine va_get (D := (dC, dI)) (ci := 7) (v := .ref (mo_a 2)) (C := R_Model) (T := T_Model) (N := 27) hx hb hts in_Model hown hK hP 0 rfl rfl 4 (by decide) (hts _ t_828) (fun _ h9 => h9) rfl d_Model_isBefore_16 ?_
    refine lv_iload_n hx hb d_Model_isBefore_19 rfl (lv_at hl 1 rfl) ?_
    obtain ⟨h_11, hf⟩ := gd_ex hf
    refine va_iald (f := Mo_ht mo) hx hb hK hP 2 0 rfl rfl (inb_in h_11) d_Model_isBefore_20 ?_
    refine lv_aload_n hx hb d_Model_isBefore_21 rfl (lv_at hl 0 rfl) ?_
    refine va_get (D := (dC, dI)) (ci := 7) (v := .ref (mo_a 2)) (C := R_Model) (T := T_Model) (N := 27) hx hb hts in_Model hown hK hP 0 rfl rfl 4 (by decide) (hts _ t_828) (fun _ h9 => h9) rfl d_Model_isBefore_22 ?_
    refine lv_iload_n hx hb d_Model_isBefore_25 rfl (lv_at hl 2 rfl) ?_
    obtain ⟨h_12, hf⟩ := gd_ex hf
    refine va_iald (f := Mo_ht mo) hx hb hK hP 2 0 rfl rfl (inb_in h_12) d_Model_isBefore_26 ?_
    refine lv_icmp_ge (tgt := 34) hx hb d_Model_isBefore_27 (by decide) (fun c_13 => ?_) (fun c_13 => ?_)
    · rw [if_pos c_13] at hf
      refine lv_iconst (v := 0) hx hb d_Model_isBefore_34 (by decide) ?_
      exact hr35 _ _ _ 0 (by decide) hP hD hS hf
    · rw [if_neg c_13] at hf
      refine lv_iconst (v := 1) hx hb d_Model_isBefore_30 (by decide) ?_
      refine lv_goto (tgt := 35) hx hb d_Model_isBefore_31 (by decide) ?_
      exact hr35 _ _ _ 1 (by decide) hP hD hS hf
end
set_option maxHeartbeats 4000000 in
set_option maxRecDepth 100000 in
theorem k_Model_isBefore (l : Launch) (dC : Nat → ClassId) (dI : Nat → Nat → Nat) (cI cZ cJ : ClassId) (mo_a : Nat → Nat) (sz : Nat) {mo : Mo} {x1 : Int32} {x2 : Int32} {r : Int32} (hf : f_Model_isBefore mo x1 x2 = some r) :
    Met l y_Model_isBefore ws_Model_isBefore ({ frames := 0, cells := 0, slots := 0, locals := 0 }) (va_Pc [.ref (mo_a 0), .int x1, .int x2] (kP (dC, dI) vwCl (TYS cI cZ cJ) (wMo cI cZ cJ mo_a mo) sz)) (va_Qi (fun (q : Int32) (_ : Unit) => q = r ∧ vp_nar .boolean r = r) (fun _ t => kQ (dC, dI) vwCl (TYS cI cZ cJ) (wMo cI cZ cJ mo_a mo) sz (wMo cI cZ cJ mo_a mo) t) (va_A (wMo cI cZ cJ mo_a mo) sz)) 0 0 (va_A (wMo cI cZ cJ mo_a mo) sz) := by
  refine Met.ofW (cc := c_Model_isBefore) (maxL := 3) (ret := (some .boolean)) (by decide) rfl ?_
  intro p e s m args below meth c s₁ B hml hv
  obtain ⟨rfl, hsz, hP, hK, hD0, hN⟩ := hv
  have hr := B.returns
  have hlocks := B.notSynchronized
  subst hsz
  have hD := hD0.self (sz := s.heap.size)
  have hl := lv_entry ([.ref (mo_a 0), .int x1, .int x2]) (n := 3) (Nat.le_of_ble_eq_true rfl)
  rw [lg_entry_eq]
  generalize (lg_sl ([.ref (mo_a 0), .int x1, .int x2]) ++ List.replicate (3 - (lg_sl ([.ref (mo_a 0), .int x1, .int x2])).length) Slot.unset).toArray = ls at hl ⊢
  refine B_Model_isBefore (A := va_A (wMo cI cZ cJ mo_a mo) s.heap.size) ⟨B.exec, B.bytes, hml, findClass_of_methodNamed B.named, fun w h => atoms_spec (ws := ws_Model_isBefore) B.pre w (List.mem_cons_of_mem _ h), hK, fun q h => Or.inr h, Nat.le_of_ble_eq_true rfl, Nat.le_of_ble_eq_true rfl, hN, Nat.le_of_ble_eq_true rfl, Nat.le_of_ble_eq_true rfl⟩ (fun H locs ls v hz hP hD hS hf => ?_) (fun H locs ls v hz hP hD hS hf => ?_) hP hD va_S.rf hl hf
  · cases hf
    exact W.zret B.exec B.bytes hr (nz_n hz) (fun t ht hW => ⟨⟨_, (), rfl, ⟨rfl, hz⟩, ⟨by rw [ht]; exact hP, va_K.moved hW.alike hK, hD⟩⟩, hS.F ht⟩) hS.2.2 d_Model_isBefore_35
  · cases hf
    exact W.zret B.exec B.bytes hr (nz_n hz) (fun t ht hW => ⟨⟨_, (), rfl, ⟨rfl, hz⟩, ⟨by rw [ht]; exact hP, va_K.moved hW.alike hK, hD⟩⟩, hS.F ht⟩) hS.2.2 d_Model_isBefore_84

/-! Model_isShift -/
def f_Model_isShift (x0 : Int32) : Option (Int32) := (if x0 < (-4) then some 0 else (if 4 < x0 then some 0 else some 1))
section
variable {p : Program} {l : Launch} {e : Env} {R : Room} {s : State} {m : MethodId} {args : Array Value} {below : List Frame} {meth : Method} {c : Code} {Q : State → Prop} {A : Nat → Prop}
set_option maxHeartbeats 4000000 in
set_option maxRecDepth 100000 in
theorem B_Model_isShift {cells slots : Nat} {dC : Nat → ClassId} {dI : Nat → Nat → Nat} {cI cZ cJ : ClassId} {x0 : Int32} {res : Int32} (C0 : cxt p c m s args R cells slots R_Model c_Model_isShift tb 1 (dC, dI) vwCl (TYS cI cZ cJ) A 0 0)
    (hr16 : ∀ (H : Heap) (locs : List Loc) (ls : Array Slot) (v : Int32), vp_nar .boolean v = v → va_P (dC, dI) vwCl ([] : va_W) H → va_D A ([] : va_W) → va_S A s.heap H locs → some v = some res → W p l e R s m args below meth c H locs cells slots Q (F0 m 16 ls [.int v]))
    {H : Heap} {locs : List Loc} {ls : Array Slot} (hP : va_P (dC, dI) vwCl ([] : va_W) H) (hD : va_D A ([] : va_W)) (hS : va_S A s.heap H locs) (hl : lv_has ls 1 [(0, .int x0)]) (hf : f_Model_isShift x0 = some res) : W p l e R s m args below meth c H locs cells slots Q (F0 m 0 ls []) := by
  obtain ⟨hx, hb, hml, hown, hts, hK, hA, hRf, hRl, hN, hRc⟩ := id C0
  rw [f_Model_isShift] at hf
  refine lv_iload_n hx hb d_Model_isShift_0 rfl (lv_at hl 0 rfl) ?_
  refine lv_bipush (v := (-4)) hx hb d_Model_isShift_1 (by decide) ?_
  refine lv_icmp_lt (tgt := 15) hx hb d_Model_isShift_3 (by decide) (fun c_1 => ?_) (fun c_1 => ?_)
  · rw [if_pos c_1] at hf
    refine lv_iconst (v := 0) hx hb d_Model_isShift_15 (by decide) ?_
    exact hr16 _ _ _ 0 (by decide) hP hD hS hf
  · rw [if_neg c_1] at hf
    refine lv_iload_n hx hb d_Model_isShift_6 rfl (lv_at hl 0 rfl) ?_
    refine lv_iconst (v := 4) hx hb d_Model_isShift_7 (by decide) ?_
    refine lv_icmp_gt (tgt := 15) hx hb d_Model_isShift_8 (by decide) (fun c_2 => ?_) (fun c_2 => ?_)
    · rw [if_pos c_2] at hf
      refine lv_iconst (v := 0) hx hb d_Model_isShift_15 (by decide) ?_
      exact hr16 _ _ _ 0 (by decide) hP hD hS hf
    · rw [if_neg c_2] at hf
      refine lv_iconst (v := 1) hx hb d_Model_isShift_11 (by decide) ?_
      refine lv_goto (tgt := 16) hx hb d_Model_isShift_12 (by decide) ?_
      exact hr16 _ _ _ 1 (by decide) hP hD hS hf
end
set_option maxHeartbeats 4000000 in
set_option maxRecDepth 100000 in
theorem k_Model_isShift (l : Launch) (dC : Nat → ClassId) (dI : Nat → Nat → Nat) (cI cZ cJ : ClassId) (sz : Nat) {x0 : Int32} {r : Int32} (hf : f_Model_isShift x0 = some r) :
    Met l y_Model_isShift ws_Model_isShift ({ frames := 0, cells := 0, slots := 0, locals := 0 }) (va_Pc [.int x0] (kP (dC, dI) vwCl (TYS cI cZ cJ) ([] : va_W) sz)) (va_Qi (fun (q : Int32) (_ : Unit) => q = r ∧ vp_nar .boolean r = r) (fun _ t => kQ (dC, dI) vwCl (TYS cI cZ cJ) ([] : va_W) sz ([] : va_W) t) (va_A ([] : va_W) sz)) 0 0 (va_A ([] : va_W) sz) := by
  refine Met.ofW (cc := c_Model_isShift) (maxL := 1) (ret := (some .boolean)) (by decide) rfl ?_
  intro p e s m args below meth c s₁ B hml hv
  obtain ⟨rfl, hsz, hP, hK, hD0, hN⟩ := hv
  have hr := B.returns
  have hlocks := B.notSynchronized
  subst hsz
  have hD := hD0.self (sz := s.heap.size)
  have hl := lv_entry ([.int x0]) (n := 1) (Nat.le_of_ble_eq_true rfl)
  rw [lg_entry_eq]
  generalize (lg_sl ([.int x0]) ++ List.replicate (1 - (lg_sl ([.int x0])).length) Slot.unset).toArray = ls at hl ⊢
  refine B_Model_isShift (A := va_A ([] : va_W) s.heap.size) ⟨B.exec, B.bytes, hml, findClass_of_methodNamed B.named, fun w h => atoms_spec (ws := ws_Model_isShift) B.pre w (List.mem_cons_of_mem _ h), hK, fun q h => Or.inr h, Nat.le_of_ble_eq_true rfl, Nat.le_of_ble_eq_true rfl, hN, Nat.le_of_ble_eq_true rfl, Nat.le_of_ble_eq_true rfl⟩ (fun H locs ls v hz hP hD hS hf => ?_) hP hD va_S.rf hl hf
  · cases hf
    exact W.zret B.exec B.bytes hr (nz_n hz) (fun t ht hW => ⟨⟨_, (), rfl, ⟨rfl, hz⟩, ⟨by rw [ht]; exact hP, va_K.moved hW.alike hK, hD⟩⟩, hS.F ht⟩) hS.2.2 d_Model_isShift_16

/-! Model_refined -/
def j_Model_refined_131_17 (x1 : Int32) (x4 : Int32) (z0_4 : Int32) (x7_12 : Int32) (mo_14 : Mo) (z0_16 : Int32) : Option (Int32 × Mo) := gd (inb x1 80) <| lt' (Mo_s_dx mo_14 (upd (Mo_dx mo_14) x1.toNatClampNeg z0_16)) <| fun mo_19 => (if z0_4 = 0 then gd (inb x1 80) <| lt' (Mo_s_dy mo_19 (upd (Mo_dy mo_19) x1.toNatClampNeg x4)) <| fun mo_23 => some (x7_12, mo_23) else gd (inb x1 80) <| lt' (Mo_s_dy mo_19 (upd (Mo_dy mo_19) x1.toNatClampNeg 0)) <| fun mo_26 => some (x7_12, mo_26))
def j_Model_refined_93_7 (mo : Mo) (x1 : Int32) (x2 : Int32) (x3 : Int32) (x4 : Int32) (z0_4 : Int32) (z0_6 : Int32) : Option (Int32 × Mo) := bd (f_Model_refuses mo z0_6) <| fun (r_8, mo_9) => (if r_8 = 0 then gd (inb x1 80) <| lt' (Mo_bs mo_9 x1.toNatClampNeg) <| fun x7_12 => gd (inb x1 80) <| lt' (Mo_s_bs mo_9 (upd (Mo_bs mo_9) x1.toNatClampNeg x2)) <| fun mo_14 => (if z0_4 = 0 then j_Model_refined_131_17 x1 x4 z0_4 x7_12 mo_14 x3 else j_Model_refined_131_17 x1 x4 z0_4 x7_12 mo_14 0) else some (0, mo_9))
def j_Model_refined_38_5 (mo : Mo) (x1 : Int32) (x2 : Int32) (x3 : Int32) (x4 : Int32) (z0_2 : Int32) (z0_4 : Int32) : Option (Int32 × Mo) := (if z0_2 = 0 then j_Model_refined_93_7 mo x1 x2 x3 x4 z0_4 1 else (if z0_4 = 0 then bd (f_Model_isShift x3) <| fun r_34 => (if r_34 = 0 then j_Model_refined_93_7 mo x1 x2 x3 x4 z0_4 2 else bd (f_Model_isShift x4) <| fun r_36 => (if r_36 = 0 then j_Model_refined_93_7 mo x1 x2 x3 x4 z0_4 2 else (if z0_4 = 0 then bd (f_Model_isBefore mo x2 x1) <| fun r_39 => (if r_39 = 0 then j_Model_refined_93_7 mo x1 x2 x3 x4 z0_4 3 else j_Model_refined_93_7 mo x1 x2 x3 x4 z0_4 0) else j_Model_refined_93_7 mo x1 x2 x3 x4 z0_4 0))) else (if z0_4 = 0 then bd (f_Model_isBefore mo x2 x1) <| fun r_32 => (if r_32 = 0 then j_Model_refined_93_7 mo x1 x2 x3 x4 z0_4 3 else j_Model_refined_93_7 mo x1 x2 x3 x4 z0_4 0) else j_Model_refined_93_7 mo x1 x2 x3 x4 z0_4 0)))
def j_Model_refined_26_3 (mo : Mo) (x1 : Int32) (x2 : Int32) (x3 : Int32) (x4 : Int32) (z0_2 : Int32) : Option (Int32 × Mo) := (if x2 = (-1) then j_Model_refined_38_5 mo x1 x2 x3 x4 z0_2 1 else j_Model_refined_38_5 mo x1 x2 x3 x4 z0_2 0)
def f_Model_refined (mo : Mo) (x1 : Int32) (x2 : Int32) (x3 : Int32) (x4 : Int32) : Option (Int32 × Mo) := bd (f_Model_isSymbol mo x1) <| fun r_1 => (if r_1 = 0 then j_Model_refined_26_3 mo x1 x2 x3 x4 0 else (if x2 = (-1) then j_Model_refined_26_3 mo x1 x2 x3 x4 1 else bd (f_Model_isSymbol mo x2) <| fun r_44 => (if r_44 = 0 then j_Model_refined_26_3 mo x1 x2 x3 x4 0 else j_Model_refined_26_3 mo x1 x2 x3 x4 1)))
section
variable {p : Program} {l : Launch} {e : Env} {R : Room} {s : State} {m : MethodId} {args : Array Value} {below : List Frame} {meth : Method} {c : Code} {Q : State → Prop} {A : Nat → Prop}
set_option maxHeartbeats 4000000 in
set_option maxRecDepth 100000 in
theorem B_Model_refined {cells slots : Nat} {dC : Nat → ClassId} {dI : Nat → Nat → Nat} {cI cZ cJ : ClassId} {mo_a : Nat → Nat} {mo : Mo} {x1 : Int32} {x2 : Int32} {x3 : Int32} {x4 : Int32} {res : Int32 × Mo} (C0 : cxt p c m s args R cells slots R_Model c_Model_refined tb 8 (dC, dI) vwCl (TYS cI cZ cJ) A 1 22)
    (hr100 : ∀ (H : Heap) (locs : List Loc) (ls : Array Slot) (v : Int32) (mo' : Mo), va_P (dC, dI) vwCl (wMo cI cZ cJ mo_a mo') H → va_D A (wMo cI cZ cJ mo_a mo') → va_S A s.heap H locs → some (v, mo') = some res → W p l e R s m args below meth c H locs cells slots Q (F0 m 100 ls [.int v]))
    (hr151 : ∀ (H : Heap) (locs : List Loc) (ls : Array Slot) (v : Int32) (mo' : Mo), va_P (dC, dI) vwCl (wMo cI cZ cJ mo_a mo') H → va_D A (wMo cI cZ cJ mo_a mo') → va_S A s.heap H locs → some (v, mo') = some res → W p l e R s m args below meth c H locs cells slots Q (F0 m 151 ls [.int v]))
    {H : Heap} {locs : List Loc} {ls : Array Slot} (hP : va_P (dC, dI) vwCl (wMo cI cZ cJ mo_a mo) H) (hD : va_D A (wMo cI cZ cJ mo_a mo)) (hS : va_S A s.heap H locs) (hl : lv_has ls 8 [(0, .ref (mo_a 0)), (1, .int x1), (2, .int x2), (3, .int x3), (4, .int x4)]) (hf : f_Model_refined mo x1 x2 x3 x4 = some res) : W p l e R s m args below meth c H locs cells slots Q (F0 m 0 ls []) := by
  obtain ⟨hx, hb, hml, hown, hts, hK, hA, hRf, hRl, hN, hRc⟩ := id C0
  rw [f_Model_refined] at hf
  refine lv_aload_n hx hb d_Model_refined_0 rfl (lv_at hl 0 rfl) ?_
  refine lv_iload_n hx hb d_Model_refined_1 rfl (lv_at hl 1 rfl) ?_
  obtain ⟨r_1, hf1, hf⟩ := bd_ex hf
  try dsimp only at hf
  have hPc := hP.sub (ws' := (wMo cI cZ cJ mo_a mo)) [0, 1, 2, 3, 4, 5, 6, 7, 8, 9, 10, 11, 12, 13, 14, 15] rfl
  have hDc := hD.sub (ws' := (wMo cI cZ cJ mo_a mo)) [0, 1, 2, 3, 4, 5, 6, 7, 8, 9, 10, 11, 12, 13, 14, 15] (by decide) rfl
  have hFc := va_free (wc := (wMo cI cZ cJ mo_a mo)) hD hS hA [0, 1, 2, 3, 4, 5, 6, 7, 8, 9, 10, 11, 12, 13, 14, 15] rfl
  refine va_calli (va_runV (As := [.int x1]) (rest := []) ⟨hx, hb, hml, hown, hts⟩ (k_Model_isSymbol l dC dI cI cZ cJ mo_a H.size hf1) (cwV 1 hts (gV t_926 t_928 t_25 t_63 t_929) rfl rfl rfl hd_Model_isSymbol ⟨Nat.le_trans (Nat.le_of_ble_eq_true rfl) hRf, Nat.le_trans (Nat.le_of_ble_eq_true rfl) hRl⟩) ⟨kP_blind, va_recv hK hP (ci := 7) (q0 := 0) rfl rfl, kP_at hPc hK hDc hN⟩ rfl rfl hl.1 rfl (lv_room (Nat.le_of_ble_eq_true rfl)) d_Model_refined_2 hRc) hS (fun q _ h => hFc q h) hFc (fun r9 u t H1 locs ht hvm hw hB hz1 hk1 hS => ?_)
  rw [hw.1]
  obtain ⟨hP, hD⟩ := kQ_join (wr := ([] : va_W)) (w1 := (wMo cI cZ cJ mo_a mo)) hP hD [0, 1, 2, 3, 4, 5, 6, 7, 8, 9, 10, 11, 12, 13, 14, 15] [] rfl rfl (by decide) (by decide) ht hk1 hFc hB
  generalize H1 = H at hP hS ⊢
  have hP : va_P (dC, dI) vwCl (wMo cI cZ cJ mo_a mo) H := hP.sub [0, 1, 2, 3, 4, 5, 6, 7, 8, 9, 10, 11, 12, 13, 14, 15] rfl
  have hD : va_D A (wMo cI cZ cJ mo_a mo) := hD.sub [0, 1, 2, 3, 4, 5, 6, 7, 8, 9, 10, 11, 12, 13, 14, 15] (by decide) rfl
  have J26_2 : ∀ (H : Heap) (locs : List Loc) (ls : Array Slot) (z0_2 : Int32), va_P (dC, dI) vwCl (wMo cI cZ cJ mo_a mo) H → va_D A (wMo cI cZ cJ mo_a mo) → va_S A s.heap H locs → lv_has ls 8 [(0, .ref (mo_a 0)), (1, .int x1), (2, .int x2), (3, .int x3), (4, .int x4)] → j_Model_refined_26_3 mo x1 x2 x3 x4 z0_2 = some res → W p l e R s m args below meth c H locs cells slots Q (F0 m 26 ls [.int z0_2]) := by
    intro H locs ls z0_2 hP hD hS hl hf
    rw [j_Model_refined_26_3] at hf
    refine lv_istore (lv' := [(5, .int z0_2), (0, .ref (mo_a 0)), (1, .int x1), (2, .int x2), (3, .int x3), (4, .int x4)]) hx hb d_Model_refined_26 hl (by decide) rfl (fun ls hl => ?_)
    refine lv_iload_n hx hb d_Model_refined_28 rfl (lv_at hl 3 rfl) ?_
    refine lv_iconst (v := (-1)) hx hb d_Model_refined_29 (by decide) ?_
    have J38_4 : ∀ (H : Heap) (locs : List Loc) (ls : Array Slot) (z0_4 : Int32), va_P (dC, dI) vwCl (wMo cI cZ cJ mo_a mo) H → va_D A (wMo cI cZ cJ mo_a mo) → va_S A s.heap H locs → lv_has ls 8 [(0, .ref (mo_a 0)), (1, .int x1), (2, .int x2), (3, .int x3), (4, .int x4), (5, .int z0_2)] → j_Model_refined_38_5 mo x1 x2 x3 x4 z0_2 z0_4 = some res → W p l e R s m args below meth c H locs cells slots Q (F0 m 38 ls [.int z0_4]) := by
      intro H locs ls z0_4 hP hD hS hl hf
      rw [j_Model_refined_38_5] at hf
      refine lv_istore (lv' := [(6, .int z0_4), (0, .ref (mo_a 0)), (1, .int x1), (2, .int x2), (3, .int x3), (4, .int x4), (5, .int z0_2)]) hx hb d_Model_refined_38 hl (by decide) rfl (fun ls hl => ?_)
      refine lv_aload_n hx hb d_Model_refined_40 rfl (lv_at hl 1 rfl) ?_
      refine lv_iload hx hb d_Model_refined_41 (lv_at hl 6 rfl) ?_
      have J93_6 : ∀ (H : Heap) (locs : List Loc) (ls : Array Slot) (z0_6 : Int32), va_P (dC, dI) vwCl (wMo cI cZ cJ mo_a mo) H → va_D A (wMo cI cZ cJ mo_a mo) → va_S A s.heap H locs → lv_has ls 8 [(0, .ref (mo_a 0)), (1, .int x1), (2, .int x2), (3, .int x3), (4, .int x4), (6, .int z0_4)] → j_Model_refined_93_7 mo x1 x2 x3 x4 z0_4 z0_6 = some res → W p l e R s m args below meth c H locs cells slots Q (F0 m 93 ls [.int z0_6, .ref (mo_a 0)]) := by
        intro H locs ls z0_6 hP hD hS hl hf
        rw [j_Model_refined_93_7] at hf
        obtain ⟨⟨r_8, mo_9⟩, hf1, hf⟩ := bd_ex hf
        try dsimp only at hf
        have hPc := hP.sub (ws' := (wMo cI cZ cJ mo_a mo)) [0, 1, 2, 3, 4, 5, 6, 7, 8, 9, 10, 11, 12, 13, 14, 15] rfl
        have hDc := hD.sub (ws' := (wMo cI cZ cJ mo_a mo)) [0, 1, 2, 3, 4, 5, 6, 7, 8, 9, 10, 11, 12, 13, 14, 15] (by decide) rfl
        have hFc := va_free (wc := (wMo cI cZ cJ mo_a mo)) hD hS hA [0, 1, 2, 3, 4, 5, 6, 7, 8, 9, 10, 11, 12, 13, 14, 15] rfl
        refine va_calli (va_runV (As := [.int z0_6]) (rest := []) ⟨hx, hb, hml, hown, hts⟩ (k_Model_refuses l dC dI cI cZ cJ mo_a H.size hf1) (cwV 1 hts (gV t_914 t_916 t_23 t_63 t_917) rfl rfl rfl hd_Model_refuses ⟨Nat.le_trans (Nat.le_of_ble_eq_true rfl) hRf, Nat.le_trans (Nat.le_of_ble_eq_true rfl) hRl⟩) ⟨kP_blind, va_recv hK hP (ci := 7) (q0 := 0) rfl rfl, kP_at hPc hK hDc hN⟩ rfl rfl hl.1 rfl (lv_room (Nat.le_of_ble_eq_true rfl)) d_Model_refined_93 hRc) hS (fun q _ h => hFc q h) hFc (fun r9 u t H1 locs ht hvm hw hB hz1 hk1 hS => ?_)
        rw [hw.1]
        obtain ⟨hP, hD⟩ := kQ_join (wr := ([] : va_W)) (w1 := (wMo cI cZ cJ mo_a mo_9)) hP hD [0, 1, 2, 3, 4, 5, 6, 7, 8, 9, 10, 11, 12, 13, 14, 15] [] rfl rfl (by decide) (by decide) ht hk1 hFc hB
        generalize H1 = H at hP hS ⊢
        have hP : va_P (dC, dI) vwCl (wMo cI cZ cJ mo_a mo_9) H := hP.sub [0, 1, 2, 3, 4, 5, 6, 7, 8, 9, 10, 11, 12, 13, 14, 15] rfl
        have hD : va_D A (wMo cI cZ cJ mo_a mo_9) := hD.sub [0, 1, 2, 3, 4, 5, 6, 7, 8, 9, 10, 11, 12, 13, 14, 15] (by decide) rfl
        refine lv_if_eq (tgt := 101) hx hb d_Model_refined_96 (by decide) (fun c_10 => ?_) (fun c_10 => ?_)
        · rw [if_pos c_10] at hf
          refine lv_aload_n hx hb d_Model_refined_101 rfl (lv_at hl 0 rfl) ?_
          refine va_get (D := (dC, dI)) (ci := 7) (v := .ref (mo_a 5)) (C := R_Model) (T := T_Model) (N := 27) hx hb hts in_Model hown hK hP 0 rfl rfl 7 (by decide) (hts _ t_831) (fun _ h9 => h9) rfl d_Model_refined_102 ?_
          refine lv_iload_n hx hb d_Model_refined_105 rfl (lv_at hl 1 rfl) ?_
          obtain ⟨h_11, hf⟩ := gd_ex hf
          refine va_iald (f := Mo_bs mo_9) hx hb hK hP 5 0 rfl rfl (inb_in h_11) d_Model_refined_106 ?_
          obtain ⟨x7_12, ex7_12, hf⟩ := lt_ex hf
          try dsimp only at hf
          refine tp_i ex7_12 ?_
          refine lv_istore (lv' := [(7, .int x7_12), (0, .ref (mo_a 0)), (1, .int x1), (2, .int x2), (3, .int x3), (4, .int x4), (6, .int z0_4)]) hx hb d_Model_refined_107 hl (by decide) rfl (fun ls hl => ?_)
          refine lv_aload_n hx hb d_Model_refined_109 rfl (lv_at hl 1 rfl) ?_
          refine va_get (D := (dC, dI)) (ci := 7) (v := .ref (mo_a 5)) (C := R_Model) (T := T_Model) (N := 27) hx hb hts in_Model hown hK hP 0 rfl rfl 7 (by decide) (hts _ t_831) (fun _ h9 => h9) rfl d_Model_refined_110 ?_
          refine lv_iload_n hx hb d_Model_refined_113 rfl (lv_at hl 2 rfl) ?_
          refine lv_iload_n hx hb d_Model_refined_114 rfl (lv_at hl 3 rfl) ?_
          obtain ⟨h_13, hf⟩ := gd_ex hf
          refine va_iast (f := Mo_bs mo_9) hx hb hK hP hD hS 5 0 rfl rfl (inb_in h_13) d_Model_refined_115 (fun H locs hP hD hS => ?_)
          obtain ⟨mo_14, emo_14, hf⟩ := lt_ex hf
          try dsimp only at hf
          have hP : va_P (dC, dI) vwCl (wMo cI cZ cJ mo_a mo_14) H := by rw [emo_14]; exact hP
          have hD : va_D A (wMo cI cZ cJ mo_a mo_14) := by rw [emo_14]; exact hD
          refine lv_aload_n hx hb d_Model_refined_116 rfl (lv_at hl 1 rfl) ?_
          refine va_get (D := (dC, dI)) (ci := 7) (v := .ref (mo_a 6)) (C := R_Model) (T := T_Model) (N := 27) hx hb hts in_Model hown hK hP 0 rfl rfl 8 (by decide) (hts _ t_832) (fun _ h9 => h9) rfl d_Model_refined_117 ?_
          refine lv_iload_n hx hb d_Model_refined_120 rfl (lv_at hl 2 rfl) ?_
          refine lv_iload hx hb d_Model_refined_121 (lv_at hl 6 rfl) ?_
          have J131_16 : ∀ (H : Heap) (locs : List Loc) (ls : Array Slot) (z0_16 : Int32), va_P (dC, dI) vwCl (wMo cI cZ cJ mo_a mo_14) H → va_D A (wMo cI cZ cJ mo_a mo_14) → va_S A s.heap H locs → lv_has ls 8 [(0, .ref (mo_a 0)), (1, .int x1), (4, .int x4), (6, .int z0_4), (7, .int x7_12)] → j_Model_refined_131_17 x1 x4 z0_4 x7_12 mo_14 z0_16 = some res → W p l e R s m args below meth c H locs cells slots Q (F0 m 131 ls [.int z0_16, .int x1, .ref (mo_a 6)]) := by
            intro H locs ls z0_16 hP hD hS hl hf
            rw [j_Model_refined_131_17] at hf
            obtain ⟨h_18, hf⟩ := gd_ex hf
            refine va_iast (f := Mo_dx mo_14) hx hb hK hP hD hS 6 0 rfl rfl (inb_in h_18) d_Model_refined_131 (fun H locs hP hD hS => ?_)
            obtain ⟨mo_19, emo_19, hf⟩ := lt_ex hf
            try dsimp only at hf
            have hP : va_P (dC, dI) vwCl (wMo cI cZ cJ mo_a mo_19) H := by rw [emo_19]; exact hP
            have hD : va_D A (wMo cI cZ cJ mo_a mo_19) := by rw [emo_19]; exact hD
            refine lv_aload_n hx hb d_Model_refined_132 rfl (lv_at hl 0 rfl) ?_
            refine va_get (D := (dC, dI)) (ci := 7) (v := .ref (mo_a 7)) (C := R_Model) (T := T_Model) (N := 27) hx hb hts in_Model hown hK hP 0 rfl rfl 9 (by decide) (hts _ t_833) (fun _ h9 => h9) rfl d_Model_refined_133 ?_
            refine lv_iload_n hx hb d_Model_refined_136 rfl (lv_at hl 1 rfl) ?_
            refine lv_iload hx hb d_Model_refined_137 (lv_at hl 3 rfl) ?_
            refine lv_if_eq (tgt := 146) hx hb d_Model_refined_139 (by decide) (fun c_21 => ?_) (fun c_21 => ?_)
            · rw [if_pos c_21] at hf
              refine lv_iload hx hb d_Model_refined_146 (lv_at hl 2 rfl) ?_
              obtain ⟨h_22, hf⟩ := gd_ex hf
              refine va_iast (f := Mo_dy mo_19) hx hb hK hP hD hS 7 0 rfl rfl (inb_in h_22) d_Model_refined_148 (fun H locs hP hD hS => ?_)
              obtain ⟨mo_23, emo_23, hf⟩ := lt_ex hf
              try dsimp only at hf
              have hP : va_P (dC, dI) vwCl (wMo cI cZ cJ mo_a mo_23) H := by rw [emo_23]; exact hP
              have hD : va_D A (wMo cI cZ cJ mo_a mo_23) := by rw [emo_23]; exact hD
              refine lv_iload hx hb d_Model_refined_149 (lv_at hl 4 rfl) ?_
              exact hr151 _ _ _ x7_12 mo_23 hP hD hS hf
            · rw [if_neg c_21] at hf
              refine lv_iconst (v := 0) hx hb d_Model_refined_142 (by decide) ?_
              refine lv_goto (tgt := 148) hx hb d_Model_refined_143 (by decide) ?_
              obtain ⟨h_25, hf⟩ := gd_ex hf
              refine va_iast (f := Mo_dy mo_19) hx hb hK hP hD hS 7 0 rfl rfl (inb_in h_25) d_Model_refined_148 (fun H locs hP hD hS => ?_)
              obtain ⟨mo_26, emo_26, hf⟩ := lt_ex hf
              try dsimp only at hf
              have hP : va_P (dC, dI) vwCl (wMo cI cZ cJ mo_a mo_26) H := by rw [emo_26]; exact hP
              have hD : va_D A (wMo cI cZ cJ mo_a mo_26) := by rw [emo_26]; exact hD
              refine lv_iload hx hb d_Model_refined_149 (lv_at hl 4 rfl) ?_
              exact hr151 _ _ _ x7_12 mo_26 hP hD hS hf
          refine lv_if_eq (tgt := 130) hx hb d_Model_refined_123 (by decide) (fun c_28 => ?_) (fun c_28 => ?_)
          · rw [if_pos c_28] at hf
            refine lv_iload_n hx hb d_Model_refined_130 rfl (lv_at hl 4 rfl) ?_
            exact J131_16 _ _ _ x3 hP hD hS (lv_sub hl [1, 2, 5, 6, 0] rfl) hf
          · rw [if_neg c_28] at hf
            refine lv_iconst (v := 0) hx hb d_Model_refined_126 (by decide) ?_
            refine lv_goto (tgt := 131) hx hb d_Model_refined_127 (by decide) ?_
            exact J131_16 _ _ _ 0 hP hD hS (lv_sub hl [1, 2, 5, 6, 0] rfl) hf
        · rw [if_neg c_10] at hf
          refine lv_iconst (v := 0) hx hb d_Model_refined_99 (by decide) ?_
          exact hr100 _ _ _ 0 mo_9 hP hD hS hf
      refine lv_if_ne (tgt := 50) hx hb d_Model_refined_43 (by decide) (fun c_29 => ?_) (fun c_29 => ?_)
      · rw [if_neg c_29] at hf
        refine lv_iload hx hb d_Model_refined_50 (lv_at hl 0 rfl) ?_
        refine lv_if_ne (tgt := 74) hx hb d_Model_refined_52 (by decide) (fun c_30 => ?_) (fun c_30 => ?_)
        · rw [if_neg c_30] at hf
          refine lv_iload hx hb d_Model_refined_74 (lv_at hl 0 rfl) ?_
          refine lv_if_ne (tgt := 92) hx hb d_Model_refined_76 (by decide) (fun c_31 => ?_) (fun c_31 => ?_)
          · rw [if_neg c_31] at hf
            refine lv_iconst (v := 0) hx hb d_Model_refined_92 (by decide) ?_
            exact J93_6 _ _ _ 0 hP hD hS (lv_sub hl [1, 2, 3, 4, 5, 0] rfl) hf
          · rw [if_pos c_31] at hf
            refine lv_aload_n hx hb d_Model_refined_79 rfl (lv_at hl 1 rfl) ?_
            refine lv_iload_n hx hb d_Model_refined_80 rfl (lv_at hl 3 rfl) ?_
            refine lv_iload_n hx hb d_Model_refined_81 rfl (lv_at hl 2 rfl) ?_
            obtain ⟨r_32, hf1, hf⟩ := bd_ex hf
            try dsimp only at hf
            have hPc := hP.sub (ws' := (wMo cI cZ cJ mo_a mo)) [0, 1, 2, 3, 4, 5, 6, 7, 8, 9, 10, 11, 12, 13, 14, 15] rfl
            have hDc := hD.sub (ws' := (wMo cI cZ cJ mo_a mo)) [0, 1, 2, 3, 4, 5, 6, 7, 8, 9, 10, 11, 12, 13, 14, 15] (by decide) rfl
            have hFc := va_free (wc := (wMo cI cZ cJ mo_a mo)) hD hS hA [0, 1, 2, 3, 4, 5, 6, 7, 8, 9, 10, 11, 12, 13, 14, 15] rfl
            refine va_calli (va_runV (As := [.int x2, .int x1]) (rest := [.ref (mo_a 0)]) ⟨hx, hb, hml, hown, hts⟩ (k_Model_isBefore l dC dI cI cZ cJ mo_a H.size hf1) (cwV 2 hts (gV t_952 t_954 t_27 t_63 t_955) rfl rfl rfl hd_Model_isBefore ⟨Nat.le_trans (Nat.le_of_ble_eq_true rfl) hRf, Nat.le_trans (Nat.le_of_ble_eq_true rfl) hRl⟩) ⟨kP_blind, va_recv hK hP (ci := 7) (q0 := 0) rfl rfl, kP_at hPc hK hDc hN⟩ rfl rfl hl.1 rfl (lv_room (Nat.le_of_ble_eq_true rfl)) d_Model_refined_82 hRc) hS (fun q _ h => hFc q h) hFc (fun r9 u t H1 locs ht hvm hw hB hz1 hk1 hS => ?_)
            rw [hw.1]
            obtain ⟨hP, hD⟩ := kQ_join (wr := ([] : va_W)) (w1 := (wMo cI cZ cJ mo_a mo)) hP hD [0, 1, 2, 3, 4, 5, 6, 7, 8, 9, 10, 11, 12, 13, 14, 15] [] rfl rfl (by decide) (by decide) ht hk1 hFc hB
            generalize H1 = H at hP hS ⊢
            have hP : va_P (dC, dI) vwCl (wMo cI cZ cJ mo_a mo) H := hP.sub [0, 1, 2, 3, 4, 5, 6, 7, 8, 9, 10, 11, 12, 13, 14, 15] rfl
            have hD : va_D A (wMo cI cZ cJ mo_a mo) := hD.sub [0, 1, 2, 3, 4, 5, 6, 7, 8, 9, 10, 11, 12, 13, 14, 15] (by decide) rfl
            refine lv_if_ne (tgt := 92) hx hb d_Model_refined_85 (by decide) (fun c_33 => ?_) (fun c_33 => ?_)
            · rw [if_neg c_33] at hf
              refine lv_iconst (v := 0) hx hb d_Model_refined_92 (by decide) ?_
              exact J93_6 _ _ _ 0 hP hD hS (lv_sub hl [1, 2, 3, 4, 5, 0] rfl) hf
            · rw [if_pos c_33] at hf
              refine lv_iconst (v := 3) hx hb d_Model_refined_88 (by decide) ?_
              refine lv_goto (tgt := 93) hx hb d_Model_refined_89 (by decide) ?_
              exact J93_6 _ _ _ 3 hP hD hS (lv_sub hl [1, 2, 3, 4, 5, 0] rfl) hf
        · rw [if_pos c_30] at hf
          refine lv_iload_n hx hb d_Model_refined_55 rfl (lv_at hl 4 rfl) ?_
          obtain ⟨r_34, hf1, hf⟩ := bd_ex hf
          try dsimp only at hf
          have hPc := hP.sub (ws' := ([] : va_W)) [] rfl
          have hDc := hD.sub (ws' := ([] : va_W)) [] (by decide) rfl
          have hFc := va_free (wc := ([] : va_W)) hD hS hA [] rfl
          refine va_calli (va_runS (As := [.int x3]) (rest := [.ref (mo_a 0)]) ⟨hx, hb, hml, hown, hts⟩ (k_Model_isShift l dC dI cI cZ cJ H.size hf1) (cwS 1 hts (gS t_949 t_950 t_63 t_951) rfl rfl rfl hd_Model_isShift ⟨Nat.le_trans (Nat.le_of_ble_eq_true rfl) hRf, Nat.le_trans (Nat.le_of_ble_eq_true rfl) hRl⟩) ⟨kP_blind, kP_at hPc hK hDc hN⟩ rfl rfl hl.1 rfl (lv_room (Nat.le_of_ble_eq_true rfl)) d_Model_refined_56 hRc) hS (fun q _ h => hFc q h) hFc (fun r9 u t H1 locs ht hvm hw hB hz1 hk1 hS => ?_)
          rw [hw.1]
          obtain ⟨hP, hD⟩ := kQ_join (wr := (wMo cI cZ cJ mo_a mo)) (w1 := ([] : va_W)) hP hD [] [0, 1, 2, 3, 4, 5, 6, 7, 8, 9, 10, 11, 12, 13, 14, 15] rfl rfl (by decide) (by decide) ht hk1 hFc hB
          generalize H1 = H at hP hS ⊢
          have hP : va_P (dC, dI) vwCl (wMo cI cZ cJ mo_a mo) H := hP.sub [0, 1, 2, 3, 4, 5, 6, 7, 8, 9, 10, 11, 12, 13, 14, 15] rfl
          have hD : va_D A (wMo cI cZ cJ mo_a mo) := hD.sub [0, 1, 2, 3, 4, 5, 6, 7, 8, 9, 10, 11, 12, 13, 14, 15] (by decide) rfl
          refine lv_if_eq (tgt := 70) hx hb d_Model_refined_59 (by decide) (fun c_35 => ?_) (fun c_35 => ?_)
          · rw [if_pos c_35] at hf
            refine lv_iconst (v := 2) hx hb d_Model_refined_70 (by decide) ?_
            refine lv_goto (tgt := 93) hx hb d_Model_refined_71 (by decide) ?_
            exact J93_6 _ _ _ 2 hP hD hS (lv_sub hl [1, 2, 3, 4, 5, 0] rfl) hf
          · rw [if_neg c_35] at hf
            refine lv_iload hx hb d_Model_refined_62 (lv_at hl 5 rfl) ?_
            obtain ⟨r_36, hf1, hf⟩ := bd_ex hf
            try dsimp only at hf
            have hPc := hP.sub (ws' := ([] : va_W)) [] rfl
            have hDc := hD.sub (ws' := ([] : va_W)) [] (by decide) rfl
            have hFc := va_free (wc := ([] : va_W)) hD hS hA [] rfl
            refine va_calli (va_runS (As := [.int x4]) (rest := [.ref (mo_a 0)]) ⟨hx, hb, hml, hown, hts⟩ (k_Model_isShift l dC dI cI cZ cJ H.size hf1) (cwS 1 hts (gS t_949 t_950 t_63 t_951) rfl rfl rfl hd_Model_isShift ⟨Nat.le_trans (Nat.le_of_ble_eq_true rfl) hRf, Nat.le_trans (Nat.le_of_ble_eq_true rfl) hRl⟩) ⟨kP_blind, kP_at hPc hK hDc hN⟩ rfl rfl hl.1 rfl (lv_room (Nat.le_of_ble_eq_true rfl)) d_Model_refined_64 hRc) hS (fun q _ h => hFc q h) hFc (fun r9 u t H1 locs ht hvm hw hB hz1 hk1 hS => ?_)
            rw [hw.1]
            obtain ⟨hP, hD⟩ := kQ_join (wr := (wMo cI cZ cJ mo_a mo)) (w1 := ([] : va_W)) hP hD [] [0, 1, 2, 3, 4, 5, 6, 7, 8, 9, 10, 11, 12, 13, 14, 15] rfl rfl (by decide) (by decide) ht hk1 hFc hB
            generalize H1 = H at hP hS ⊢
            have hP : va_P (dC, dI) vwCl (wMo cI cZ cJ mo_a mo) H := hP.sub [0, 1, 2, 3, 4, 5, 6, 7, 8, 9, 10, 11, 12, 13, 14, 15] rfl
            have hD : va_D A (wMo cI cZ cJ mo_a mo) := hD.sub [0, 1, 2, 3, 4, 5, 6, 7, 8, 9, 10, 11, 12, 13, 14, 15] (by decide) rfl
            refine lv_if_ne (tgt := 74) hx hb d_Model_refined_67 (by decide) (fun c_37 => ?_) (fun c_37 => ?_)
            · rw [if_neg c_37] at hf
              refine lv_iload hx hb d_Model_refined_74 (lv_at hl 0 rfl) ?_
              refine lv_if_ne (tgt := 92) hx hb d_Model_refined_76 (by decide) (fun c_38 => ?_) (fun c_38 => ?_)
              · rw [if_neg c_38] at hf
                refine lv_iconst (v := 0) hx hb d_Model_refined_92 (by decide) ?_
                exact J93_6 _ _ _ 0 hP hD hS (lv_sub hl [1, 2, 3, 4, 5, 0] rfl) hf
              · rw [if_pos c_38] at hf
                refine lv_aload_n hx hb d_Model_refined_79 rfl (lv_at hl 1 rfl) ?_
                refine lv_iload_n hx hb d_Model_refined_80 rfl (lv_at hl 3 rfl) ?_
                refine lv_iload_n hx hb d_Model_refined_81 rfl (lv_at hl 2 rfl) ?_
                obtain ⟨r_39, hf1, hf⟩ := bd_ex hf
                try dsimp only at hf
                have hPc := hP.sub (ws' := (wMo cI cZ cJ mo_a mo)) [0, 1, 2, 3, 4, 5, 6, 7, 8, 9, 10, 11, 12, 13, 14, 15] rfl
                have hDc := hD.sub (ws' := (wMo cI cZ cJ mo_a mo)) [0, 1, 2, 3, 4, 5, 6, 7, 8, 9, 10, 11, 12, 13, 14, 15] (by decide) rfl
                have hFc := va_free (wc := (wMo cI cZ cJ mo_a mo)) hD hS hA [0, 1, 2, 3, 4, 5, 6, 7, 8, 9, 10, 11, 12, 13, 14, 15] rfl
                refine va_calli (va_runV (As := [.int x2, .int x1]) (rest := [.ref (mo_a 0)]) ⟨hx, hb, hml, hown, hts⟩ (k_Model_isBefore l dC dI cI cZ cJ mo_a H.size hf1) (cwV 2 hts (gV t_952 t_954 t_27 t_63 t_955) rfl rfl rfl hd_Model_isBefore ⟨Nat.le_trans (Nat.le_of_ble_eq_true rfl) hRf, Nat.le_trans (Nat.le_of_ble_eq_true rfl) hRl⟩) ⟨kP_blind, va_recv hK hP (ci := 7) (q0 := 0) rfl rfl, kP_at hPc hK hDc hN⟩ rfl rfl hl.1 rfl (lv_room (Nat.le_of_ble_eq_true rfl)) d_Model_refined_82 hRc) hS (fun q _ h => hFc q h) hFc (fun r9 u t H1 locs ht hvm hw hB hz1 hk1 hS => ?_)
                rw [hw.1]
                obtain ⟨hP, hD⟩ := kQ_join (wr := ([] : va_W)) (w1 := (wMo cI cZ cJ mo_a mo)) hP hD [0, 1, 2, 3, 4, 5, 6, 7, 8, 9, 10, 11, 12, 13, 14, 15] [] rfl rfl (by decide) (by decide) ht hk1 hFc hB
                generalize H1 = H at hP hS ⊢
                have hP : va_P (dC, dI) vwCl (wMo cI cZ cJ mo_a mo) H := hP.sub [0, 1, 2, 3, 4, 5, 6, 7, 8, 9, 10, 11, 12, 13, 14, 15] rfl
                have hD : va_D A (wMo cI cZ cJ mo_a mo) := hD.sub [0, 1, 2, 3, 4, 5, 6, 7, 8, 9, 10, 11, 12, 13, 14, 15] (by decide) rfl
                refine lv_if_ne (tgt := 92) hx hb d_Model_refined_85 (by decide) (fun c_40 => ?_) (fun c_40 => ?_)
                · rw [if_neg c_40] at hf
                  refine lv_iconst (v := 0) hx hb d_Model_refined_92 (by decide) ?_
                  exact J93_6 _ _ _ 0 hP hD hS (lv_sub hl [1, 2, 3, 4, 5, 0] rfl) hf
                · rw [if_pos c_40] at hf
                  refine lv_iconst (v := 3) hx hb d_Model_refined_88 (by decide) ?_
                  refine lv_goto (tgt := 93) hx hb d_Model_refined_89 (by decide) ?_
                  exact J93_6 _ _ _ 3 hP hD hS (lv_sub hl [1, 2, 3, 4, 5, 0] rfl) hf
            · rw [if_pos c_37] at hf
              refine lv_iconst (v := 2) hx hb d_Model_refined_70 (by decide) ?_
              refine lv_goto (tgt := 93) hx hb d_Model_refined_71 (by decide) ?_
              exact J93_6 _ _ _ 2 hP hD hS (lv_sub hl [1, 2, 3, 4, 5, 0] rfl) hf
      · rw [if_pos c_29] at hf
        refine lv_iconst (v := 1) hx hb d_Model_refined_46 (by decide) ?_
        refine lv_goto (tgt := 93) hx hb d_Model_refined_47 (by decide) ?_
        exact J93_6 _ _ _ 1 hP hD hS (lv_sub hl [1, 2, 3, 4, 5, 0] rfl) hf
    refine lv_icmp_ne (tgt := 37) hx hb d_Model_refined_30 (by decide) (fun c_41 => ?_) (fun c_41 => ?_)
    · rw [if_neg c_41] at hf
      refine lv_iconst (v := 0) hx hb d_Model_refined_37 (by decide) ?_
      exact J38_4 _ _ _ 0 hP hD hS (lv_sub hl [1, 2, 3, 4, 5, 0] rfl) hf
    · rw [if_pos c_41] at hf
      refine lv_iconst (v := 1) hx hb d_Model_refined_33 (by decide) ?_
      refine lv_goto (tgt := 38) hx hb d_Model_refined_34 (by decide) ?_
      exact J38_4 _ _ _ 1 hP hD hS (lv_sub hl [1, 2, 3, 4, 5, 0] rfl) hf
  refine lv_if_eq (tgt := 25) hx hb d_Model_refined_5 (by decide) (fun c_42 => ?_) (fun c_42 => ?_)
  · rw [if_pos c_42] at hf
    refine lv_iconst (v := 0) hx hb d_Model_refined_25 (by decide) ?_
    exact J26_2 _ _ _ 0 hP hD hS (lv_sub hl [0, 1, 2, 3, 4] rfl) hf
  · rw [if_neg c_42] at hf
    refine lv_iload_n hx hb d_Model_refined_8 rfl (lv_at hl 2 rfl) ?_
    refine lv_iconst (v := (-1)) hx hb d_Model_refined_9 (by decide) ?_
    refine lv_icmp_eq (tgt := 21) hx hb d_Model_refined_10 (by decide) (fun c_43 => ?_) (fun c_43 => ?_)
    · rw [if_pos c_43] at hf
      refine lv_iconst (v := 1) hx hb d_Model_refined_21 (by decide) ?_
      refine lv_goto (tgt := 26) hx hb d_Model_refined_22 (by decide) ?_
      exact J26_2 _ _ _ 1 hP hD hS (lv_sub hl [0, 1, 2, 3, 4] rfl) hf
    · rw [if_neg c_43] at hf
      refine lv_aload_n hx hb d_Model_refined_13 rfl (lv_at hl 0 rfl) ?_
      refine lv_iload_n hx hb d_Model_refined_14 rfl (lv_at hl 2 rfl) ?_
      obtain ⟨r_44, hf1, hf⟩ := bd_ex hf
      try dsimp only at hf
      have hPc := hP.sub (ws' := (wMo cI cZ cJ mo_a mo)) [0, 1, 2, 3, 4, 5, 6, 7, 8, 9, 10, 11, 12, 13, 14, 15] rfl
      have hDc := hD.sub (ws' := (wMo cI cZ cJ mo_a mo)) [0, 1, 2, 3, 4, 5, 6, 7, 8, 9, 10, 11, 12, 13, 14, 15] (by decide) rfl
      have hFc := va_free (wc := (wMo cI cZ cJ mo_a mo)) hD hS hA [0, 1, 2, 3, 4, 5, 6, 7, 8, 9, 10, 11, 12, 13, 14, 15] rfl
      refine va_calli (va_runV (As := [.int x2]) (rest := []) ⟨hx, hb, hml, hown, hts⟩ (k_Model_isSymbol l dC dI cI cZ cJ mo_a H.size hf1) (cwV 1 hts (gV t_926 t_928 t_25 t_63 t_929) rfl rfl rfl hd_Model_isSymbol ⟨Nat.le_trans (Nat.le_of_ble_eq_true rfl) hRf, Nat.le_trans (Nat.le_of_ble_eq_true rfl) hRl⟩) ⟨kP_blind, va_recv hK hP (ci := 7) (q0 := 0) rfl rfl, kP_at hPc hK hDc hN⟩ rfl rfl hl.1 rfl (lv_room (Nat.le_of_ble_eq_true rfl)) d_Model_refined_15 hRc) hS (fun q _ h => hFc q h) hFc (fun r9 u t H1 locs ht hvm hw hB hz1 hk1 hS => ?_)
      rw [hw.1]
      obtain ⟨hP, hD⟩ := kQ_join (wr := ([] : va_W)) (w1 := (wMo cI cZ cJ mo_a mo)) hP hD [0, 1, 2, 3, 4, 5, 6, 7, 8, 9, 10, 11, 12, 13, 14, 15] [] rfl rfl (by decide) (by decide) ht hk1 hFc hB
      generalize H1 = H at hP hS ⊢
      have hP : va_P (dC, dI) vwCl (wMo cI cZ cJ mo_a mo) H := hP.sub [0, 1, 2, 3, 4, 5, 6, 7, 8, 9, 10, 11, 12, 13, 14, 15] rfl
      have hD : va_D A (wMo cI cZ cJ mo_a mo) := hD.sub [0, 1, 2, 3, 4, 5, 6, 7, 8, 9, 10, 11, 12, 13, 14, 15] (by decide) rfl
      refine lv_if_eq (tgt := 25) hx hb d_Model_refined_18 (by decide) (fun c_45 => ?_) (fun c_45 => ?_)
      · rw [if_pos c_45] at hf
        refine lv_iconst (v := 0) hx hb d_Model_refined_25 (by decide) ?_
        exact J26_2 _ _ _ 0 hP hD hS (lv_sub hl [0, 1, 2, 3, 4] rfl) hf
      · rw [if_neg c_45] at hf
        refine lv_iconst (v := 1) hx hb d_Model_refined_21 (by decide) ?_
        refine lv_goto (tgt := 26) hx hb d_Model_refined_22 (by decide) ?_
        exact J26_2 _ _ _ 1 hP hD hS (lv_sub hl [0, 1, 2, 3, 4] rfl) hf
end
set_option maxHeartbeats 4000000 in
set_option maxRecDepth 100000 in
theorem k_Model_refined (l : Launch) (dC : Nat → ClassId) (dI : Nat → Nat → Nat) (cI cZ cJ : ClassId) (mo_a : Nat → Nat) (sz : Nat) {mo : Mo} {x1 : Int32} {x2 : Int32} {x3 : Int32} {x4 : Int32} {r : Int32} {mo' : Mo} (hf : f_Model_refined mo x1 x2 x3 x4 = some (r, mo')) :
    Met l y_Model_refined ws_Model_refined ({ frames := 1, cells := 0, slots := 0, locals := 22 }) (va_Pc [.ref (mo_a 0), .int x1, .int x2, .int x3, .int x4] (kP (dC, dI) vwCl (TYS cI cZ cJ) (wMo cI cZ cJ mo_a mo) sz)) (va_Qi (fun (q : Int32) (_ : Unit) => q = r) (fun _ t => kQ (dC, dI) vwCl (TYS cI cZ cJ) (wMo cI cZ cJ mo_a mo) sz (wMo cI cZ cJ mo_a mo') t) (va_A (wMo cI cZ cJ mo_a mo) sz)) 0 0 (va_A (wMo cI cZ cJ mo_a mo) sz) := by
  refine Met.ofW (cc := c_Model_refined) (maxL := 8) (ret := (some .int)) (by decide) rfl ?_
  intro p e s m args below meth c s₁ B hml hv
  obtain ⟨rfl, hsz, hP, hK, hD0, hN⟩ := hv
  have hr := B.returns
  have hlocks := B.notSynchronized
  subst hsz
  have hD := hD0.self (sz := s.heap.size)
  have hl := lv_entry ([.ref (mo_a 0), .int x1, .int x2, .int x3, .int x4]) (n := 8) (Nat.le_of_ble_eq_true rfl)
  rw [lg_entry_eq]
  generalize (lg_sl ([.ref (mo_a 0), .int x1, .int x2, .int x3, .int x4]) ++ List.replicate (8 - (lg_sl ([.ref (mo_a 0), .int x1, .int x2, .int x3, .int x4])).length) Slot.unset).toArray = ls at hl ⊢
  refine B_Model_refined (A := va_A (wMo cI cZ cJ mo_a mo) s.heap.size) ⟨B.exec, B.bytes, hml, findClass_of_methodNamed B.named, fun w h => atoms_spec (ws := ws_Model_refined) B.pre w (List.mem_cons_of_mem _ h), hK, fun q h => Or.inr h, Nat.le_of_ble_eq_true rfl, Nat.le_of_ble_eq_true rfl, hN, Nat.le_of_ble_eq_true rfl, Nat.le_of_ble_eq_true rfl⟩ (fun H locs ls v mo'1 hP hD hS hf => ?_) (fun H locs ls v mo'1 hP hD hS hf => ?_) hP hD va_S.rf hl hf
  · cases hf
    exact W.iret B.exec B.bytes hr (fun t ht hW => ⟨⟨_, (), rfl, rfl, ⟨by rw [ht]; exact hP, va_K.moved hW.alike hK, hD⟩⟩, hS.F ht⟩) hS.2.2 d_Model_refined_100
  · cases hf
    exact W.iret B.exec B.bytes hr (fun t ht hW => ⟨⟨_, (), rfl, rfl, ⟨by rw [ht]; exact hP, va_K.moved hW.alike hK, hD⟩⟩, hS.F ht⟩) hS.2.2 d_Model_refined_151

/-! Model_export -/
def j_Model_export_14_3 (mo : Mo) (x1 : Int32) (x2 : Int32) (z0_2 : Int32) : Option (Int32 × Mo) := bd (f_Model_refuses mo z0_2) <| fun (r_4, mo_5) => (if r_4 = 0 then gd (inb x1 80) <| (if (Mo_ex mo_5 x1.toNatClampNeg) = x2 then gd (inb x1 80) <| lt' (Mo_s_ex mo_5 (upd (Mo_ex mo_5) x1.toNatClampNeg (vp_nar .boolean x2))) <| fun mo_10 => some (0, mo_10) else gd (inb x1 80) <| lt' (Mo_s_ex mo_5 (upd (Mo_ex mo_5) x1.toNatClampNeg (vp_nar .boolean x2))) <| fun mo_13 => some (1, mo_13)) else some (0, mo_5))
def f_Model_export (mo : Mo) (x1 : Int32) (x2 : Int32) : Option (Int32 × Mo) := bd (f_Model_isSymbol mo x1) <| fun r_1 => (if r_1 = 0 then j_Model_export_14_3 mo x1 x2 1 else j_Model_export_14_3 mo x1 x2 0)
section
variable {p : Program} {l : Launch} {e : Env} {R : Room} {s : State} {m : MethodId} {args : Array Value} {below : List Frame} {meth : Method} {c : Code} {Q : State → Prop} {A : Nat → Prop}
set_option maxHeartbeats 4000000 in
set_option maxRecDepth 100000 in
theorem B_Model_export {cells slots : Nat} {dC : Nat → ClassId} {dI : Nat → Nat → Nat} {cI cZ cJ : ClassId} {mo_a : Nat → Nat} {mo : Mo} {x1 : Int32} {x2 : Int32} {res : Int32 × Mo} (C0 : cxt p c m s args R cells slots R_Model c_Model_export tb 4 (dC, dI) vwCl (TYS cI cZ cJ) A 1 21)
    (hr21 : ∀ (H : Heap) (locs : List Loc) (ls : Array Slot) (v : Int32) (mo' : Mo), vp_nar .boolean v = v → va_P (dC, dI) vwCl (wMo cI cZ cJ mo_a mo') H → va_D A (wMo cI cZ cJ mo_a mo') → va_S A s.heap H locs → some (v, mo') = some res → W p l e R s m args below meth c H locs cells slots Q (F0 m 21 ls [.int v]))
    (hr46 : ∀ (H : Heap) (locs : List Loc) (ls : Array Slot) (v : Int32) (mo' : Mo), vp_nar .boolean v = v → va_P (dC, dI) vwCl (wMo cI cZ cJ mo_a mo') H → va_D A (wMo cI cZ cJ mo_a mo') → va_S A s.heap H locs → some (v, mo') = some res → W p l e R s m args below meth c H locs cells slots Q (F0 m 46 ls [.int v]))
    {H : Heap} {locs : List Loc} {ls : Array Slot} (hP : va_P (dC, dI) vwCl (wMo cI cZ cJ mo_a mo) H) (hD : va_D A (wMo cI cZ cJ mo_a mo)) (hS : va_S A s.heap H locs) (hl : lv_has ls 4 [(0, .ref (mo_a 0)), (1, .int x1), (2, .int x2)]) (hf : f_Model_export mo x1 x2 = some res) : W p l e R s m args below meth c H locs cells slots Q (F0 m 0 ls []) := by
  obtain ⟨hx, hb, hml, hown, hts, hK, hA, hRf, hRl, hN, hRc⟩ := id C0
  rw [f_Model_export] at hf
  refine lv_aload_n hx hb d_Model_export_0 rfl (lv_at hl 0 rfl) ?_
  refine lv_aload_n hx hb d_Model_export_1 rfl (lv_at hl 0 rfl) ?_
  refine lv_iload_n hx hb d_Model_export_2 rfl (lv_at hl 1 rfl) ?_
  obtain ⟨r_1, hf1, hf⟩ := bd_ex hf
  try dsimp only at hf
  have hPc := hP.sub (ws' := (wMo cI cZ cJ mo_a mo)) [0, 1, 2, 3, 4, 5, 6, 7, 8, 9, 10, 11, 12, 13, 14, 15] rfl
  have hDc := hD.sub (ws' := (wMo cI cZ cJ mo_a mo)) [0, 1, 2, 3, 4, 5, 6, 7, 8, 9, 10, 11, 12, 13, 14, 15] (by decide) rfl
  have hFc := va_free (wc := (wMo cI cZ cJ mo_a mo)) hD hS hA [0, 1, 2, 3, 4, 5, 6, 7, 8, 9, 10, 11, 12, 13, 14, 15] rfl
  refine va_calli (va_runV (As := [.int x1]) (rest := [.ref (mo_a 0)]) ⟨hx, hb, hml, hown, hts⟩ (k_Model_isSymbol l dC dI cI cZ cJ mo_a H.size hf1) (cwV 1 hts (gV t_926 t_928 t_25 t_63 t_929) rfl rfl rfl hd_Model_isSymbol ⟨Nat.le_trans (Nat.le_of_ble_eq_true rfl) hRf, Nat.le_trans (Nat.le_of_ble_eq_true rfl) hRl⟩) ⟨kP_blind, va_recv hK hP (ci := 7) (q0 := 0) rfl rfl, kP_at hPc hK hDc hN⟩ rfl rfl hl.1 rfl (lv_room (Nat.le_of_ble_eq_true rfl)) d_Model_export_3 hRc) hS (fun q _ h => hFc q h) hFc (fun r9 u t H1 locs ht hvm hw hB hz1 hk1 hS => ?_)
  rw [hw.1]
  obtain ⟨hP, hD⟩ := kQ_join (wr := ([] : va_W)) (w1 := (wMo cI cZ cJ mo_a mo)) hP hD [0, 1, 2, 3, 4, 5, 6, 7, 8, 9, 10, 11, 12, 13, 14, 15] [] rfl rfl (by decide) (by decide) ht hk1 hFc hB
  generalize H1 = H at hP hS ⊢
  have hP : va_P (dC, dI) vwCl (wMo cI cZ cJ mo_a mo) H := hP.sub [0, 1, 2, 3, 4, 5, 6, 7, 8, 9, 10, 11, 12, 13, 14, 15] rfl
  have hD : va_D A (wMo cI cZ cJ mo_a mo) := hD.sub [0, 1, 2, 3, 4, 5, 6, 7, 8, 9, 10, 11, 12, 13, 14, 15] (by decide) rfl
  have J14_2 : ∀ (H : Heap) (locs : List Loc) (ls : Array Slot) (z0_2 : Int32), va_P (dC, dI) vwCl (wMo cI cZ cJ mo_a mo) H → va_D A (wMo cI cZ cJ mo_a mo) → va_S A s.heap H locs → lv_has ls 4 [(0, .ref (mo_a 0)), (1, .int x1), (2, .int x2)] → j_Model_export_14_3 mo x1 x2 z0_2 = some res → W p l e R s m args below meth c H locs cells slots Q (F0 m 14 ls [.int z0_2, .ref (mo_a 0)]) := by
    intro H locs ls z0_2 hP hD hS hl hf
    rw [j_Model_export_14_3] at hf
    obtain ⟨⟨r_4, mo_5⟩, hf1, hf⟩ := bd_ex hf
    try dsimp only at hf
    have hPc := hP.sub (ws' := (wMo cI cZ cJ mo_a mo)) [0, 1, 2, 3, 4, 5, 6, 7, 8, 9, 10, 11, 12, 13, 14, 15] rfl
    have hDc := hD.sub (ws' := (wMo cI cZ cJ mo_a mo)) [0, 1, 2, 3, 4, 5, 6, 7, 8, 9, 10, 11, 12, 13, 14, 15] (by decide) rfl
    have hFc := va_free (wc := (wMo cI cZ cJ mo_a mo)) hD hS hA [0, 1, 2, 3, 4, 5, 6, 7, 8, 9, 10, 11, 12, 13, 14, 15] rfl
    refine va_calli (va_runV (As := [.int z0_2]) (rest := []) ⟨hx, hb, hml, hown, hts⟩ (k_Model_refuses l dC dI cI cZ cJ mo_a H.size hf1) (cwV 1 hts (gV t_914 t_916 t_23 t_63 t_917) rfl rfl rfl hd_Model_refuses ⟨Nat.le_trans (Nat.le_of_ble_eq_true rfl) hRf, Nat.le_trans (Nat.le_of_ble_eq_true rfl) hRl⟩) ⟨kP_blind, va_recv hK hP (ci := 7) (q0 := 0) rfl rfl, kP_at hPc hK hDc hN⟩ rfl rfl hl.1 rfl (lv_room (Nat.le_of_ble_eq_true rfl)) d_Model_export_14 hRc) hS (fun q _ h => hFc q h) hFc (fun r9 u t H1 locs ht hvm hw hB hz1 hk1 hS => ?_)
    rw [hw.1]
    obtain ⟨hP, hD⟩ := kQ_join (wr := ([] : va_W)) (w1 := (wMo cI cZ cJ mo_a mo_5)) hP hD [0, 1, 2, 3, 4, 5, 6, 7, 8, 9, 10, 11, 12, 13, 14, 15] [] rfl rfl (by decide) (by decide) ht hk1 hFc hB
    generalize H1 = H at hP hS ⊢
    have hP : va_P (dC, dI) vwCl (wMo cI cZ cJ mo_a mo_5) H := hP.sub [0, 1, 2, 3, 4, 5, 6, 7, 8, 9, 10, 11, 12, 13, 14, 15] rfl
    have hD : va_D A (wMo cI cZ cJ mo_a mo_5) := hD.sub [0, 1, 2, 3, 4, 5, 6, 7, 8, 9, 10, 11, 12, 13, 14, 15] (by decide) rfl
    refine lv_if_eq (tgt := 22) hx hb d_Model_export_17 (by decide) (fun c_6 => ?_) (fun c_6 => ?_)
    · rw [if_pos c_6] at hf
      refine lv_aload_n hx hb d_Model_export_22 rfl (lv_at hl 0 rfl) ?_
      refine va_get (D := (dC, dI)) (ci := 7) (v := .ref (mo_a 4)) (C := R_Model) (T := T_Model) (N := 27) hx hb hts in_Model hown hK hP 0 rfl rfl 6 (by decide) (hts _ t_830) (fun _ h9 => h9) rfl d_Model_export_23 ?_
      refine lv_iload_n hx hb d_Model_export_26 rfl (lv_at hl 1 rfl) ?_
      obtain ⟨h_7, hf⟩ := gd_ex hf
      refine va_zald (f := Mo_ex mo_5) hx hb hK hP 4 1 rfl rfl (inb_in h_7) d_Model_export_27 ?_
      refine lv_iload_n hx hb d_Model_export_28 rfl (lv_at hl 2 rfl) ?_
      refine lv_icmp_eq (tgt := 36) hx hb d_Model_export_29 (by decide) (fun c_8 => ?_) (fun c_8 => ?_)
      · rw [if_pos c_8] at hf
        refine lv_iconst (v := 0) hx hb d_Model_export_36 (by decide) ?_
        refine lv_istore_n (lv' := [(3, .int 0), (0, .ref (mo_a 0)), (1, .int x1), (2, .int x2)]) hx hb d_Model_export_37 rfl hl (by decide) rfl (fun ls hl => ?_)
        refine lv_aload_n hx hb d_Model_export_38 rfl (lv_at hl 1 rfl) ?_
        refine va_get (D := (dC, dI)) (ci := 7) (v := .ref (mo_a 4)) (C := R_Model) (T := T_Model) (N := 27) hx hb hts in_Model hown hK hP 0 rfl rfl 6 (by decide) (hts _ t_830) (fun _ h9 => h9) rfl d_Model_export_39 ?_
        refine lv_iload_n hx hb d_Model_export_42 rfl (lv_at hl 2 rfl) ?_
        refine lv_iload_n hx hb d_Model_export_43 rfl (lv_at hl 3 rfl) ?_
        obtain ⟨h_9, hf⟩ := gd_ex hf
        refine va_zast (f := Mo_ex mo_5) hx hb hK hP hD hS 4 1 rfl rfl (inb_in h_9) d_Model_export_44 (fun H locs hP hD hS => ?_)
        obtain ⟨mo_10, emo_10, hf⟩ := lt_ex hf
        try dsimp only at hf
        have hP : va_P (dC, dI) vwCl (wMo cI cZ cJ mo_a mo_10) H := by rw [emo_10]; exact hP
        have hD : va_D A (wMo cI cZ cJ mo_a mo_10) := by rw [emo_10]; exact hD
        refine lv_iload_n hx hb d_Model_export_45 rfl (lv_at hl 0 rfl) ?_
        exact hr46 _ _ _ 0 mo_10 (by decide) hP hD hS hf
      · rw [if_neg c_8] at hf
        refine lv_iconst (v := 1) hx hb d_Model_export_32 (by decide) ?_
        refine lv_goto (tgt := 37) hx hb d_Model_export_33 (by decide) ?_
        refine lv_istore_n (lv' := [(3, .int 1), (0, .ref (mo_a 0)), (1, .int x1), (2, .int x2)]) hx hb d_Model_export_37 rfl hl (by decide) rfl (fun ls hl => ?_)
        refine lv_aload_n hx hb d_Model_export_38 rfl (lv_at hl 1 rfl) ?_
        refine va_get (D := (dC, dI)) (ci := 7) (v := .ref (mo_a 4)) (C := R_Model) (T := T_Model) (N := 27) hx hb hts in_Model hown hK hP 0 rfl rfl 6 (by decide) (hts _ t_830) (fun _ h9 => h9) rfl d_Model_export_39 ?_
        refine lv_iload_n hx hb d_Model_export_42 rfl (lv_at hl 2 rfl) ?_
        refine lv_iload_n hx hb d_Model_export_43 rfl (lv_at hl 3 rfl) ?_
        obtain ⟨h_12, hf⟩ := gd_ex hf
        refine va_zast (f := Mo_ex mo_5) hx hb hK hP hD hS 4 1 rfl rfl (inb_in h_12) d_Model_export_44 (fun H locs hP hD hS => ?_)
        obtain ⟨mo_13, emo_13, hf⟩ := lt_ex hf
        try dsimp only at hf
        have hP : va_P (dC, dI) vwCl (wMo cI cZ cJ mo_a mo_13) H := by rw [emo_13]; exact hP
        have hD : va_D A (wMo cI cZ cJ mo_a mo_13) := by rw [emo_13]; exact hD
        refine lv_iload_n hx hb d_Model_export_45 rfl (lv_at hl 0 rfl) ?_
        exact hr46 _ _ _ 1 mo_13 (by decide) hP hD hS hf
    · rw [if_neg c_6] at hf
      refine lv_iconst (v := 0) hx hb d_Model_export_20 (by decide) ?_
      exact hr21 _ _ _ 0 mo_5 (by decide) hP hD hS hf
  refine lv_if_eq (tgt := 13) hx hb d_Model_export_6 (by decide) (fun c_15 => ?_) (fun c_15 => ?_)
  · rw [if_pos c_15] at hf
    refine lv_iconst (v := 1) hx hb d_Model_export_13 (by decide) ?_
    exact J14_2 _ _ _ 1 hP hD hS (lv_sub hl [0, 1, 2] rfl) hf
  · rw [if_neg c_15] at hf
    refine lv_iconst (v := 0) hx hb d_Model_export_9 (by decide) ?_
    refine lv_goto (tgt := 14) hx hb d_Model_export_10 (by decide) ?_
    exact J14_2 _ _ _ 0 hP hD hS (lv_sub hl [0, 1, 2] rfl) hf
end
set_option maxHeartbeats 4000000 in
set_option maxRecDepth 100000 in
theorem k_Model_export (l : Launch) (dC : Nat → ClassId) (dI : Nat → Nat → Nat) (cI cZ cJ : ClassId) (mo_a : Nat → Nat) (sz : Nat) {mo : Mo} {x1 : Int32} {x2 : Int32} {r : Int32} {mo' : Mo} (hf : f_Model_export mo x1 x2 = some (r, mo')) :
    Met l y_Model_export ws_Model_export ({ frames := 1, cells := 0, slots := 0, locals := 21 }) (va_Pc [.ref (mo_a 0), .int x1, .int x2] (kP (dC, dI) vwCl (TYS cI cZ cJ) (wMo cI cZ cJ mo_a mo) sz)) (va_Qi (fun (q : Int32) (_ : Unit) => q = r ∧ vp_nar .boolean r = r) (fun _ t => kQ (dC, dI) vwCl (TYS cI cZ cJ) (wMo cI cZ cJ mo_a mo) sz (wMo cI cZ cJ mo_a mo') t) (va_A (wMo cI cZ cJ mo_a mo) sz)) 0 0 (va_A (wMo cI cZ cJ mo_a mo) sz) := by
  refine Met.ofW (cc := c_Model_export) (maxL := 4) (ret := (some .boolean)) (by decide) rfl ?_
  intro p e s m args below meth c s₁ B hml hv
  obtain ⟨rfl, hsz, hP, hK, hD0, hN⟩ := hv
  have hr := B.returns
  have hlocks := B.notSynchronized
  subst hsz
  have hD := hD0.self (sz := s.heap.size)
  have hl := lv_entry ([.ref (mo_a 0), .int x1, .int x2]) (n := 4) (Nat.le_of_ble_eq_true rfl)
  rw [lg_entry_eq]
  generalize (lg_sl ([.ref (mo_a 0), .int x1, .int x2]) ++ List.replicate (4 - (lg_sl ([.ref (mo_a 0), .int x1, .int x2])).length) Slot.unset).toArray = ls at hl ⊢
  refine B_Model_export (A := va_A (wMo cI cZ cJ mo_a mo) s.heap.size) ⟨B.exec, B.bytes, hml, findClass_of_methodNamed B.named, fun w h => atoms_spec (ws := ws_Model_export) B.pre w (List.mem_cons_of_mem _ h), hK, fun q h => Or.inr h, Nat.le_of_ble_eq_true rfl, Nat.le_of_ble_eq_true rfl, hN, Nat.le_of_ble_eq_true rfl, Nat.le_of_ble_eq_true rfl⟩ (fun H locs ls v mo'1 hz hP hD hS hf => ?_) (fun H locs ls v mo'1 hz hP hD hS hf => ?_) hP hD va_S.rf hl hf
  · cases hf
    exact W.zret B.exec B.bytes hr (nz_n hz) (fun t ht hW => ⟨⟨_, (), rfl, ⟨rfl, hz⟩, ⟨by rw [ht]; exact hP, va_K.moved hW.alike hK, hD⟩⟩, hS.F ht⟩) hS.2.2 d_Model_export_21
  · cases hf
    exact W.zret B.exec B.bytes hr (nz_n hz) (fun t ht hW => ⟨⟨_, (), rfl, ⟨rfl, hz⟩, ⟨by rw [ht]; exact hP, va_K.moved hW.alike hK, hD⟩⟩, hS.F ht⟩) hS.2.2 d_Model_export_46

/-! Model_placeOf -/
def l_Model_placeOf_4 (mo : Mo) (x1 : Int32) (k35 : Int32 → Option (Int32)) : Nat → Int32 → Int32 → Option (Int32)
  | 0, _, _ => none
  | n + 1, x2, x3 => (if (Mo_n mo) ≤ x3 then k35 x2 else bd (f_Model_isBefore mo x3 x1) <| fun r_3 => (if r_3 = 0 then lt' (x2 + 0) <| fun x2_5 => lt' (x3 + 1) <| fun x3_6 => (l_Model_placeOf_4 mo x1 k35 n) x2_5 x3_6 else lt' (x2 + 1) <| fun x2_7 => lt' (x3 + 1) <| fun x3_8 => (l_Model_placeOf_4 mo x1 k35 n) x2_7 x3_8))
def f_Model_placeOf (mo : Mo) (x1 : Int32) : Option (Int32) := l_Model_placeOf_4 mo x1 (fun x2_9 => some x2_9) 100000 0 0
section
variable {p : Program} {l : Launch} {e : Env} {R : Room} {s : State} {m : MethodId} {args : Array Value} {below : List Frame} {meth : Method} {c : Code} {Q : State → Prop} {A : Nat → Prop}
set_option maxHeartbeats 4000000 in
set_option maxRecDepth 100000 in
theorem L_Model_placeOf_4 {cells slots : Nat} {dC : Nat → ClassId} {dI : Nat → Nat → Nat} {cI cZ cJ : ClassId} {mo_a : Nat → Nat} {mo : Mo} {x1 : Int32} {k35 : Int32 → Option (Int32)} {res : Int32} (C0 : cxt p c m s args R cells slots R_Model c_Model_placeOf tb 4 (dC, dI) vwCl (TYS cI cZ cJ) A 1 22)
    (hk35 : ∀ (H : Heap) (locs : List Loc) (ls : Array Slot) (x2_1 : Int32), va_P (dC, dI) vwCl (wMo cI cZ cJ mo_a mo) H → va_D A (wMo cI cZ cJ mo_a mo) → va_S A s.heap H locs → lv_has ls 4 [(2, .int x2_1)] → k35 x2_1 = some res → W p l e R s m args below meth c H locs cells slots Q (F0 m 35 ls [])) :
    ∀ (n : Nat) (H : Heap) (locs : List Loc) (ls : Array Slot) (x2 : Int32) (x3 : Int32), va_P (dC, dI) vwCl (wMo cI cZ cJ mo_a mo) H → va_D A (wMo cI cZ cJ mo_a mo) → va_S A s.heap H locs → lv_has ls 4 [(0, .ref (mo_a 0)), (1, .int x1), (2, .int x2), (3, .int x3)] → l_Model_placeOf_4 mo x1 k35 n x2 x3 = some res → W p l e R s m args below meth c H locs cells slots Q (F0 m 4 ls []) := by
  obtain ⟨hx, hb, hml, hown, hts, hK, hA, hRf, hRl, hN, hRc⟩ := id C0
  intro n
  induction n with
  | zero =>
    intro H locs ls x2 x3 hP hD hS hl hf
    exact absurd hf (by simp [l_Model_placeOf_4])
  | succ n ih =>
    intro H locs ls x2 x3 hP hD hS hl hf
    rw [l_Model_placeOf_4] at hf
    refine lv_iload_n hx hb d_Model_placeOf_4 rfl (lv_at hl 3 rfl) ?_
    refine lv_aload_n hx hb d_Model_placeOf_5 rfl (lv_at hl 0 rfl) ?_
    refine va_get (D := (dC, dI)) (ci := 7) (v := .int (Mo_n mo)) (C := R_Model) (T := T_Model) (N := 27) hx hb hts in_Model hown hK hP 0 rfl rfl 2 (by decide) (hts _ t_826) (fun _ h9 => h9) rfl d_Model_placeOf_6 ?_
    refine lv_icmp_ge (tgt := 35) hx hb d_Model_placeOf_9 (by decide) (fun c_2 => ?_) (fun c_2 => ?_)
    · rw [if_pos c_2] at hf
      exact hk35 _ _ _ x2 hP hD hS (lv_sub hl [2] rfl) hf
    · rw [if_neg c_2] at hf
      refine lv_iload_n hx hb d_Model_placeOf_12 rfl (lv_at hl 2 rfl) ?_
      refine lv_aload_n hx hb d_Model_placeOf_13 rfl (lv_at hl 0 rfl) ?_
      refine lv_iload_n hx hb d_Model_placeOf_14 rfl (lv_at hl 3 rfl) ?_
      refine lv_iload_n hx hb d_Model_placeOf_15 rfl (lv_at hl 1 rfl) ?_
      obtain ⟨r_3, hf1, hf⟩ := bd_ex hf
      try dsimp only at hf
      have hPc := hP.sub (ws' := (wMo cI cZ cJ mo_a mo)) [0, 1, 2, 3, 4, 5, 6, 7, 8, 9, 10, 11, 12, 13, 14, 15] rfl
      have hDc := hD.sub (ws' := (wMo cI cZ cJ mo_a mo)) [0, 1, 2, 3, 4, 5, 6, 7, 8, 9, 10, 11, 12, 13, 14, 15] (by decide) rfl
      have hFc := va_free (wc := (wMo cI cZ cJ mo_a mo)) hD hS hA [0, 1, 2, 3, 4, 5, 6, 7, 8, 9, 10, 11, 12, 13, 14, 15] rfl
      refine va_calli (va_runV (As := [.int x3, .int x1]) (rest := [.int x2]) ⟨hx, hb, hml, hown, hts⟩ (k_Model_isBefore l dC dI cI cZ cJ mo_a H.size hf1) (cwV 2 hts (gV t_952 t_954 t_27 t_63 t_955) rfl rfl rfl hd_Model_isBefore ⟨Nat.le_trans (Nat.le_of_ble_eq_true rfl) hRf, Nat.le_trans (Nat.le_of_ble_eq_true rfl) hRl⟩) ⟨kP_blind, va_recv hK hP (ci := 7) (q0 := 0) rfl rfl, kP_at hPc hK hDc hN⟩ rfl rfl hl.1 rfl (lv_room (Nat.le_of_ble_eq_true rfl)) d_Model_placeOf_16 hRc) hS (fun q _ h => hFc q h) hFc (fun r9 u t H1 locs ht hvm hw hB hz1 hk1 hS => ?_)
      rw [hw.1]
      obtain ⟨hP, hD⟩ := kQ_join (wr := ([] : va_W)) (w1 := (wMo cI cZ cJ mo_a mo)) hP hD [0, 1, 2, 3, 4, 5, 6, 7, 8, 9, 10, 11, 12, 13, 14, 15] [] rfl rfl (by decide) (by decide) ht hk1 hFc hB
      generalize H1 = H at hP hS ⊢
      have hP : va_P (dC, dI) vwCl (wMo cI cZ cJ mo_a mo) H := hP.sub [0, 1, 2, 3, 4, 5, 6, 7, 8, 9, 10, 11, 12, 13, 14, 15] rfl
      have hD : va_D A (wMo cI cZ cJ mo_a mo) := hD.sub [0, 1, 2, 3, 4, 5, 6, 7, 8, 9, 10, 11, 12, 13, 14, 15] (by decide) rfl
      refine lv_if_eq (tgt := 26) hx hb d_Model_placeOf_19 (by decide) (fun c_4 => ?_) (fun c_4 => ?_)
      · rw [if_pos c_4] at hf
        refine lv_iconst (v := 0) hx hb d_Model_placeOf_26 (by decide) ?_
        refine lv_iadd hx hb d_Model_placeOf_27 ?_
        obtain ⟨x2_5, ex2_5, hf⟩ := lt_ex hf
        try dsimp only at hf
        refine tp_i ex2_5 ?_
        refine lv_istore_n (lv' := [(2, .int x2_5), (0, .ref (mo_a 0)), (1, .int x1), (3, .int x3)]) hx hb d_Model_placeOf_28 rfl hl (by decide) rfl (fun ls hl => ?_)
        obtain ⟨x3_6, ex3_6, hf⟩ := lt_ex hf
        try dsimp only at hf
        refine lv_iinc (v := x3_6) (lv' := [(3, .int x3_6), (2, .int x2_5), (0, .ref (mo_a 0)), (1, .int x1)]) hx hb d_Model_placeOf_29 hl (k := 3) rfl (by rw [ex3_6]; rfl) (by decide) rfl (fun ls hl => ?_)
        refine lv_goto (tgt := 4) hx hb d_Model_placeOf_32 (by decide) ?_
        exact ih _ _ _ x2_5 x3_6 hP hD hS (lv_sub hl [2, 3, 1, 0] rfl) hf
      · rw [if_neg c_4] at hf
        refine lv_iconst (v := 1) hx hb d_Model_placeOf_22 (by decide) ?_
        refine lv_goto (tgt := 27) hx hb d_Model_placeOf_23 (by decide) ?_
        refine lv_iadd hx hb d_Model_placeOf_27 ?_
        obtain ⟨x2_7, ex2_7, hf⟩ := lt_ex hf
        try dsimp only at hf
        refine tp_i ex2_7 ?_
        refine lv_istore_n (lv' := [(2, .int x2_7), (0, .ref (mo_a 0)), (1, .int x1), (3, .int x3)]) hx hb d_Model_placeOf_28 rfl hl (by decide) rfl (fun ls hl => ?_)
        obtain ⟨x3_8, ex3_8, hf⟩ := lt_ex hf
        try dsimp only at hf
        refine lv_iinc (v := x3_8) (lv' := [(3, .int x3_8), (2, .int x2_7), (0, .ref (mo_a 0)), (1, .int x1)]) hx hb d_Model_placeOf_29 hl (k := 3) rfl (by rw [ex3_8]; rfl) (by decide) rfl (fun ls hl => ?_)
        refine lv_goto (tgt := 4) hx hb d_Model_placeOf_32 (by decide) ?_
        exact ih _ _ _ x2_7 x3_8 hP hD hS (lv_sub hl [2, 3, 1, 0] rfl) hf
set_option maxHeartbeats 4000000 in
set_option maxRecDepth 100000 in
theorem B_Model_placeOf {cells slots : Nat} {dC : Nat → ClassId} {dI : Nat → Nat → Nat} {cI cZ cJ : ClassId} {mo_a : Nat → Nat} {mo : Mo} {x1 : Int32} {res : Int32} (C0 : cxt p c m s args R cells slots R_Model c_Model_placeOf tb 4 (dC, dI) vwCl (TYS cI cZ cJ) A 1 22)
    (hr36 : ∀ (H : Heap) (locs : List Loc) (ls : Array Slot) (v : Int32), va_P (dC, dI) vwCl (wMo cI cZ cJ mo_a mo) H → va_D A (wMo cI cZ cJ mo_a mo) → va_S A s.heap H locs → some v = some res → W p l e R s m args below meth c H locs cells slots Q (F0 m 36 ls [.int v]))
    {H : Heap} {locs : List Loc} {ls : Array Slot} (hP : va_P (dC, dI) vwCl (wMo cI cZ cJ mo_a mo) H) (hD : va_D A (wMo cI cZ cJ mo_a mo)) (hS : va_S A s.heap H locs) (hl : lv_has ls 4 [(0, .ref (mo_a 0)), (1, .int x1)]) (hf : f_Model_placeOf mo x1 = some res) : W p l e R s m args below meth c H locs cells slots Q (F0 m 0 ls []) := by
  obtain ⟨hx, hb, hml, hown, hts, hK, hA, hRf, hRl, hN, hRc⟩ := id C0
  rw [f_Model_placeOf] at hf
  refine lv_iconst (v := 0) hx hb d_Model_placeOf_0 (by decide) ?_
  refine lv_istore_n (lv' := [(2, .int 0), (0, .ref (mo_a 0)), (1, .int x1)]) hx hb d_Model_placeOf_1 rfl hl (by decide) rfl (fun ls hl => ?_)
  refine lv_iconst (v := 0) hx hb d_Model_placeOf_2 (by decide) ?_
  refine lv_istore_n (lv' := [(3, .int 0), (2, .int 0), (0, .ref (mo_a 0)), (1, .int x1)]) hx hb d_Model_placeOf_3 rfl hl (by decide) rfl (fun ls hl => ?_)
  refine L_Model_placeOf_4 C0 (fun H locs ls x2_9 hP hD hS hl hf => ?_) 100000 _ _ _ 0 0 hP hD hS (lv_sub hl [2, 3, 1, 0] rfl) hf
  try dsimp only at hf
  refine lv_iload_n hx hb d_Model_placeOf_35 rfl (lv_at hl 0 rfl) ?_
  exact hr36 _ _ _ x2_9 hP hD hS hf
end
set_option maxHeartbeats 4000000 in
set_option maxRecDepth 100000 in
theorem k_Model_placeOf (l : Launch) (dC : Nat → ClassId) (dI : Nat → Nat → Nat) (cI cZ cJ : ClassId) (mo_a : Nat → Nat) (sz : Nat) {mo : Mo} {x1 : Int32} {r : Int32} (hf : f_Model_placeOf mo x1 = some r) :
    Met l y_Model_placeOf ws_Model_placeOf ({ frames := 1, cells := 0, slots := 0, locals := 22 }) (va_Pc [.ref (mo_a 0), .int x1] (kP (dC, dI) vwCl (TYS cI cZ cJ) (wMo cI cZ cJ mo_a mo) sz)) (va_Qi (fun (q : Int32) (_ : Unit) => q = r) (fun _ t => kQ (dC, dI) vwCl (TYS cI cZ cJ) (wMo cI cZ cJ mo_a mo) sz (wMo cI cZ cJ mo_a mo) t) (va_A (wMo cI cZ cJ mo_a mo) sz)) 0 0 (va_A (wMo cI cZ cJ mo_a mo) sz) := by
  refine Met.ofW (cc := c_Model_placeOf) (maxL := 4) (ret := (some .int)) (by decide) rfl ?_
  intro p e s m args below meth c s₁ B hml hv
  obtain ⟨rfl, hsz, hP, hK, hD0, hN⟩ := hv
  have hr := B.returns
  have hlocks := B.notSynchronized
  subst hsz
  have hD := hD0.self (sz := s.heap.size)
  have hl := lv_entry ([.ref (mo_a 0), .int x1]) (n := 4) (Nat.le_of_ble_eq_true rfl)
  rw [lg_entry_eq]
  generalize (lg_sl ([.ref (mo_a 0), .int x1]) ++ List.replicate (4 - (lg_sl ([.ref (mo_a 0), .int x1])).length) Slot.unset).toArray = ls at hl ⊢
  refine B_Model_placeOf (A := va_A (wMo cI cZ cJ mo_a mo) s.heap.size) ⟨B.exec, B.bytes, hml, findClass_of_methodNamed B.named, fun w h => atoms_spec (ws := ws_Model_placeOf) B.pre w (List.mem_cons_of_mem _ h), hK, fun q h => Or.inr h, Nat.le_of_ble_eq_true rfl, Nat.le_of_ble_eq_true rfl, hN, Nat.le_of_ble_eq_true rfl, Nat.le_of_ble_eq_true rfl⟩ (fun H locs ls v hP hD hS hf => ?_) hP hD va_S.rf hl hf
  · cases hf
    exact W.iret B.exec B.bytes hr (fun t ht hW => ⟨⟨_, (), rfl, rfl, ⟨by rw [ht]; exact hP, va_K.moved hW.alike hK, hD⟩⟩, hS.F ht⟩) hS.2.2 d_Model_placeOf_36

