theorem t_1012 : (.methodLink R_Model 161 y_Model_under : Cond) ∈ tb := List.mem_filter.mpr ⟨List.mem_of_getElem? (i := 1012) (by decide +kernel), by decide +kernel⟩
theorem t_1014 : (.instanceMethod y_Model_under : Cond) ∈ tb := List.mem_filter.mpr ⟨List.mem_of_getElem? (i := 1014) (by decide +kernel), by decide +kernel⟩
theorem t_39 : (.selects R_Model y_Model_under y_Model_under : Cond) ∈ tb := List.mem_filter.mpr ⟨List.mem_of_getElem? (i := 39) (by decide +kernel), by decide +kernel⟩
theorem t_1015 : (.code y_Model_under c_Model_under 5 (some .int) : Cond) ∈ tb := List.mem_filter.mpr ⟨List.mem_of_getElem? (i := 1015) (by decide +kernel), by decide +kernel⟩
theorem t_1020 : (.methodLink R_Model 169 y_Model_context : Cond) ∈ tb := List.mem_filter.mpr ⟨List.mem_of_getElem? (i := 1020) (by decide +kernel), by decide +kernel⟩
theorem t_1022 : (.instanceMethod y_Model_context : Cond) ∈ tb := List.mem_filter.mpr ⟨List.mem_of_getElem? (i := 1022) (by decide +kernel), by decide +kernel⟩
theorem t_41 : (.selects R_Model y_Model_context y_Model_context : Cond) ∈ tb := List.mem_filter.mpr ⟨List.mem_of_getElem? (i := 41) (by decide +kernel), by decide +kernel⟩
theorem t_1023 : (.code y_Model_context c_Model_context 5 (some .int) : Cond) ∈ tb := List.mem_filter.mpr ⟨List.mem_of_getElem? (i := 1023) (by decide +kernel), by decide +kernel⟩
theorem t_1024 : (.methodLink R_Model 173 y_Model_chanceOf : Cond) ∈ tb := List.mem_filter.mpr ⟨List.mem_of_getElem? (i := 1024) (by decide +kernel), by decide +kernel⟩
theorem t_1026 : (.instanceMethod y_Model_chanceOf : Cond) ∈ tb := List.mem_filter.mpr ⟨List.mem_of_getElem? (i := 1026) (by decide +kernel), by decide +kernel⟩
theorem t_42 : (.selects R_Model y_Model_chanceOf y_Model_chanceOf : Cond) ∈ tb := List.mem_filter.mpr ⟨List.mem_of_getElem? (i := 42) (by decide +kernel), by decide +kernel⟩
theorem t_1027 : (.code y_Model_chanceOf c_Model_chanceOf 2 (some .int) : Cond) ∈ tb := List.mem_filter.mpr ⟨List.mem_of_getElem? (i := 1027) (by decide +kernel), by decide +kernel⟩
theorem t_1029 : (.methodLink R_Model 176 y_Model_learn : Cond) ∈ tb := List.mem_filter.mpr ⟨List.mem_of_getElem? (i := 1029) (by decide +kernel), by decide +kernel⟩
theorem t_1031 : (.instanceMethod y_Model_learn : Cond) ∈ tb := List.mem_filter.mpr ⟨List.mem_of_getElem? (i := 1031) (by decide +kernel), by decide +kernel⟩
theorem t_43 : (.selects R_Model y_Model_learn y_Model_learn : Cond) ∈ tb := List.mem_filter.mpr ⟨List.mem_of_getElem? (i := 43) (by decide +kernel), by decide +kernel⟩
theorem t_1032 : (.code y_Model_learn c_Model_learn 3 none : Cond) ∈ tb := List.mem_filter.mpr ⟨List.mem_of_getElem? (i := 1032) (by decide +kernel), by decide +kernel⟩
theorem t_974 : (.methodLink R_Model 165 y_Model_emitNumber : Cond) ∈ tb := List.mem_filter.mpr ⟨List.mem_of_getElem? (i := 974) (by decide +kernel), by decide +kernel⟩
theorem t_976 : (.instanceMethod y_Model_emitNumber : Cond) ∈ tb := List.mem_filter.mpr ⟨List.mem_of_getElem? (i := 976) (by decide +kernel), by decide +kernel⟩
theorem t_30 : (.selects R_Model y_Model_emitNumber y_Model_emitNumber : Cond) ∈ tb := List.mem_filter.mpr ⟨List.mem_of_getElem? (i := 30) (by decide +kernel), by decide +kernel⟩
theorem t_977 : (.code y_Model_emitNumber c_Model_emitNumber 3 none : Cond) ∈ tb := List.mem_filter.mpr ⟨List.mem_of_getElem? (i := 977) (by decide +kernel), by decide +kernel⟩
theorem t_1055 : (.methodLink R_Model 179 y_Model_takeNumber : Cond) ∈ tb := List.mem_filter.mpr ⟨List.mem_of_getElem? (i := 1055) (by decide +kernel), by decide +kernel⟩
theorem t_1057 : (.instanceMethod y_Model_takeNumber : Cond) ∈ tb := List.mem_filter.mpr ⟨List.mem_of_getElem? (i := 1057) (by decide +kernel), by decide +kernel⟩
theorem t_45 : (.selects R_Model y_Model_takeNumber y_Model_takeNumber : Cond) ∈ tb := List.mem_filter.mpr ⟨List.mem_of_getElem? (i := 45) (by decide +kernel), by decide +kernel⟩
theorem t_1058 : (.code y_Model_takeNumber c_Model_takeNumber 2 (some .int) : Cond) ∈ tb := List.mem_filter.mpr ⟨List.mem_of_getElem? (i := 1058) (by decide +kernel), by decide +kernel⟩
theorem t_834 : (.fieldLink R_Model 32 "SymbolDictionariesModel" "places" "[I" : Cond) ∈ tb := List.mem_filter.mpr ⟨List.mem_of_getElem? (i := 834) (by decide +kernel), by decide +kernel⟩
theorem t_1008 : (.methodLink R_Model 182 y_Model_writePlane : Cond) ∈ tb := List.mem_filter.mpr ⟨List.mem_of_getElem? (i := 1008) (by decide +kernel), by decide +kernel⟩
theorem t_1010 : (.instanceMethod y_Model_writePlane : Cond) ∈ tb := List.mem_filter.mpr ⟨List.mem_of_getElem? (i := 1010) (by decide +kernel), by decide +kernel⟩
theorem t_38 : (.selects R_Model y_Model_writePlane y_Model_writePlane : Cond) ∈ tb := List.mem_filter.mpr ⟨List.mem_of_getElem? (i := 38) (by decide +kernel), by decide +kernel⟩
theorem t_1011 : (.code y_Model_writePlane c_Model_writePlane 7 none : Cond) ∈ tb := List.mem_filter.mpr ⟨List.mem_of_getElem? (i := 1011) (by decide +kernel), by decide +kernel⟩
theorem t_964 : (.methodLink R_Model 185 y_Model_beginBits : Cond) ∈ tb := List.mem_filter.mpr ⟨List.mem_of_getElem? (i := 964) (by decide +kernel), by decide +kernel⟩
theorem t_966 : (.instanceMethod y_Model_beginBits : Cond) ∈ tb := List.mem_filter.mpr ⟨List.mem_of_getElem? (i := 966) (by decide +kernel), by decide +kernel⟩
theorem t_28 : (.selects R_Model y_Model_beginBits y_Model_beginBits : Cond) ∈ tb := List.mem_filter.mpr ⟨List.mem_of_getElem? (i := 28) (by decide +kernel), by decide +kernel⟩
theorem t_967 : (.code y_Model_beginBits c_Model_beginBits 2 none : Cond) ∈ tb := List.mem_filter.mpr ⟨List.mem_of_getElem? (i := 967) (by decide +kernel), by decide +kernel⟩
theorem t_970 : (.methodLink R_Model 188 y_Model_placeOf : Cond) ∈ tb := List.mem_filter.mpr ⟨List.mem_of_getElem? (i := 970) (by decide +kernel), by decide +kernel⟩
theorem t_972 : (.instanceMethod y_Model_placeOf : Cond) ∈ tb := List.mem_filter.mpr ⟨List.mem_of_getElem? (i := 972) (by decide +kernel), by decide +kernel⟩
theorem t_29 : (.selects R_Model y_Model_placeOf y_Model_placeOf : Cond) ∈ tb := List.mem_filter.mpr ⟨List.mem_of_getElem? (i := 29) (by decide +kernel), by decide +kernel⟩
theorem t_973 : (.code y_Model_placeOf c_Model_placeOf 4 (some .int) : Cond) ∈ tb := List.mem_filter.mpr ⟨List.mem_of_getElem? (i := 973) (by decide +kernel), by decide +kernel⟩
theorem t_835 : (.fieldLink R_Model 35 "SymbolDictionariesModel" "order" "[I" : Cond) ∈ tb := List.mem_filter.mpr ⟨List.mem_of_getElem? (i := 835) (by decide +kernel), by decide +kernel⟩
theorem t_1004 : (.methodLink R_Model 191 y_Model_writeSymbol : Cond) ∈ tb := List.mem_filter.mpr ⟨List.mem_of_getElem? (i := 1004) (by decide +kernel), by decide +kernel⟩
theorem t_1006 : (.instanceMethod y_Model_writeSymbol : Cond) ∈ tb := List.mem_filter.mpr ⟨List.mem_of_getElem? (i := 1006) (by decide +kernel), by decide +kernel⟩
theorem t_37 : (.selects R_Model y_Model_writeSymbol y_Model_writeSymbol : Cond) ∈ tb := List.mem_filter.mpr ⟨List.mem_of_getElem? (i := 37) (by decide +kernel), by decide +kernel⟩
theorem t_1007 : (.code y_Model_writeSymbol c_Model_writeSymbol 4 none : Cond) ∈ tb := List.mem_filter.mpr ⟨List.mem_of_getElem? (i := 1007) (by decide +kernel), by decide +kernel⟩
abbrev ws_Model_writePlane : List Cond := .code y_Model_writePlane c_Model_writePlane 7 none :: tb
theorem hd_Model_writePlane : y_Model_writePlane.cls = R_Model ∧ y_Model_writePlane.cls ≠ "java/lang/invoke/MethodHandle" ∧ y_Model_writePlane.cls ≠ "java/lang/invoke/VarHandle" ∧ (parseMethodDescriptor y_Model_writePlane.desc).map (fun d => d.parameters.length) = some 1 := by decide +kernel
theorem d_Model_writePlane_0 : decode c_Model_writePlane 0 = .ok (.aload_n 0, 1) := by decide +kernel
theorem d_Model_writePlane_1 : decode c_Model_writePlane 1 = .ok (.getfield 7, 3) := by decide +kernel
theorem d_Model_writePlane_4 : decode c_Model_writePlane 4 = .ok (.iload_n 1, 1) := by decide +kernel
theorem d_Model_writePlane_5 : decode c_Model_writePlane 5 = .ok (.iaload, 1) := by decide +kernel
theorem d_Model_writePlane_6 : decode c_Model_writePlane 6 = .ok (.istore_n 2, 1) := by decide +kernel
theorem d_Model_writePlane_7 : decode c_Model_writePlane 7 = .ok (.iload_n 2, 1) := by decide +kernel
theorem d_Model_writePlane_8 : decode c_Model_writePlane 8 = .ok (.aload_n 0, 1) := by decide +kernel
theorem d_Model_writePlane_9 : decode c_Model_writePlane 9 = .ok (.getfield 13, 3) := by decide +kernel
theorem d_Model_writePlane_12 : decode c_Model_writePlane 12 = .ok (.iload_n 1, 1) := by decide +kernel
theorem d_Model_writePlane_13 : decode c_Model_writePlane 13 = .ok (.iaload, 1) := by decide +kernel
theorem d_Model_writePlane_14 : decode c_Model_writePlane 14 = .ok (.imul, 1) := by decide +kernel
theorem d_Model_writePlane_15 : decode c_Model_writePlane 15 = .ok (.istore_n 3, 1) := by decide +kernel
theorem d_Model_writePlane_16 : decode c_Model_writePlane 16 = .ok (.iconst 0, 1) := by decide +kernel
theorem d_Model_writePlane_17 : decode c_Model_writePlane 17 = .ok (.istore 4, 2) := by decide +kernel
theorem d_Model_writePlane_19 : decode c_Model_writePlane 19 = .ok (.iload 4, 2) := by decide +kernel
theorem d_Model_writePlane_21 : decode c_Model_writePlane 21 = .ok (.aload_n 0, 1) := by decide +kernel
theorem d_Model_writePlane_22 : decode c_Model_writePlane 22 = .ok (.getfield 13, 3) := by decide +kernel
theorem d_Model_writePlane_25 : decode c_Model_writePlane 25 = .ok (.iload_n 1, 1) := by decide +kernel
theorem d_Model_writePlane_26 : decode c_Model_writePlane 26 = .ok (.iaload, 1) := by decide +kernel
theorem d_Model_writePlane_27 : decode c_Model_writePlane 27 = .ok (.if_icmp .ge 70, 3) := by decide +kernel
theorem d_Model_writePlane_30 : decode c_Model_writePlane 30 = .ok (.aload_n 0, 1) := by decide +kernel
theorem d_Model_writePlane_31 : decode c_Model_writePlane 31 = .ok (.getfield 53, 3) := by decide +kernel
theorem d_Model_writePlane_34 : decode c_Model_writePlane 34 = .ok (.iload 4, 2) := by decide +kernel
theorem d_Model_writePlane_36 : decode c_Model_writePlane 36 = .ok (.iconst 0, 1) := by decide +kernel
theorem d_Model_writePlane_37 : decode c_Model_writePlane 37 = .ok (.iastore, 1) := by decide +kernel
theorem d_Model_writePlane_38 : decode c_Model_writePlane 38 = .ok (.iconst 0, 1) := by decide +kernel
theorem d_Model_writePlane_39 : decode c_Model_writePlane 39 = .ok (.istore 5, 2) := by decide +kernel
theorem d_Model_writePlane_41 : decode c_Model_writePlane 41 = .ok (.iload 5, 2) := by decide +kernel
theorem d_Model_writePlane_43 : decode c_Model_writePlane 43 = .ok (.iload_n 2, 1) := by decide +kernel
theorem d_Model_writePlane_44 : decode c_Model_writePlane 44 = .ok (.if_icmp .ge 47, 3) := by decide +kernel
theorem d_Model_writePlane_47 : decode c_Model_writePlane 47 = .ok (.aload_n 0, 1) := by decide +kernel
theorem d_Model_writePlane_48 : decode c_Model_writePlane 48 = .ok (.getfield 53, 3) := by decide +kernel
theorem d_Model_writePlane_51 : decode c_Model_writePlane 51 = .ok (.iload 4, 2) := by decide +kernel
theorem d_Model_writePlane_53 : decode c_Model_writePlane 53 = .ok (.dup2, 1) := by decide +kernel
theorem d_Model_writePlane_54 : decode c_Model_writePlane 54 = .ok (.iaload, 1) := by decide +kernel
theorem d_Model_writePlane_55 : decode c_Model_writePlane 55 = .ok (.aload_n 0, 1) := by decide +kernel
theorem d_Model_writePlane_56 : decode c_Model_writePlane 56 = .ok (.iload_n 1, 1) := by decide +kernel
theorem d_Model_writePlane_57 : decode c_Model_writePlane 57 = .ok (.iload 5, 2) := by decide +kernel
theorem d_Model_writePlane_59 : decode c_Model_writePlane 59 = .ok (.iload 4, 2) := by decide +kernel
theorem d_Model_writePlane_61 : decode c_Model_writePlane 61 = .ok (.invokevirtual 77, 3) := by decide +kernel
theorem d_Model_writePlane_64 : decode c_Model_writePlane 64 = .ok (.aload_n 0, 1) := by decide +kernel
theorem d_Model_writePlane_65 : decode c_Model_writePlane 65 = .ok (.iload_n 1, 1) := by decide +kernel
theorem d_Model_writePlane_66 : decode c_Model_writePlane 66 = .ok (.aload_n 0, 1) := by decide +kernel
theorem d_Model_writePlane_67 : decode c_Model_writePlane 67 = .ok (.getfield 23, 3) := by decide +kernel
theorem d_Model_writePlane_70 : decode c_Model_writePlane 70 = .ok (.iload_n 1, 1) := by decide +kernel
theorem d_Model_writePlane_71 : decode c_Model_writePlane 71 = .ok (.iaload, 1) := by decide +kernel
theorem d_Model_writePlane_72 : decode c_Model_writePlane 72 = .ok (.iload 5, 2) := by decide +kernel
theorem d_Model_writePlane_74 : decode c_Model_writePlane 74 = .ok (.iload 4, 2) := by decide +kernel
theorem d_Model_writePlane_76 : decode c_Model_writePlane 76 = .ok (.invokevirtual 161, 3) := by decide +kernel
theorem d_Model_writePlane_79 : decode c_Model_writePlane 79 = .ok (.ixor, 1) := by decide +kernel
theorem d_Model_writePlane_80 : decode c_Model_writePlane 80 = .ok (.iload 5, 2) := by decide +kernel
theorem d_Model_writePlane_82 : decode c_Model_writePlane 82 = .ok (.ishl, 1) := by decide +kernel
theorem d_Model_writePlane_83 : decode c_Model_writePlane 83 = .ok (.ior, 1) := by decide +kernel
theorem d_Model_writePlane_84 : decode c_Model_writePlane 84 = .ok (.iastore, 1) := by decide +kernel
theorem d_Model_writePlane_85 : decode c_Model_writePlane 85 = .ok (.iinc 5 1, 3) := by decide +kernel
theorem d_Model_writePlane_88 : decode c_Model_writePlane 88 = .ok (.goto (-47), 3) := by decide +kernel
theorem d_Model_writePlane_91 : decode c_Model_writePlane 91 = .ok (.iinc 4 1, 3) := by decide +kernel
theorem d_Model_writePlane_94 : decode c_Model_writePlane 94 = .ok (.goto (-75), 3) := by decide +kernel
theorem d_Model_writePlane_97 : decode c_Model_writePlane 97 = .ok (.aload_n 0, 1) := by decide +kernel
theorem d_Model_writePlane_98 : decode c_Model_writePlane 98 = .ok (.getfield 56, 3) := by decide +kernel
theorem d_Model_writePlane_101 : decode c_Model_writePlane 101 = .ok (.iconst 1, 1) := by decide +kernel
theorem d_Model_writePlane_102 : decode c_Model_writePlane 102 = .ok (.if_icmp .ne 80, 3) := by decide +kernel
theorem d_Model_writePlane_105 : decode c_Model_writePlane 105 = .ok (.iconst 0, 1) := by decide +kernel
theorem d_Model_writePlane_106 : decode c_Model_writePlane 106 = .ok (.istore 4, 2) := by decide +kernel
theorem d_Model_writePlane_108 : decode c_Model_writePlane 108 = .ok (.iconst 0, 1) := by decide +kernel
theorem d_Model_writePlane_109 : decode c_Model_writePlane 109 = .ok (.istore 5, 2) := by decide +kernel
theorem d_Model_writePlane_111 : decode c_Model_writePlane 111 = .ok (.iload 5, 2) := by decide +kernel
theorem d_Model_writePlane_113 : decode c_Model_writePlane 113 = .ok (.iload_n 3, 1) := by decide +kernel
theorem d_Model_writePlane_114 : decode c_Model_writePlane 114 = .ok (.if_icmp .ge 67, 3) := by decide +kernel
theorem d_Model_writePlane_117 : decode c_Model_writePlane 117 = .ok (.iconst 0, 1) := by decide +kernel
theorem d_Model_writePlane_118 : decode c_Model_writePlane 118 = .ok (.istore 6, 2) := by decide +kernel
theorem d_Model_writePlane_120 : decode c_Model_writePlane 120 = .ok (.iload 5, 2) := by decide +kernel
theorem d_Model_writePlane_122 : decode c_Model_writePlane 122 = .ok (.iload 6, 2) := by decide +kernel
theorem d_Model_writePlane_124 : decode c_Model_writePlane 124 = .ok (.iadd, 1) := by decide +kernel
theorem d_Model_writePlane_125 : decode c_Model_writePlane 125 = .ok (.iload_n 3, 1) := by decide +kernel
theorem d_Model_writePlane_126 : decode c_Model_writePlane 126 = .ok (.if_icmp .ge 33, 3) := by decide +kernel
theorem d_Model_writePlane_129 : decode c_Model_writePlane 129 = .ok (.aload_n 0, 1) := by decide +kernel
theorem d_Model_writePlane_130 : decode c_Model_writePlane 130 = .ok (.iload 5, 2) := by decide +kernel
theorem d_Model_writePlane_132 : decode c_Model_writePlane 132 = .ok (.iload 6, 2) := by decide +kernel
theorem d_Model_writePlane_134 : decode c_Model_writePlane 134 = .ok (.iadd, 1) := by decide +kernel
theorem d_Model_writePlane_135 : decode c_Model_writePlane 135 = .ok (.iload_n 2, 1) := by decide +kernel
theorem d_Model_writePlane_136 : decode c_Model_writePlane 136 = .ok (.irem, 1) := by decide +kernel
theorem d_Model_writePlane_137 : decode c_Model_writePlane 137 = .ok (.iload 5, 2) := by decide +kernel
theorem d_Model_writePlane_139 : decode c_Model_writePlane 139 = .ok (.iload 6, 2) := by decide +kernel
theorem d_Model_writePlane_141 : decode c_Model_writePlane 141 = .ok (.iadd, 1) := by decide +kernel
theorem d_Model_writePlane_142 : decode c_Model_writePlane 142 = .ok (.iload_n 2, 1) := by decide +kernel
theorem d_Model_writePlane_143 : decode c_Model_writePlane 143 = .ok (.idiv, 1) := by decide +kernel
theorem d_Model_writePlane_144 : decode c_Model_writePlane 144 = .ok (.iload_n 2, 1) := by decide +kernel
theorem d_Model_writePlane_145 : decode c_Model_writePlane 145 = .ok (.invokevirtual 156, 3) := by decide +kernel
theorem d_Model_writePlane_148 : decode c_Model_writePlane 148 = .ok (.iload 4, 2) := by decide +kernel
theorem d_Model_writePlane_150 : decode c_Model_writePlane 150 = .ok (.if_icmp .ne 9, 3) := by decide +kernel
theorem d_Model_writePlane_153 : decode c_Model_writePlane 153 = .ok (.iinc 6 1, 3) := by decide +kernel
theorem d_Model_writePlane_156 : decode c_Model_writePlane 156 = .ok (.goto (-36), 3) := by decide +kernel
theorem d_Model_writePlane_159 : decode c_Model_writePlane 159 = .ok (.aload_n 0, 1) := by decide +kernel
theorem d_Model_writePlane_160 : decode c_Model_writePlane 160 = .ok (.iload 6, 2) := by decide +kernel
theorem d_Model_writePlane_162 : decode c_Model_writePlane 162 = .ok (.invokevirtual 165, 3) := by decide +kernel
theorem d_Model_writePlane_165 : decode c_Model_writePlane 165 = .ok (.iload 5, 2) := by decide +kernel
theorem d_Model_writePlane_167 : decode c_Model_writePlane 167 = .ok (.iload 6, 2) := by decide +kernel
theorem d_Model_writePlane_169 : decode c_Model_writePlane 169 = .ok (.iadd, 1) := by decide +kernel
theorem d_Model_writePlane_170 : decode c_Model_writePlane 170 = .ok (.istore 5, 2) := by decide +kernel
theorem d_Model_writePlane_172 : decode c_Model_writePlane 172 = .ok (.iconst 1, 1) := by decide +kernel
theorem d_Model_writePlane_173 : decode c_Model_writePlane 173 = .ok (.iload 4, 2) := by decide +kernel
theorem d_Model_writePlane_175 : decode c_Model_writePlane 175 = .ok (.isub, 1) := by decide +kernel
theorem d_Model_writePlane_176 : decode c_Model_writePlane 176 = .ok (.istore 4, 2) := by decide +kernel
theorem d_Model_writePlane_178 : decode c_Model_writePlane 178 = .ok (.goto (-67), 3) := by decide +kernel
theorem d_Model_writePlane_181 : decode c_Model_writePlane 181 = .ok (.return_, 1) := by decide +kernel
theorem d_Model_writePlane_182 : decode c_Model_writePlane 182 = .ok (.iconst 0, 1) := by decide +kernel
theorem d_Model_writePlane_183 : decode c_Model_writePlane 183 = .ok (.istore 4, 2) := by decide +kernel
theorem d_Model_writePlane_185 : decode c_Model_writePlane 185 = .ok (.iload 4, 2) := by decide +kernel
theorem d_Model_writePlane_187 : decode c_Model_writePlane 187 = .ok (.iload_n 3, 1) := by decide +kernel
theorem d_Model_writePlane_188 : decode c_Model_writePlane 188 = .ok (.if_icmp .ge 73, 3) := by decide +kernel
theorem d_Model_writePlane_191 : decode c_Model_writePlane 191 = .ok (.aload_n 0, 1) := by decide +kernel
theorem d_Model_writePlane_192 : decode c_Model_writePlane 192 = .ok (.iload 4, 2) := by decide +kernel
theorem d_Model_writePlane_194 : decode c_Model_writePlane 194 = .ok (.iload_n 2, 1) := by decide +kernel
theorem d_Model_writePlane_195 : decode c_Model_writePlane 195 = .ok (.irem, 1) := by decide +kernel
theorem d_Model_writePlane_196 : decode c_Model_writePlane 196 = .ok (.iload 4, 2) := by decide +kernel
theorem d_Model_writePlane_198 : decode c_Model_writePlane 198 = .ok (.iload_n 2, 1) := by decide +kernel
theorem d_Model_writePlane_199 : decode c_Model_writePlane 199 = .ok (.idiv, 1) := by decide +kernel
theorem d_Model_writePlane_200 : decode c_Model_writePlane 200 = .ok (.iload_n 2, 1) := by decide +kernel
theorem d_Model_writePlane_201 : decode c_Model_writePlane 201 = .ok (.invokevirtual 156, 3) := by decide +kernel
theorem d_Model_writePlane_204 : decode c_Model_writePlane 204 = .ok (.istore 5, 2) := by decide +kernel
theorem d_Model_writePlane_206 : decode c_Model_writePlane 206 = .ok (.aload_n 0, 1) := by decide +kernel
theorem d_Model_writePlane_207 : decode c_Model_writePlane 207 = .ok (.iload 4, 2) := by decide +kernel
theorem d_Model_writePlane_209 : decode c_Model_writePlane 209 = .ok (.iload_n 2, 1) := by decide +kernel
theorem d_Model_writePlane_210 : decode c_Model_writePlane 210 = .ok (.irem, 1) := by decide +kernel
theorem d_Model_writePlane_211 : decode c_Model_writePlane 211 = .ok (.iload 4, 2) := by decide +kernel
theorem d_Model_writePlane_213 : decode c_Model_writePlane 213 = .ok (.iload_n 2, 1) := by decide +kernel
theorem d_Model_writePlane_214 : decode c_Model_writePlane 214 = .ok (.idiv, 1) := by decide +kernel
theorem d_Model_writePlane_215 : decode c_Model_writePlane 215 = .ok (.iload_n 2, 1) := by decide +kernel
theorem d_Model_writePlane_216 : decode c_Model_writePlane 216 = .ok (.aload_n 0, 1) := by decide +kernel
theorem d_Model_writePlane_217 : decode c_Model_writePlane 217 = .ok (.getfield 23, 3) := by decide +kernel
theorem d_Model_writePlane_220 : decode c_Model_writePlane 220 = .ok (.iload_n 1, 1) := by decide +kernel
theorem d_Model_writePlane_221 : decode c_Model_writePlane 221 = .ok (.iaload, 1) := by decide +kernel
theorem d_Model_writePlane_222 : decode c_Model_writePlane 222 = .ok (.ifCond .lt 7, 3) := by decide +kernel
theorem d_Model_writePlane_225 : decode c_Model_writePlane 225 = .ok (.iconst 1, 1) := by decide +kernel
theorem d_Model_writePlane_226 : decode c_Model_writePlane 226 = .ok (.goto 4, 3) := by decide +kernel
theorem d_Model_writePlane_229 : decode c_Model_writePlane 229 = .ok (.iconst 0, 1) := by decide +kernel
theorem d_Model_writePlane_230 : decode c_Model_writePlane 230 = .ok (.invokevirtual 169, 3) := by decide +kernel
theorem d_Model_writePlane_233 : decode c_Model_writePlane 233 = .ok (.istore 6, 2) := by decide +kernel
theorem d_Model_writePlane_235 : decode c_Model_writePlane 235 = .ok (.aload_n 0, 1) := by decide +kernel
theorem d_Model_writePlane_236 : decode c_Model_writePlane 236 = .ok (.iload 5, 2) := by decide +kernel
theorem d_Model_writePlane_238 : decode c_Model_writePlane 238 = .ok (.aload_n 0, 1) := by decide +kernel
theorem d_Model_writePlane_239 : decode c_Model_writePlane 239 = .ok (.iload 6, 2) := by decide +kernel
theorem d_Model_writePlane_241 : decode c_Model_writePlane 241 = .ok (.invokevirtual 173, 3) := by decide +kernel
theorem d_Model_writePlane_244 : decode c_Model_writePlane 244 = .ok (.invokevirtual 140, 3) := by decide +kernel
theorem d_Model_writePlane_247 : decode c_Model_writePlane 247 = .ok (.aload_n 0, 1) := by decide +kernel
theorem d_Model_writePlane_248 : decode c_Model_writePlane 248 = .ok (.iload 6, 2) := by decide +kernel
theorem d_Model_writePlane_250 : decode c_Model_writePlane 250 = .ok (.iload 5, 2) := by decide +kernel
theorem d_Model_writePlane_252 : decode c_Model_writePlane 252 = .ok (.invokevirtual 176, 3) := by decide +kernel
theorem d_Model_writePlane_255 : decode c_Model_writePlane 255 = .ok (.iinc 4 1, 3) := by decide +kernel
theorem d_Model_writePlane_258 : decode c_Model_writePlane 258 = .ok (.goto (-73), 3) := by decide +kernel
theorem d_Model_writePlane_261 : decode c_Model_writePlane 261 = .ok (.return_, 1) := by decide +kernel
abbrev ws_Model_readPlane : List Cond := .code y_Model_readPlane c_Model_readPlane 10 none :: tb
theorem hd_Model_readPlane : y_Model_readPlane.cls = R_Model ∧ y_Model_readPlane.cls ≠ "java/lang/invoke/MethodHandle" ∧ y_Model_readPlane.cls ≠ "java/lang/invoke/VarHandle" ∧ (parseMethodDescriptor y_Model_readPlane.desc).map (fun d => d.parameters.length) = some 2 := by decide +kernel
theorem d_Model_readPlane_0 : decode c_Model_readPlane 0 = .ok (.aload_n 0, 1) := by decide +kernel
theorem d_Model_readPlane_1 : decode c_Model_readPlane 1 = .ok (.getfield 7, 3) := by decide +kernel
theorem d_Model_readPlane_4 : decode c_Model_readPlane 4 = .ok (.iload_n 1, 1) := by decide +kernel
theorem d_Model_readPlane_5 : decode c_Model_readPlane 5 = .ok (.iaload, 1) := by decide +kernel
theorem d_Model_readPlane_6 : decode c_Model_readPlane 6 = .ok (.istore_n 3, 1) := by decide +kernel
theorem d_Model_readPlane_7 : decode c_Model_readPlane 7 = .ok (.iload_n 3, 1) := by decide +kernel
theorem d_Model_readPlane_8 : decode c_Model_readPlane 8 = .ok (.aload_n 0, 1) := by decide +kernel
theorem d_Model_readPlane_9 : decode c_Model_readPlane 9 = .ok (.getfield 13, 3) := by decide +kernel
theorem d_Model_readPlane_12 : decode c_Model_readPlane 12 = .ok (.iload_n 1, 1) := by decide +kernel
theorem d_Model_readPlane_13 : decode c_Model_readPlane 13 = .ok (.iaload, 1) := by decide +kernel
theorem d_Model_readPlane_14 : decode c_Model_readPlane 14 = .ok (.imul, 1) := by decide +kernel
theorem d_Model_readPlane_15 : decode c_Model_readPlane 15 = .ok (.istore 4, 2) := by decide +kernel
theorem d_Model_readPlane_17 : decode c_Model_readPlane 17 = .ok (.iconst 0, 1) := by decide +kernel
theorem d_Model_readPlane_18 : decode c_Model_readPlane 18 = .ok (.istore 5, 2) := by decide +kernel
theorem d_Model_readPlane_20 : decode c_Model_readPlane 20 = .ok (.iload 5, 2) := by decide +kernel
theorem d_Model_readPlane_22 : decode c_Model_readPlane 22 = .ok (.bipush 16, 2) := by decide +kernel
theorem d_Model_readPlane_24 : decode c_Model_readPlane 24 = .ok (.if_icmp .ge 17, 3) := by decide +kernel
theorem d_Model_readPlane_27 : decode c_Model_readPlane 27 = .ok (.aload_n 0, 1) := by decide +kernel
theorem d_Model_readPlane_28 : decode c_Model_readPlane 28 = .ok (.getfield 53, 3) := by decide +kernel
theorem d_Model_readPlane_31 : decode c_Model_readPlane 31 = .ok (.iload 5, 2) := by decide +kernel
theorem d_Model_readPlane_33 : decode c_Model_readPlane 33 = .ok (.iconst 0, 1) := by decide +kernel
theorem d_Model_readPlane_34 : decode c_Model_readPlane 34 = .ok (.iastore, 1) := by decide +kernel
theorem d_Model_readPlane_35 : decode c_Model_readPlane 35 = .ok (.iinc 5 1, 3) := by decide +kernel
theorem d_Model_readPlane_38 : decode c_Model_readPlane 38 = .ok (.goto (-18), 3) := by decide +kernel
theorem d_Model_readPlane_41 : decode c_Model_readPlane 41 = .ok (.iconst 0, 1) := by decide +kernel
theorem d_Model_readPlane_42 : decode c_Model_readPlane 42 = .ok (.istore 5, 2) := by decide +kernel
theorem d_Model_readPlane_44 : decode c_Model_readPlane 44 = .ok (.iconst 0, 1) := by decide +kernel
theorem d_Model_readPlane_45 : decode c_Model_readPlane 45 = .ok (.istore 6, 2) := by decide +kernel
theorem d_Model_readPlane_47 : decode c_Model_readPlane 47 = .ok (.iload 6, 2) := by decide +kernel
theorem d_Model_readPlane_49 : decode c_Model_readPlane 49 = .ok (.iload 4, 2) := by decide +kernel
theorem d_Model_readPlane_51 : decode c_Model_readPlane 51 = .ok (.if_icmp .ge 102, 3) := by decide +kernel
theorem d_Model_readPlane_54 : decode c_Model_readPlane 54 = .ok (.aload_n 0, 1) := by decide +kernel
theorem d_Model_readPlane_55 : decode c_Model_readPlane 55 = .ok (.getfield 56, 3) := by decide +kernel
theorem d_Model_readPlane_58 : decode c_Model_readPlane 58 = .ok (.iconst 1, 1) := by decide +kernel
theorem d_Model_readPlane_59 : decode c_Model_readPlane 59 = .ok (.if_icmp .ne 94, 3) := by decide +kernel
theorem d_Model_readPlane_62 : decode c_Model_readPlane 62 = .ok (.aload_n 0, 1) := by decide +kernel
theorem d_Model_readPlane_63 : decode c_Model_readPlane 63 = .ok (.invokevirtual 179, 3) := by decide +kernel
theorem d_Model_readPlane_66 : decode c_Model_readPlane 66 = .ok (.istore 7, 2) := by decide +kernel
theorem d_Model_readPlane_68 : decode c_Model_readPlane 68 = .ok (.aload_n 0, 1) := by decide +kernel
theorem d_Model_readPlane_69 : decode c_Model_readPlane 69 = .ok (.getfield 150, 3) := by decide +kernel
theorem d_Model_readPlane_72 : decode c_Model_readPlane 72 = .ok (.ifCond .ge 18, 3) := by decide +kernel
theorem d_Model_readPlane_75 : decode c_Model_readPlane 75 = .ok (.iload 7, 2) := by decide +kernel
theorem d_Model_readPlane_77 : decode c_Model_readPlane 77 = .ok (.iload 4, 2) := by decide +kernel
theorem d_Model_readPlane_79 : decode c_Model_readPlane 79 = .ok (.iload 6, 2) := by decide +kernel
theorem d_Model_readPlane_81 : decode c_Model_readPlane 81 = .ok (.isub, 1) := by decide +kernel
theorem d_Model_readPlane_82 : decode c_Model_readPlane 82 = .ok (.if_icmp .le 8, 3) := by decide +kernel
theorem d_Model_readPlane_85 : decode c_Model_readPlane 85 = .ok (.aload_n 0, 1) := by decide +kernel
theorem d_Model_readPlane_86 : decode c_Model_readPlane 86 = .ok (.iconst 5, 1) := by decide +kernel
theorem d_Model_readPlane_87 : decode c_Model_readPlane 87 = .ok (.putfield 150, 3) := by decide +kernel
theorem d_Model_readPlane_90 : decode c_Model_readPlane 90 = .ok (.aload_n 0, 1) := by decide +kernel
theorem d_Model_readPlane_91 : decode c_Model_readPlane 91 = .ok (.getfield 150, 3) := by decide +kernel
theorem d_Model_readPlane_94 : decode c_Model_readPlane 94 = .ok (.ifCond .lt 4, 3) := by decide +kernel
theorem d_Model_readPlane_97 : decode c_Model_readPlane 97 = .ok (.return_, 1) := by decide +kernel
theorem d_Model_readPlane_98 : decode c_Model_readPlane 98 = .ok (.iload 6, 2) := by decide +kernel
theorem d_Model_readPlane_100 : decode c_Model_readPlane 100 = .ok (.istore 8, 2) := by decide +kernel
theorem d_Model_readPlane_102 : decode c_Model_readPlane 102 = .ok (.iload 8, 2) := by decide +kernel
theorem d_Model_readPlane_104 : decode c_Model_readPlane 104 = .ok (.iload 6, 2) := by decide +kernel
theorem d_Model_readPlane_106 : decode c_Model_readPlane 106 = .ok (.iload 7, 2) := by decide +kernel
theorem d_Model_readPlane_108 : decode c_Model_readPlane 108 = .ok (.iadd, 1) := by decide +kernel
theorem d_Model_readPlane_109 : decode c_Model_readPlane 109 = .ok (.if_icmp .ge 28, 3) := by decide +kernel
theorem d_Model_readPlane_112 : decode c_Model_readPlane 112 = .ok (.aload_n 0, 1) := by decide +kernel
theorem d_Model_readPlane_113 : decode c_Model_readPlane 113 = .ok (.getfield 53, 3) := by decide +kernel
theorem d_Model_readPlane_116 : decode c_Model_readPlane 116 = .ok (.iload 8, 2) := by decide +kernel
theorem d_Model_readPlane_118 : decode c_Model_readPlane 118 = .ok (.iload_n 3, 1) := by decide +kernel
theorem d_Model_readPlane_119 : decode c_Model_readPlane 119 = .ok (.idiv, 1) := by decide +kernel
theorem d_Model_readPlane_120 : decode c_Model_readPlane 120 = .ok (.dup2, 1) := by decide +kernel
theorem d_Model_readPlane_121 : decode c_Model_readPlane 121 = .ok (.iaload, 1) := by decide +kernel
theorem d_Model_readPlane_122 : decode c_Model_readPlane 122 = .ok (.iload 5, 2) := by decide +kernel
theorem d_Model_readPlane_124 : decode c_Model_readPlane 124 = .ok (.iload 8, 2) := by decide +kernel
theorem d_Model_readPlane_126 : decode c_Model_readPlane 126 = .ok (.iload_n 3, 1) := by decide +kernel
theorem d_Model_readPlane_127 : decode c_Model_readPlane 127 = .ok (.irem, 1) := by decide +kernel
theorem d_Model_readPlane_128 : decode c_Model_readPlane 128 = .ok (.ishl, 1) := by decide +kernel
theorem d_Model_readPlane_129 : decode c_Model_readPlane 129 = .ok (.ior, 1) := by decide +kernel
theorem d_Model_readPlane_130 : decode c_Model_readPlane 130 = .ok (.iastore, 1) := by decide +kernel
theorem d_Model_readPlane_131 : decode c_Model_readPlane 131 = .ok (.iinc 8 1, 3) := by decide +kernel
theorem d_Model_readPlane_134 : decode c_Model_readPlane 134 = .ok (.goto (-32), 3) := by decide +kernel
theorem d_Model_readPlane_137 : decode c_Model_readPlane 137 = .ok (.iload 6, 2) := by decide +kernel
theorem d_Model_readPlane_139 : decode c_Model_readPlane 139 = .ok (.iload 7, 2) := by decide +kernel
theorem d_Model_readPlane_141 : decode c_Model_readPlane 141 = .ok (.iadd, 1) := by decide +kernel
theorem d_Model_readPlane_142 : decode c_Model_readPlane 142 = .ok (.istore 6, 2) := by decide +kernel
theorem d_Model_readPlane_144 : decode c_Model_readPlane 144 = .ok (.iconst 1, 1) := by decide +kernel
theorem d_Model_readPlane_145 : decode c_Model_readPlane 145 = .ok (.iload 5, 2) := by decide +kernel
theorem d_Model_readPlane_147 : decode c_Model_readPlane 147 = .ok (.isub, 1) := by decide +kernel
theorem d_Model_readPlane_148 : decode c_Model_readPlane 148 = .ok (.istore 5, 2) := by decide +kernel
theorem d_Model_readPlane_150 : decode c_Model_readPlane 150 = .ok (.goto (-103), 3) := by decide +kernel
theorem d_Model_readPlane_153 : decode c_Model_readPlane 153 = .ok (.iload 6, 2) := by decide +kernel
theorem d_Model_readPlane_155 : decode c_Model_readPlane 155 = .ok (.istore 7, 2) := by decide +kernel
theorem d_Model_readPlane_157 : decode c_Model_readPlane 157 = .ok (.iload 7, 2) := by decide +kernel
theorem d_Model_readPlane_159 : decode c_Model_readPlane 159 = .ok (.iload 4, 2) := by decide +kernel
theorem d_Model_readPlane_161 : decode c_Model_readPlane 161 = .ok (.if_icmp .ge 72, 3) := by decide +kernel
theorem d_Model_readPlane_164 : decode c_Model_readPlane 164 = .ok (.aload_n 0, 1) := by decide +kernel
theorem d_Model_readPlane_165 : decode c_Model_readPlane 165 = .ok (.iload 7, 2) := by decide +kernel
theorem d_Model_readPlane_167 : decode c_Model_readPlane 167 = .ok (.iload_n 3, 1) := by decide +kernel
theorem d_Model_readPlane_168 : decode c_Model_readPlane 168 = .ok (.irem, 1) := by decide +kernel
theorem d_Model_readPlane_169 : decode c_Model_readPlane 169 = .ok (.iload 7, 2) := by decide +kernel
theorem d_Model_readPlane_171 : decode c_Model_readPlane 171 = .ok (.iload_n 3, 1) := by decide +kernel
theorem d_Model_readPlane_172 : decode c_Model_readPlane 172 = .ok (.idiv, 1) := by decide +kernel
theorem d_Model_readPlane_173 : decode c_Model_readPlane 173 = .ok (.iload_n 3, 1) := by decide +kernel
theorem d_Model_readPlane_174 : decode c_Model_readPlane 174 = .ok (.iload_n 2, 1) := by decide +kernel
theorem d_Model_readPlane_175 : decode c_Model_readPlane 175 = .ok (.ifCond .lt 7, 3) := by decide +kernel
theorem d_Model_readPlane_178 : decode c_Model_readPlane 178 = .ok (.iconst 1, 1) := by decide +kernel
theorem d_Model_readPlane_179 : decode c_Model_readPlane 179 = .ok (.goto 4, 3) := by decide +kernel
theorem d_Model_readPlane_182 : decode c_Model_readPlane 182 = .ok (.iconst 0, 1) := by decide +kernel
theorem d_Model_readPlane_183 : decode c_Model_readPlane 183 = .ok (.invokevirtual 169, 3) := by decide +kernel
theorem d_Model_readPlane_186 : decode c_Model_readPlane 186 = .ok (.istore 8, 2) := by decide +kernel
theorem d_Model_readPlane_188 : decode c_Model_readPlane 188 = .ok (.aload_n 0, 1) := by decide +kernel
theorem d_Model_readPlane_189 : decode c_Model_readPlane 189 = .ok (.aload_n 0, 1) := by decide +kernel
theorem d_Model_readPlane_190 : decode c_Model_readPlane 190 = .ok (.iload 8, 2) := by decide +kernel
theorem d_Model_readPlane_192 : decode c_Model_readPlane 192 = .ok (.invokevirtual 173, 3) := by decide +kernel
theorem d_Model_readPlane_195 : decode c_Model_readPlane 195 = .ok (.invokevirtual 144, 3) := by decide +kernel
theorem d_Model_readPlane_198 : decode c_Model_readPlane 198 = .ok (.istore 9, 2) := by decide +kernel
theorem d_Model_readPlane_200 : decode c_Model_readPlane 200 = .ok (.aload_n 0, 1) := by decide +kernel
theorem d_Model_readPlane_201 : decode c_Model_readPlane 201 = .ok (.iload 8, 2) := by decide +kernel
theorem d_Model_readPlane_203 : decode c_Model_readPlane 203 = .ok (.iload 9, 2) := by decide +kernel
theorem d_Model_readPlane_205 : decode c_Model_readPlane 205 = .ok (.invokevirtual 176, 3) := by decide +kernel
theorem d_Model_readPlane_208 : decode c_Model_readPlane 208 = .ok (.aload_n 0, 1) := by decide +kernel
theorem d_Model_readPlane_209 : decode c_Model_readPlane 209 = .ok (.getfield 53, 3) := by decide +kernel
theorem d_Model_readPlane_212 : decode c_Model_readPlane 212 = .ok (.iload 7, 2) := by decide +kernel
theorem d_Model_readPlane_214 : decode c_Model_readPlane 214 = .ok (.iload_n 3, 1) := by decide +kernel
theorem d_Model_readPlane_215 : decode c_Model_readPlane 215 = .ok (.idiv, 1) := by decide +kernel
theorem d_Model_readPlane_216 : decode c_Model_readPlane 216 = .ok (.dup2, 1) := by decide +kernel
theorem d_Model_readPlane_217 : decode c_Model_readPlane 217 = .ok (.iaload, 1) := by decide +kernel
theorem d_Model_readPlane_218 : decode c_Model_readPlane 218 = .ok (.iload 9, 2) := by decide +kernel
theorem d_Model_readPlane_220 : decode c_Model_readPlane 220 = .ok (.iload 7, 2) := by decide +kernel
theorem d_Model_readPlane_222 : decode c_Model_readPlane 222 = .ok (.iload_n 3, 1) := by decide +kernel
theorem d_Model_readPlane_223 : decode c_Model_readPlane 223 = .ok (.irem, 1) := by decide +kernel
theorem d_Model_readPlane_224 : decode c_Model_readPlane 224 = .ok (.ishl, 1) := by decide +kernel
theorem d_Model_readPlane_225 : decode c_Model_readPlane 225 = .ok (.ior, 1) := by decide +kernel
theorem d_Model_readPlane_226 : decode c_Model_readPlane 226 = .ok (.iastore, 1) := by decide +kernel
theorem d_Model_readPlane_227 : decode c_Model_readPlane 227 = .ok (.iinc 7 1, 3) := by decide +kernel
theorem d_Model_readPlane_230 : decode c_Model_readPlane 230 = .ok (.goto (-73), 3) := by decide +kernel
theorem d_Model_readPlane_233 : decode c_Model_readPlane 233 = .ok (.iconst 0, 1) := by decide +kernel
theorem d_Model_readPlane_234 : decode c_Model_readPlane 234 = .ok (.istore 7, 2) := by decide +kernel
theorem d_Model_readPlane_236 : decode c_Model_readPlane 236 = .ok (.iload 7, 2) := by decide +kernel
theorem d_Model_readPlane_238 : decode c_Model_readPlane 238 = .ok (.bipush 16, 2) := by decide +kernel
theorem d_Model_readPlane_240 : decode c_Model_readPlane 240 = .ok (.if_icmp .ge 22, 3) := by decide +kernel
theorem d_Model_readPlane_243 : decode c_Model_readPlane 243 = .ok (.aload_n 0, 1) := by decide +kernel
theorem d_Model_readPlane_244 : decode c_Model_readPlane 244 = .ok (.getfield 16, 3) := by decide +kernel
theorem d_Model_readPlane_247 : decode c_Model_readPlane 247 = .ok (.bipush 16, 2) := by decide +kernel
theorem d_Model_readPlane_249 : decode c_Model_readPlane 249 = .ok (.iload_n 1, 1) := by decide +kernel
theorem d_Model_readPlane_250 : decode c_Model_readPlane 250 = .ok (.imul, 1) := by decide +kernel
theorem d_Model_readPlane_251 : decode c_Model_readPlane 251 = .ok (.iload 7, 2) := by decide +kernel
theorem d_Model_readPlane_253 : decode c_Model_readPlane 253 = .ok (.iadd, 1) := by decide +kernel
theorem d_Model_readPlane_254 : decode c_Model_readPlane 254 = .ok (.iconst 0, 1) := by decide +kernel
theorem d_Model_readPlane_255 : decode c_Model_readPlane 255 = .ok (.iastore, 1) := by decide +kernel
theorem d_Model_readPlane_256 : decode c_Model_readPlane 256 = .ok (.iinc 7 1, 3) := by decide +kernel
theorem d_Model_readPlane_259 : decode c_Model_readPlane 259 = .ok (.goto (-23), 3) := by decide +kernel
theorem d_Model_readPlane_262 : decode c_Model_readPlane 262 = .ok (.iconst 0, 1) := by decide +kernel
theorem d_Model_readPlane_263 : decode c_Model_readPlane 263 = .ok (.istore 7, 2) := by decide +kernel
theorem d_Model_readPlane_265 : decode c_Model_readPlane 265 = .ok (.iload 7, 2) := by decide +kernel
theorem d_Model_readPlane_267 : decode c_Model_readPlane 267 = .ok (.iload 4, 2) := by decide +kernel
theorem d_Model_readPlane_269 : decode c_Model_readPlane 269 = .ok (.if_icmp .ge 59, 3) := by decide +kernel
theorem d_Model_readPlane_272 : decode c_Model_readPlane 272 = .ok (.iload 7, 2) := by decide +kernel
theorem d_Model_readPlane_274 : decode c_Model_readPlane 274 = .ok (.iload_n 3, 1) := by decide +kernel
theorem d_Model_readPlane_275 : decode c_Model_readPlane 275 = .ok (.irem, 1) := by decide +kernel
theorem d_Model_readPlane_276 : decode c_Model_readPlane 276 = .ok (.istore 8, 2) := by decide +kernel
theorem d_Model_readPlane_278 : decode c_Model_readPlane 278 = .ok (.iload 7, 2) := by decide +kernel
theorem d_Model_readPlane_280 : decode c_Model_readPlane 280 = .ok (.iload_n 3, 1) := by decide +kernel
theorem d_Model_readPlane_281 : decode c_Model_readPlane 281 = .ok (.idiv, 1) := by decide +kernel
theorem d_Model_readPlane_282 : decode c_Model_readPlane 282 = .ok (.istore 9, 2) := by decide +kernel
theorem d_Model_readPlane_284 : decode c_Model_readPlane 284 = .ok (.aload_n 0, 1) := by decide +kernel
theorem d_Model_readPlane_285 : decode c_Model_readPlane 285 = .ok (.getfield 16, 3) := by decide +kernel
theorem d_Model_readPlane_288 : decode c_Model_readPlane 288 = .ok (.bipush 16, 2) := by decide +kernel
theorem d_Model_readPlane_290 : decode c_Model_readPlane 290 = .ok (.iload_n 1, 1) := by decide +kernel
theorem d_Model_readPlane_291 : decode c_Model_readPlane 291 = .ok (.imul, 1) := by decide +kernel
theorem d_Model_readPlane_292 : decode c_Model_readPlane 292 = .ok (.iload 9, 2) := by decide +kernel
theorem d_Model_readPlane_294 : decode c_Model_readPlane 294 = .ok (.iadd, 1) := by decide +kernel
theorem d_Model_readPlane_295 : decode c_Model_readPlane 295 = .ok (.dup2, 1) := by decide +kernel
theorem d_Model_readPlane_296 : decode c_Model_readPlane 296 = .ok (.iaload, 1) := by decide +kernel
theorem d_Model_readPlane_297 : decode c_Model_readPlane 297 = .ok (.aload_n 0, 1) := by decide +kernel
theorem d_Model_readPlane_298 : decode c_Model_readPlane 298 = .ok (.iload 8, 2) := by decide +kernel
theorem d_Model_readPlane_300 : decode c_Model_readPlane 300 = .ok (.iload 9, 2) := by decide +kernel
theorem d_Model_readPlane_302 : decode c_Model_readPlane 302 = .ok (.iload_n 3, 1) := by decide +kernel
theorem d_Model_readPlane_303 : decode c_Model_readPlane 303 = .ok (.invokevirtual 156, 3) := by decide +kernel
theorem d_Model_readPlane_306 : decode c_Model_readPlane 306 = .ok (.aload_n 0, 1) := by decide +kernel
theorem d_Model_readPlane_307 : decode c_Model_readPlane 307 = .ok (.iload_n 1, 1) := by decide +kernel
theorem d_Model_readPlane_308 : decode c_Model_readPlane 308 = .ok (.iload_n 2, 1) := by decide +kernel
theorem d_Model_readPlane_309 : decode c_Model_readPlane 309 = .ok (.iload 8, 2) := by decide +kernel
theorem d_Model_readPlane_311 : decode c_Model_readPlane 311 = .ok (.iload 9, 2) := by decide +kernel
theorem d_Model_readPlane_313 : decode c_Model_readPlane 313 = .ok (.invokevirtual 161, 3) := by decide +kernel
theorem d_Model_readPlane_316 : decode c_Model_readPlane 316 = .ok (.ixor, 1) := by decide +kernel
theorem d_Model_readPlane_317 : decode c_Model_readPlane 317 = .ok (.iload 8, 2) := by decide +kernel
theorem d_Model_readPlane_319 : decode c_Model_readPlane 319 = .ok (.ishl, 1) := by decide +kernel
theorem d_Model_readPlane_320 : decode c_Model_readPlane 320 = .ok (.ior, 1) := by decide +kernel
theorem d_Model_readPlane_321 : decode c_Model_readPlane 321 = .ok (.iastore, 1) := by decide +kernel
theorem d_Model_readPlane_322 : decode c_Model_readPlane 322 = .ok (.iinc 7 1, 3) := by decide +kernel
theorem d_Model_readPlane_325 : decode c_Model_readPlane 325 = .ok (.goto (-60), 3) := by decide +kernel
theorem d_Model_readPlane_328 : decode c_Model_readPlane 328 = .ok (.return_, 1) := by decide +kernel
abbrev ws_Model_writeSymbol : List Cond := .code y_Model_writeSymbol c_Model_writeSymbol 4 none :: tb
theorem hd_Model_writeSymbol : y_Model_writeSymbol.cls = R_Model ∧ y_Model_writeSymbol.cls ≠ "java/lang/invoke/MethodHandle" ∧ y_Model_writeSymbol.cls ≠ "java/lang/invoke/VarHandle" ∧ (parseMethodDescriptor y_Model_writeSymbol.desc).map (fun d => d.parameters.length) = some 2 := by decide +kernel
theorem d_Model_writeSymbol_0 : decode c_Model_writeSymbol 0 = .ok (.aload_n 0, 1) := by decide +kernel
theorem d_Model_writeSymbol_1 : decode c_Model_writeSymbol 1 = .ok (.iconst 1, 1) := by decide +kernel
theorem d_Model_writeSymbol_2 : decode c_Model_writeSymbol 2 = .ok (.ldc 101, 2) := by decide +kernel
theorem d_Model_writeSymbol_4 : decode c_Model_writeSymbol 4 = .ok (.invokevirtual 140, 3) := by decide +kernel
theorem d_Model_writeSymbol_7 : decode c_Model_writeSymbol 7 = .ok (.aload_n 0, 1) := by decide +kernel
theorem d_Model_writeSymbol_8 : decode c_Model_writeSymbol 8 = .ok (.aload_n 0, 1) := by decide +kernel
theorem d_Model_writeSymbol_9 : decode c_Model_writeSymbol 9 = .ok (.getfield 7, 3) := by decide +kernel
theorem d_Model_writeSymbol_12 : decode c_Model_writeSymbol 12 = .ok (.iload_n 1, 1) := by decide +kernel
theorem d_Model_writeSymbol_13 : decode c_Model_writeSymbol 13 = .ok (.iaload, 1) := by decide +kernel
theorem d_Model_writeSymbol_14 : decode c_Model_writeSymbol 14 = .ok (.iload_n 2, 1) := by decide +kernel
theorem d_Model_writeSymbol_15 : decode c_Model_writeSymbol 15 = .ok (.isub, 1) := by decide +kernel
theorem d_Model_writeSymbol_16 : decode c_Model_writeSymbol 16 = .ok (.invokevirtual 165, 3) := by decide +kernel
theorem d_Model_writeSymbol_19 : decode c_Model_writeSymbol 19 = .ok (.aload_n 0, 1) := by decide +kernel
theorem d_Model_writeSymbol_20 : decode c_Model_writeSymbol 20 = .ok (.getfield 23, 3) := by decide +kernel
theorem d_Model_writeSymbol_23 : decode c_Model_writeSymbol 23 = .ok (.iload_n 1, 1) := by decide +kernel
theorem d_Model_writeSymbol_24 : decode c_Model_writeSymbol 24 = .ok (.iaload, 1) := by decide +kernel
theorem d_Model_writeSymbol_25 : decode c_Model_writeSymbol 25 = .ok (.ifCond .lt 7, 3) := by decide +kernel
theorem d_Model_writeSymbol_28 : decode c_Model_writeSymbol 28 = .ok (.iconst 1, 1) := by decide +kernel
theorem d_Model_writeSymbol_29 : decode c_Model_writeSymbol 29 = .ok (.goto 4, 3) := by decide +kernel
theorem d_Model_writeSymbol_32 : decode c_Model_writeSymbol 32 = .ok (.iconst 0, 1) := by decide +kernel
theorem d_Model_writeSymbol_33 : decode c_Model_writeSymbol 33 = .ok (.istore_n 3, 1) := by decide +kernel
theorem d_Model_writeSymbol_34 : decode c_Model_writeSymbol 34 = .ok (.aload_n 0, 1) := by decide +kernel
theorem d_Model_writeSymbol_35 : decode c_Model_writeSymbol 35 = .ok (.iload_n 3, 1) := by decide +kernel
theorem d_Model_writeSymbol_36 : decode c_Model_writeSymbol 36 = .ok (.ifCond .eq 7, 3) := by decide +kernel
theorem d_Model_writeSymbol_39 : decode c_Model_writeSymbol 39 = .ok (.iconst 1, 1) := by decide +kernel
theorem d_Model_writeSymbol_40 : decode c_Model_writeSymbol 40 = .ok (.goto 4, 3) := by decide +kernel
theorem d_Model_writeSymbol_43 : decode c_Model_writeSymbol 43 = .ok (.iconst 0, 1) := by decide +kernel
theorem d_Model_writeSymbol_44 : decode c_Model_writeSymbol 44 = .ok (.ldc 101, 2) := by decide +kernel
theorem d_Model_writeSymbol_46 : decode c_Model_writeSymbol 46 = .ok (.invokevirtual 140, 3) := by decide +kernel
theorem d_Model_writeSymbol_49 : decode c_Model_writeSymbol 49 = .ok (.iload_n 3, 1) := by decide +kernel
theorem d_Model_writeSymbol_50 : decode c_Model_writeSymbol 50 = .ok (.ifCond .eq 53, 3) := by decide +kernel
theorem d_Model_writeSymbol_53 : decode c_Model_writeSymbol 53 = .ok (.aload_n 0, 1) := by decide +kernel
theorem d_Model_writeSymbol_54 : decode c_Model_writeSymbol 54 = .ok (.aload_n 0, 1) := by decide +kernel
theorem d_Model_writeSymbol_55 : decode c_Model_writeSymbol 55 = .ok (.getfield 32, 3) := by decide +kernel
theorem d_Model_writeSymbol_58 : decode c_Model_writeSymbol 58 = .ok (.iload_n 1, 1) := by decide +kernel
theorem d_Model_writeSymbol_59 : decode c_Model_writeSymbol 59 = .ok (.iaload, 1) := by decide +kernel
theorem d_Model_writeSymbol_60 : decode c_Model_writeSymbol 60 = .ok (.aload_n 0, 1) := by decide +kernel
theorem d_Model_writeSymbol_61 : decode c_Model_writeSymbol 61 = .ok (.getfield 32, 3) := by decide +kernel
theorem d_Model_writeSymbol_64 : decode c_Model_writeSymbol 64 = .ok (.aload_n 0, 1) := by decide +kernel
theorem d_Model_writeSymbol_65 : decode c_Model_writeSymbol 65 = .ok (.getfield 23, 3) := by decide +kernel
theorem d_Model_writeSymbol_68 : decode c_Model_writeSymbol 68 = .ok (.iload_n 1, 1) := by decide +kernel
theorem d_Model_writeSymbol_69 : decode c_Model_writeSymbol 69 = .ok (.iaload, 1) := by decide +kernel
theorem d_Model_writeSymbol_70 : decode c_Model_writeSymbol 70 = .ok (.iaload, 1) := by decide +kernel
theorem d_Model_writeSymbol_71 : decode c_Model_writeSymbol 71 = .ok (.isub, 1) := by decide +kernel
theorem d_Model_writeSymbol_72 : decode c_Model_writeSymbol 72 = .ok (.iconst 1, 1) := by decide +kernel
theorem d_Model_writeSymbol_73 : decode c_Model_writeSymbol 73 = .ok (.isub, 1) := by decide +kernel
theorem d_Model_writeSymbol_74 : decode c_Model_writeSymbol 74 = .ok (.invokevirtual 165, 3) := by decide +kernel
theorem d_Model_writeSymbol_77 : decode c_Model_writeSymbol 77 = .ok (.aload_n 0, 1) := by decide +kernel
theorem d_Model_writeSymbol_78 : decode c_Model_writeSymbol 78 = .ok (.aload_n 0, 1) := by decide +kernel
theorem d_Model_writeSymbol_79 : decode c_Model_writeSymbol 79 = .ok (.getfield 26, 3) := by decide +kernel
theorem d_Model_writeSymbol_82 : decode c_Model_writeSymbol 82 = .ok (.iload_n 1, 1) := by decide +kernel
theorem d_Model_writeSymbol_83 : decode c_Model_writeSymbol 83 = .ok (.iaload, 1) := by decide +kernel
theorem d_Model_writeSymbol_84 : decode c_Model_writeSymbol 84 = .ok (.iconst 4, 1) := by decide +kernel
theorem d_Model_writeSymbol_85 : decode c_Model_writeSymbol 85 = .ok (.iadd, 1) := by decide +kernel
theorem d_Model_writeSymbol_86 : decode c_Model_writeSymbol 86 = .ok (.iconst 4, 1) := by decide +kernel
theorem d_Model_writeSymbol_87 : decode c_Model_writeSymbol 87 = .ok (.invokevirtual 147, 3) := by decide +kernel
theorem d_Model_writeSymbol_90 : decode c_Model_writeSymbol 90 = .ok (.aload_n 0, 1) := by decide +kernel
theorem d_Model_writeSymbol_91 : decode c_Model_writeSymbol 91 = .ok (.aload_n 0, 1) := by decide +kernel
theorem d_Model_writeSymbol_92 : decode c_Model_writeSymbol 92 = .ok (.getfield 29, 3) := by decide +kernel
theorem d_Model_writeSymbol_95 : decode c_Model_writeSymbol 95 = .ok (.iload_n 1, 1) := by decide +kernel
theorem d_Model_writeSymbol_96 : decode c_Model_writeSymbol 96 = .ok (.iaload, 1) := by decide +kernel
theorem d_Model_writeSymbol_97 : decode c_Model_writeSymbol 97 = .ok (.iconst 4, 1) := by decide +kernel
theorem d_Model_writeSymbol_98 : decode c_Model_writeSymbol 98 = .ok (.iadd, 1) := by decide +kernel
theorem d_Model_writeSymbol_99 : decode c_Model_writeSymbol 99 = .ok (.iconst 4, 1) := by decide +kernel
theorem d_Model_writeSymbol_100 : decode c_Model_writeSymbol 100 = .ok (.invokevirtual 147, 3) := by decide +kernel
theorem d_Model_writeSymbol_103 : decode c_Model_writeSymbol 103 = .ok (.aload_n 0, 1) := by decide +kernel
theorem d_Model_writeSymbol_104 : decode c_Model_writeSymbol 104 = .ok (.iload_n 1, 1) := by decide +kernel
theorem d_Model_writeSymbol_105 : decode c_Model_writeSymbol 105 = .ok (.invokevirtual 182, 3) := by decide +kernel
theorem d_Model_writeSymbol_108 : decode c_Model_writeSymbol 108 = .ok (.return_, 1) := by decide +kernel
abbrev ws_Model_write : List Cond := .code y_Model_write c_Model_write 5 (some .int) :: tb
theorem hd_Model_write : y_Model_write.cls = R_Model ∧ y_Model_write.cls ≠ "java/lang/invoke/MethodHandle" ∧ y_Model_write.cls ≠ "java/lang/invoke/VarHandle" ∧ (parseMethodDescriptor y_Model_write.desc).map (fun d => d.parameters.length) = some 0 := by decide +kernel
theorem d_Model_write_0 : decode c_Model_write 0 = .ok (.aload_n 0, 1) := by decide +kernel
theorem d_Model_write_1 : decode c_Model_write 1 = .ok (.iconst 0, 1) := by decide +kernel
theorem d_Model_write_2 : decode c_Model_write 2 = .ok (.putfield 60, 3) := by decide +kernel
theorem d_Model_write_5 : decode c_Model_write 5 = .ok (.aload_n 0, 1) := by decide +kernel
theorem d_Model_write_6 : decode c_Model_write 6 = .ok (.iconst 0, 1) := by decide +kernel
theorem d_Model_write_7 : decode c_Model_write 7 = .ok (.putfield 102, 3) := by decide +kernel
theorem d_Model_write_10 : decode c_Model_write 10 = .ok (.aload_n 0, 1) := by decide +kernel
theorem d_Model_write_11 : decode c_Model_write 11 = .ok (.iconst 0, 1) := by decide +kernel
theorem d_Model_write_12 : decode c_Model_write 12 = .ok (.putfield 109, 3) := by decide +kernel
theorem d_Model_write_15 : decode c_Model_write 15 = .ok (.aload_n 0, 1) := by decide +kernel
theorem d_Model_write_16 : decode c_Model_write 16 = .ok (.invokevirtual 185, 3) := by decide +kernel
theorem d_Model_write_19 : decode c_Model_write 19 = .ok (.iconst 0, 1) := by decide +kernel
theorem d_Model_write_20 : decode c_Model_write 20 = .ok (.istore_n 1, 1) := by decide +kernel
theorem d_Model_write_21 : decode c_Model_write 21 = .ok (.iload_n 1, 1) := by decide +kernel
theorem d_Model_write_22 : decode c_Model_write 22 = .ok (.aload_n 0, 1) := by decide +kernel
theorem d_Model_write_23 : decode c_Model_write 23 = .ok (.getfield 63, 3) := by decide +kernel
theorem d_Model_write_26 : decode c_Model_write 26 = .ok (.if_icmp .ge 32, 3) := by decide +kernel
theorem d_Model_write_29 : decode c_Model_write 29 = .ok (.aload_n 0, 1) := by decide +kernel
theorem d_Model_write_30 : decode c_Model_write 30 = .ok (.getfield 32, 3) := by decide +kernel
theorem d_Model_write_33 : decode c_Model_write 33 = .ok (.iload_n 1, 1) := by decide +kernel
theorem d_Model_write_34 : decode c_Model_write 34 = .ok (.aload_n 0, 1) := by decide +kernel
theorem d_Model_write_35 : decode c_Model_write 35 = .ok (.iload_n 1, 1) := by decide +kernel
theorem d_Model_write_36 : decode c_Model_write 36 = .ok (.invokevirtual 188, 3) := by decide +kernel
theorem d_Model_write_39 : decode c_Model_write 39 = .ok (.iastore, 1) := by decide +kernel
theorem d_Model_write_40 : decode c_Model_write 40 = .ok (.aload_n 0, 1) := by decide +kernel
theorem d_Model_write_41 : decode c_Model_write 41 = .ok (.getfield 35, 3) := by decide +kernel
theorem d_Model_write_44 : decode c_Model_write 44 = .ok (.aload_n 0, 1) := by decide +kernel
theorem d_Model_write_45 : decode c_Model_write 45 = .ok (.getfield 32, 3) := by decide +kernel
theorem d_Model_write_48 : decode c_Model_write 48 = .ok (.iload_n 1, 1) := by decide +kernel
theorem d_Model_write_49 : decode c_Model_write 49 = .ok (.iaload, 1) := by decide +kernel
theorem d_Model_write_50 : decode c_Model_write 50 = .ok (.iload_n 1, 1) := by decide +kernel
theorem d_Model_write_51 : decode c_Model_write 51 = .ok (.iastore, 1) := by decide +kernel
theorem d_Model_write_52 : decode c_Model_write 52 = .ok (.iinc 1 1, 3) := by decide +kernel
theorem d_Model_write_55 : decode c_Model_write 55 = .ok (.goto (-34), 3) := by decide +kernel
theorem d_Model_write_58 : decode c_Model_write 58 = .ok (.aload_n 0, 1) := by decide +kernel
theorem d_Model_write_59 : decode c_Model_write 59 = .ok (.aload_n 0, 1) := by decide +kernel
theorem d_Model_write_60 : decode c_Model_write 60 = .ok (.getfield 63, 3) := by decide +kernel
theorem d_Model_write_63 : decode c_Model_write 63 = .ok (.invokevirtual 165, 3) := by decide +kernel
theorem d_Model_write_66 : decode c_Model_write 66 = .ok (.iconst 0, 1) := by decide +kernel
theorem d_Model_write_67 : decode c_Model_write 67 = .ok (.istore_n 1, 1) := by decide +kernel
theorem d_Model_write_68 : decode c_Model_write 68 = .ok (.iconst 0, 1) := by decide +kernel
theorem d_Model_write_69 : decode c_Model_write 69 = .ok (.istore_n 2, 1) := by decide +kernel
theorem d_Model_write_70 : decode c_Model_write 70 = .ok (.iload_n 2, 1) := by decide +kernel
theorem d_Model_write_71 : decode c_Model_write 71 = .ok (.aload_n 0, 1) := by decide +kernel
theorem d_Model_write_72 : decode c_Model_write 72 = .ok (.getfield 63, 3) := by decide +kernel
theorem d_Model_write_75 : decode c_Model_write 75 = .ok (.if_icmp .ge 120, 3) := by decide +kernel
theorem d_Model_write_78 : decode c_Model_write 78 = .ok (.aload_n 0, 1) := by decide +kernel
theorem d_Model_write_79 : decode c_Model_write 79 = .ok (.getfield 35, 3) := by decide +kernel
theorem d_Model_write_82 : decode c_Model_write 82 = .ok (.iload_n 2, 1) := by decide +kernel
theorem d_Model_write_83 : decode c_Model_write 83 = .ok (.iaload, 1) := by decide +kernel
theorem d_Model_write_84 : decode c_Model_write 84 = .ok (.istore_n 3, 1) := by decide +kernel
theorem d_Model_write_85 : decode c_Model_write 85 = .ok (.aload_n 0, 1) := by decide +kernel
theorem d_Model_write_86 : decode c_Model_write 86 = .ok (.getfield 13, 3) := by decide +kernel
theorem d_Model_write_89 : decode c_Model_write 89 = .ok (.iload_n 3, 1) := by decide +kernel
theorem d_Model_write_90 : decode c_Model_write 90 = .ok (.iaload, 1) := by decide +kernel
theorem d_Model_write_91 : decode c_Model_write 91 = .ok (.iload_n 1, 1) := by decide +kernel
theorem d_Model_write_92 : decode c_Model_write 92 = .ok (.if_icmp .eq 7, 3) := by decide +kernel
theorem d_Model_write_95 : decode c_Model_write 95 = .ok (.iconst 1, 1) := by decide +kernel
theorem d_Model_write_96 : decode c_Model_write 96 = .ok (.goto 4, 3) := by decide +kernel
theorem d_Model_write_99 : decode c_Model_write 99 = .ok (.iconst 0, 1) := by decide +kernel
theorem d_Model_write_100 : decode c_Model_write 100 = .ok (.istore 4, 2) := by decide +kernel
theorem d_Model_write_102 : decode c_Model_write 102 = .ok (.iload 4, 2) := by decide +kernel
theorem d_Model_write_104 : decode c_Model_write 104 = .ok (.ifCond .eq 24, 3) := by decide +kernel
theorem d_Model_write_107 : decode c_Model_write 107 = .ok (.aload_n 0, 1) := by decide +kernel
theorem d_Model_write_108 : decode c_Model_write 108 = .ok (.aload_n 0, 1) := by decide +kernel
theorem d_Model_write_109 : decode c_Model_write 109 = .ok (.getfield 13, 3) := by decide +kernel
theorem d_Model_write_112 : decode c_Model_write 112 = .ok (.iload_n 3, 1) := by decide +kernel
theorem d_Model_write_113 : decode c_Model_write 113 = .ok (.iaload, 1) := by decide +kernel
theorem d_Model_write_114 : decode c_Model_write 114 = .ok (.iload_n 1, 1) := by decide +kernel
theorem d_Model_write_115 : decode c_Model_write 115 = .ok (.isub, 1) := by decide +kernel
theorem d_Model_write_116 : decode c_Model_write 116 = .ok (.iconst 1, 1) := by decide +kernel
theorem d_Model_write_117 : decode c_Model_write 117 = .ok (.isub, 1) := by decide +kernel
theorem d_Model_write_118 : decode c_Model_write 118 = .ok (.invokevirtual 165, 3) := by decide +kernel
theorem d_Model_write_121 : decode c_Model_write 121 = .ok (.aload_n 0, 1) := by decide +kernel
theorem d_Model_write_122 : decode c_Model_write 122 = .ok (.getfield 13, 3) := by decide +kernel
theorem d_Model_write_125 : decode c_Model_write 125 = .ok (.iload_n 3, 1) := by decide +kernel
theorem d_Model_write_126 : decode c_Model_write 126 = .ok (.iaload, 1) := by decide +kernel
theorem d_Model_write_127 : decode c_Model_write 127 = .ok (.istore_n 1, 1) := by decide +kernel
theorem d_Model_write_128 : decode c_Model_write 128 = .ok (.aload_n 0, 1) := by decide +kernel
theorem d_Model_write_129 : decode c_Model_write 129 = .ok (.iload_n 3, 1) := by decide +kernel
theorem d_Model_write_130 : decode c_Model_write 130 = .ok (.iload 4, 2) := by decide +kernel
theorem d_Model_write_132 : decode c_Model_write 132 = .ok (.ifCond .eq 7, 3) := by decide +kernel
theorem d_Model_write_135 : decode c_Model_write 135 = .ok (.iconst 0, 1) := by decide +kernel
theorem d_Model_write_136 : decode c_Model_write 136 = .ok (.goto 16, 3) := by decide +kernel
theorem d_Model_write_139 : decode c_Model_write 139 = .ok (.aload_n 0, 1) := by decide +kernel
theorem d_Model_write_140 : decode c_Model_write 140 = .ok (.getfield 7, 3) := by decide +kernel
theorem d_Model_write_143 : decode c_Model_write 143 = .ok (.aload_n 0, 1) := by decide +kernel
theorem d_Model_write_144 : decode c_Model_write 144 = .ok (.getfield 35, 3) := by decide +kernel
theorem d_Model_write_147 : decode c_Model_write 147 = .ok (.iload_n 2, 1) := by decide +kernel
theorem d_Model_write_148 : decode c_Model_write 148 = .ok (.iconst 1, 1) := by decide +kernel
theorem d_Model_write_149 : decode c_Model_write 149 = .ok (.isub, 1) := by decide +kernel
theorem d_Model_write_150 : decode c_Model_write 150 = .ok (.iaload, 1) := by decide +kernel
theorem d_Model_write_151 : decode c_Model_write 151 = .ok (.iaload, 1) := by decide +kernel
theorem d_Model_write_152 : decode c_Model_write 152 = .ok (.invokevirtual 191, 3) := by decide +kernel
theorem d_Model_write_155 : decode c_Model_write 155 = .ok (.iload_n 2, 1) := by decide +kernel
theorem d_Model_write_156 : decode c_Model_write 156 = .ok (.iconst 1, 1) := by decide +kernel
theorem d_Model_write_157 : decode c_Model_write 157 = .ok (.iadd, 1) := by decide +kernel
theorem d_Model_write_158 : decode c_Model_write 158 = .ok (.aload_n 0, 1) := by decide +kernel
theorem d_Model_write_159 : decode c_Model_write 159 = .ok (.getfield 63, 3) := by decide +kernel
theorem d_Model_write_162 : decode c_Model_write 162 = .ok (.if_icmp .eq 20, 3) := by decide +kernel
theorem d_Model_write_165 : decode c_Model_write 165 = .ok (.aload_n 0, 1) := by decide +kernel
theorem d_Model_write_166 : decode c_Model_write 166 = .ok (.getfield 13, 3) := by decide +kernel
theorem d_Model_write_169 : decode c_Model_write 169 = .ok (.aload_n 0, 1) := by decide +kernel
theorem d_Model_write_170 : decode c_Model_write 170 = .ok (.getfield 35, 3) := by decide +kernel
theorem d_Model_write_173 : decode c_Model_write 173 = .ok (.iload_n 2, 1) := by decide +kernel
theorem d_Model_write_174 : decode c_Model_write 174 = .ok (.iconst 1, 1) := by decide +kernel
theorem d_Model_write_175 : decode c_Model_write 175 = .ok (.iadd, 1) := by decide +kernel
theorem d_Model_write_176 : decode c_Model_write 176 = .ok (.iaload, 1) := by decide +kernel
theorem d_Model_write_177 : decode c_Model_write 177 = .ok (.iaload, 1) := by decide +kernel
theorem d_Model_write_178 : decode c_Model_write 178 = .ok (.iload_n 1, 1) := by decide +kernel
theorem d_Model_write_179 : decode c_Model_write 179 = .ok (.if_icmp .eq 10, 3) := by decide +kernel
theorem d_Model_write_182 : decode c_Model_write 182 = .ok (.aload_n 0, 1) := by decide +kernel
theorem d_Model_write_183 : decode c_Model_write 183 = .ok (.iconst 0, 1) := by decide +kernel
theorem d_Model_write_184 : decode c_Model_write 184 = .ok (.ldc 101, 2) := by decide +kernel
theorem d_Model_write_186 : decode c_Model_write 186 = .ok (.invokevirtual 140, 3) := by decide +kernel
theorem d_Model_write_189 : decode c_Model_write 189 = .ok (.iinc 2 1, 3) := by decide +kernel
theorem d_Model_write_192 : decode c_Model_write 192 = .ok (.goto (-122), 3) := by decide +kernel
theorem d_Model_write_195 : decode c_Model_write 195 = .ok (.iconst 0, 1) := by decide +kernel
theorem d_Model_write_196 : decode c_Model_write 196 = .ok (.istore_n 2, 1) := by decide +kernel
theorem d_Model_write_197 : decode c_Model_write 197 = .ok (.iconst 0, 1) := by decide +kernel
theorem d_Model_write_198 : decode c_Model_write 198 = .ok (.istore_n 3, 1) := by decide +kernel
theorem d_Model_write_199 : decode c_Model_write 199 = .ok (.iload_n 2, 1) := by decide +kernel
theorem d_Model_write_200 : decode c_Model_write 200 = .ok (.aload_n 0, 1) := by decide +kernel
theorem d_Model_write_201 : decode c_Model_write 201 = .ok (.getfield 63, 3) := by decide +kernel
theorem d_Model_write_204 : decode c_Model_write 204 = .ok (.if_icmp .ge 65, 3) := by decide +kernel
theorem d_Model_write_207 : decode c_Model_write 207 = .ok (.iconst 0, 1) := by decide +kernel
theorem d_Model_write_208 : decode c_Model_write 208 = .ok (.istore 4, 2) := by decide +kernel
theorem d_Model_write_210 : decode c_Model_write 210 = .ok (.iload_n 2, 1) := by decide +kernel
theorem d_Model_write_211 : decode c_Model_write 211 = .ok (.iload 4, 2) := by decide +kernel
theorem d_Model_write_213 : decode c_Model_write 213 = .ok (.iadd, 1) := by decide +kernel
theorem d_Model_write_214 : decode c_Model_write 214 = .ok (.aload_n 0, 1) := by decide +kernel
theorem d_Model_write_215 : decode c_Model_write 215 = .ok (.getfield 63, 3) := by decide +kernel
theorem d_Model_write_218 : decode c_Model_write 218 = .ok (.if_icmp .ge 27, 3) := by decide +kernel
theorem d_Model_write_221 : decode c_Model_write 221 = .ok (.aload_n 0, 1) := by decide +kernel
theorem d_Model_write_222 : decode c_Model_write 222 = .ok (.getfield 19, 3) := by decide +kernel
theorem d_Model_write_225 : decode c_Model_write 225 = .ok (.aload_n 0, 1) := by decide +kernel
theorem d_Model_write_226 : decode c_Model_write 226 = .ok (.getfield 35, 3) := by decide +kernel
theorem d_Model_write_229 : decode c_Model_write 229 = .ok (.iload_n 2, 1) := by decide +kernel
theorem d_Model_write_230 : decode c_Model_write 230 = .ok (.iload 4, 2) := by decide +kernel
theorem d_Model_write_232 : decode c_Model_write 232 = .ok (.iadd, 1) := by decide +kernel
theorem d_Model_write_233 : decode c_Model_write 233 = .ok (.iaload, 1) := by decide +kernel
theorem d_Model_write_234 : decode c_Model_write 234 = .ok (.baload, 1) := by decide +kernel
theorem d_Model_write_235 : decode c_Model_write 235 = .ok (.iload_n 3, 1) := by decide +kernel
theorem d_Model_write_236 : decode c_Model_write 236 = .ok (.if_icmp .ne 9, 3) := by decide +kernel
theorem d_Model_write_239 : decode c_Model_write 239 = .ok (.iinc 4 1, 3) := by decide +kernel
theorem d_Model_write_242 : decode c_Model_write 242 = .ok (.goto (-32), 3) := by decide +kernel
theorem d_Model_write_245 : decode c_Model_write 245 = .ok (.aload_n 0, 1) := by decide +kernel
theorem d_Model_write_246 : decode c_Model_write 246 = .ok (.iload 4, 2) := by decide +kernel
theorem d_Model_write_248 : decode c_Model_write 248 = .ok (.invokevirtual 165, 3) := by decide +kernel
theorem d_Model_write_251 : decode c_Model_write 251 = .ok (.iload_n 2, 1) := by decide +kernel
theorem d_Model_write_252 : decode c_Model_write 252 = .ok (.iload 4, 2) := by decide +kernel
theorem d_Model_write_254 : decode c_Model_write 254 = .ok (.iadd, 1) := by decide +kernel
theorem d_Model_write_255 : decode c_Model_write 255 = .ok (.istore_n 2, 1) := by decide +kernel
theorem d_Model_write_256 : decode c_Model_write 256 = .ok (.iload_n 3, 1) := by decide +kernel
theorem d_Model_write_257 : decode c_Model_write 257 = .ok (.ifCond .ne 7, 3) := by decide +kernel
theorem d_Model_write_260 : decode c_Model_write 260 = .ok (.iconst 1, 1) := by decide +kernel
theorem d_Model_write_261 : decode c_Model_write 261 = .ok (.goto 4, 3) := by decide +kernel
theorem d_Model_write_264 : decode c_Model_write 264 = .ok (.iconst 0, 1) := by decide +kernel
theorem d_Model_write_265 : decode c_Model_write 265 = .ok (.istore_n 3, 1) := by decide +kernel
theorem d_Model_write_266 : decode c_Model_write 266 = .ok (.goto (-67), 3) := by decide +kernel
theorem d_Model_write_269 : decode c_Model_write 269 = .ok (.aload_n 0, 1) := by decide +kernel
theorem d_Model_write_270 : decode c_Model_write 270 = .ok (.getfield 56, 3) := by decide +kernel
theorem d_Model_write_273 : decode c_Model_write 273 = .ok (.iconst 2, 1) := by decide +kernel
theorem d_Model_write_274 : decode c_Model_write 274 = .ok (.if_icmp .ne 33, 3) := by decide +kernel
theorem d_Model_write_277 : decode c_Model_write 277 = .ok (.aload_n 0, 1) := by decide +kernel
theorem d_Model_write_278 : decode c_Model_write 278 = .ok (.aload_n 0, 1) := by decide +kernel
theorem d_Model_write_279 : decode c_Model_write 279 = .ok (.getfield 92, 3) := by decide +kernel
theorem d_Model_write_282 : decode c_Model_write 282 = .ok (.ldc2_w 194, 3) := by decide +kernel
theorem d_Model_write_285 : decode c_Model_write 285 = .ok (.ladd, 1) := by decide +kernel
theorem d_Model_write_286 : decode c_Model_write 286 = .ok (.bipush 24, 2) := by decide +kernel
theorem d_Model_write_288 : decode c_Model_write 288 = .ok (.lshr, 1) := by decide +kernel
theorem d_Model_write_289 : decode c_Model_write 289 = .ok (.invokevirtual 112, 3) := by decide +kernel
theorem d_Model_write_292 : decode c_Model_write 292 = .ok (.aload_n 0, 1) := by decide +kernel
theorem d_Model_write_293 : decode c_Model_write 293 = .ok (.aload_n 0, 1) := by decide +kernel
theorem d_Model_write_294 : decode c_Model_write 294 = .ok (.getfield 92, 3) := by decide +kernel
theorem d_Model_write_297 : decode c_Model_write 297 = .ok (.ldc2_w 194, 3) := by decide +kernel
theorem d_Model_write_300 : decode c_Model_write 300 = .ok (.ladd, 1) := by decide +kernel
theorem d_Model_write_301 : decode c_Model_write 301 = .ok (.bipush 16, 2) := by decide +kernel
theorem d_Model_write_303 : decode c_Model_write 303 = .ok (.lshr, 1) := by decide +kernel
theorem d_Model_write_304 : decode c_Model_write 304 = .ok (.invokevirtual 112, 3) := by decide +kernel
theorem d_Model_write_307 : decode c_Model_write 307 = .ok (.aload_n 0, 1) := by decide +kernel
theorem d_Model_write_308 : decode c_Model_write 308 = .ok (.getfield 102, 3) := by decide +kernel
theorem d_Model_write_311 : decode c_Model_write 311 = .ok (.ireturn, 1) := by decide +kernel
/-! Model_writePlane -/
def l_Model_writePlane_41 (x1 : Int32) (x2 : Int32) (x3 : Int32) (x4 : Int32) (k91 : Mo → Option (Mo)) : Nat → Mo → Int32 → Option (Mo)
  | 0, _, _ => none
  | n + 1, mo, x5 => (if x2 ≤ x5 then k91 mo else gd (inb x4 16) <| bd (f_Model_sample mo x1 x5 x4) <| fun r_14 => gd (inb x1 80) <| bd (f_Model_under mo x1 (Mo_bs mo x1.toNatClampNeg) x5 x4) <| fun r_16 => gd (inb x4 16) <| lt' (Mo_s_pl mo (upd (Mo_pl mo) x4.toNatClampNeg ((Mo_pl mo x4.toNatClampNeg) ||| ((r_14 ^^^ r_16) <<< (x5 &&& 31))))) <| fun mo_18 => lt' (x5 + 1) <| fun x5_20 => (l_Model_writePlane_41 x1 x2 x3 x4 k91 n) mo_18 x5_20)
def l_Model_writePlane_19 (x1 : Int32) (x2 : Int32) (x3 : Int32) (k97 : Mo → Option (Mo)) : Nat → Mo → Int32 → Option (Mo)
  | 0, _, _ => none
  | n + 1, mo, x4 => gd (inb x1 80) <| (if (Mo_ht mo x1.toNatClampNeg) ≤ x4 then k97 mo else gd (inb x4 16) <| lt' (Mo_s_pl mo (upd (Mo_pl mo) x4.toNatClampNeg 0)) <| fun mo_9 => l_Model_writePlane_41 x1 x2 x3 x4 (fun mo_21 => lt' (x4 + 1) <| fun x4_22 => (l_Model_writePlane_19 x1 x2 x3 k97 n) mo_21 x4_22) 100000 mo_9 0)
def j_Model_writePlane_230_34 (mo : Mo) (x2 : Int32) (x4 : Int32) (rc185 : Mo → Int32 → Option (Mo)) (r_29 : Int32) (z0_33 : Int32) : Option (Mo) := bd (f_Model_context mo (x4 - x4 / x2 * x2) (x4 / x2) x2 z0_33) <| fun r_35 => bd (f_Model_chanceOf mo r_35) <| fun r_36 => bd (f_Model_emit mo r_29 r_36) <| fun mo_37 => bd (f_Model_learn mo_37 r_35 r_29) <| fun mo_38 => lt' (x4 + 1) <| fun x4_39 => rc185 mo_38 x4_39
def l_Model_writePlane_185 (x1 : Int32) (x2 : Int32) (x3 : Int32) (k261 : Mo → Option (Mo)) : Nat → Mo → Int32 → Option (Mo)
  | 0, _, _ => none
  | n + 1, mo, x4 => (if x3 ≤ x4 then k261 mo else gd (decide (¬ x2 = 0)) <| gd (decide (¬ x2 = 0)) <| bd (f_Model_planeAt mo (x4 - x4 / x2 * x2) (x4 / x2) x2) <| fun r_29 => gd (decide (¬ x2 = 0)) <| gd (decide (¬ x2 = 0)) <| gd (inb x1 80) <| (if (Mo_bs mo x1.toNatClampNeg) < 0 then j_Model_writePlane_230_34 mo x2 x4 (l_Model_writePlane_185 x1 x2 x3 k261 n) r_29 0 else j_Model_writePlane_230_34 mo x2 x4 (l_Model_writePlane_185 x1 x2 x3 k261 n) r_29 1))
def l_Model_writePlane_120 (mo : Mo) (x2 : Int32) (x3 : Int32) (x4 : Int32) (x5 : Int32) (k159 : Int32 → Option (Mo)) : Nat → Int32 → Option (Mo)
  | 0, _ => none
  | n + 1, x6 => (if x3 ≤ (x5 + x6) then k159 x6 else gd (decide (¬ x2 = 0)) <| gd (decide (¬ x2 = 0)) <| bd (f_Model_planeAt mo ((x5 + x6) - (x5 + x6) / x2 * x2) ((x5 + x6) / x2) x2) <| fun r_48 => (if r_48 = x4 then lt' (x6 + 1) <| fun x6_50 => (l_Model_writePlane_120 mo x2 x3 x4 x5 k159 n) x6_50 else k159 x6))
def l_Model_writePlane_111 (x2 : Int32) (x3 : Int32) (k181 : Mo → Option (Mo)) : Nat → Mo → Int32 → Int32 → Option (Mo)
  | 0, _, _, _ => none
  | n + 1, mo, x4, x5 => (if x3 ≤ x5 then k181 mo else l_Model_writePlane_120 mo x2 x3 x4 x5 (fun x6_51 => bd (f_Model_emitNumber mo x6_51) <| fun mo_52 => lt' (x5 + x6_51) <| fun x5_53 => lt' (1 - x4) <| fun x4_54 => (l_Model_writePlane_111 x2 x3 k181 n) mo_52 x4_54 x5_53) 100000 0)
def f_Model_writePlane (mo : Mo) (x1 : Int32) : Option (Mo) := gd (inb x1 80) <| lt' (Mo_wd mo x1.toNatClampNeg) <| fun x2_2 => gd (inb x1 80) <| lt' (x2_2 * (Mo_ht mo x1.toNatClampNeg)) <| fun x3_4 => l_Model_writePlane_19 x1 x2_2 x3_4 (fun mo_23 => (if (Mo_kind mo_23) = 1 then l_Model_writePlane_111 x2_2 x3_4 (fun mo_55 => some mo_55) 100000 mo_23 0 0 else l_Model_writePlane_185 x1 x2_2 x3_4 (fun mo_41 => some mo_41) 100000 mo_23 0)) 100000 mo 0
section
variable {p : Program} {l : Launch} {e : Env} {R : Room} {s : State} {m : MethodId} {args : Array Value} {below : List Frame} {meth : Method} {c : Code} {Q : State → Prop} {A : Nat → Prop}
set_option maxHeartbeats 4000000 in
set_option maxRecDepth 100000 in
theorem L_Model_writePlane_41 {cells slots : Nat} {dC : Nat → ClassId} {dI : Nat → Nat → Nat} {cI cZ cJ : ClassId} {mo_a : Nat → Nat} {x1 : Int32} {x2 : Int32} {x3 : Int32} {x4 : Int32} {k91 : Mo → Option (Mo)} {res : Mo} (C0 : cxt p c m s args R cells slots R_Model c_Model_writePlane tb 7 (dC, dI) vwCl (TYS cI cZ cJ) A 4 91)
    (hk91 : ∀ (H : Heap) (locs : List Loc) (ls : Array Slot) (mo_11 : Mo), va_P (dC, dI) vwCl (wMo cI cZ cJ mo_a mo_11) H → va_D A (wMo cI cZ cJ mo_a mo_11) → va_S A s.heap H locs → lv_has ls 7 [(0, .ref (mo_a 0)), (1, .int x1), (2, .int x2), (3, .int x3), (4, .int x4)] → k91 mo_11 = some res → W p l e R s m args below meth c H locs cells slots Q (F0 m 91 ls [])) :
    ∀ (n : Nat) (H : Heap) (locs : List Loc) (ls : Array Slot) (mo : Mo) (x5 : Int32), va_P (dC, dI) vwCl (wMo cI cZ cJ mo_a mo) H → va_D A (wMo cI cZ cJ mo_a mo) → va_S A s.heap H locs → lv_has ls 7 [(0, .ref (mo_a 0)), (1, .int x1), (2, .int x2), (3, .int x3), (4, .int x4), (5, .int x5)] → l_Model_writePlane_41 x1 x2 x3 x4 k91 n mo x5 = some res → W p l e R s m args below meth c H locs cells slots Q (F0 m 41 ls []) := by
  obtain ⟨hx, hb, hml, hown, hts, hK, hA, hRf, hRl, hN, hRc⟩ := id C0
  intro n
  induction n with
  | zero =>
    intro H locs ls mo x5 hP hD hS hl hf
    exact absurd hf (by simp [l_Model_writePlane_41])
  | succ n ih =>
    intro H locs ls mo x5 hP hD hS hl hf
    rw [l_Model_writePlane_41] at hf
    refine lv_iload hx hb d_Model_writePlane_41 (lv_at hl 5 rfl) ?_
    refine lv_iload_n hx hb d_Model_writePlane_43 rfl (lv_at hl 2 rfl) ?_
    refine lv_icmp_ge (tgt := 91) hx hb d_Model_writePlane_44 (by decide) (fun c_12 => ?_) (fun c_12 => ?_)
    · rw [if_pos c_12] at hf
      exact hk91 _ _ _ mo hP hD hS (lv_sub hl [0, 1, 2, 3, 4] rfl) hf
    · rw [if_neg c_12] at hf
      refine lv_aload_n hx hb d_Model_writePlane_47 rfl (lv_at hl 0 rfl) ?_
      refine va_get (D := (dC, dI)) (ci := 7) (v := .ref (mo_a 15)) (C := R_Model) (T := T_Model) (N := 27) hx hb hts in_Model hown hK hP 0 rfl rfl 25 (by decide) (hts _ t_849) (fun _ h9 => h9) rfl d_Model_writePlane_48 ?_
      refine lv_iload hx hb d_Model_writePlane_51 (lv_at hl 4 rfl) ?_
      refine lv_dup2_11 hx hb d_Model_writePlane_53 rfl rfl ?_
      obtain ⟨h_13, hf⟩ := gd_ex hf
      refine va_iald (f := Mo_pl mo) hx hb hK hP 15 0 rfl rfl (inb_in h_13) d_Model_writePlane_54 ?_
      refine lv_aload_n hx hb d_Model_writePlane_55 rfl (lv_at hl 0 rfl) ?_
      refine lv_iload_n hx hb d_Model_writePlane_56 rfl (lv_at hl 1 rfl) ?_
      refine lv_iload hx hb d_Model_writePlane_57 (lv_at hl 5 rfl) ?_
      refine lv_iload hx hb d_Model_writePlane_59 (lv_at hl 4 rfl) ?_
      obtain ⟨r_14, hf1, hf⟩ := bd_ex hf
      try dsimp only at hf
      have hPc := hP.sub (ws' := (wMo cI cZ cJ mo_a mo)) [0, 1, 2, 3, 4, 5, 6, 7, 8, 9, 10, 11, 12, 13, 14, 15] rfl
      have hDc := hD.sub (ws' := (wMo cI cZ cJ mo_a mo)) [0, 1, 2, 3, 4, 5, 6, 7, 8, 9, 10, 11, 12, 13, 14, 15] (by decide) rfl
      have hFc := va_free (wc := (wMo cI cZ cJ mo_a mo)) hD hS hA [0, 1, 2, 3, 4, 5, 6, 7, 8, 9, 10, 11, 12, 13, 14, 15] rfl
      refine va_calli (va_runV (As := [.int x1, .int x5, .int x4]) (rest := [.int (Mo_pl mo x4.toNatClampNeg), .int x4, .ref (mo_a 15)]) ⟨hx, hb, hml, hown, hts⟩ (k_Model_sample l dC dI cI cZ cJ mo_a H.size hf1) (cwV 3 hts (gV t_930 t_932 t_26 t_63 t_933) rfl rfl rfl hd_Model_sample ⟨Nat.le_trans (Nat.le_of_ble_eq_true rfl) hRf, Nat.le_trans (Nat.le_of_ble_eq_true rfl) hRl⟩) ⟨kP_blind, va_recv hK hP (ci := 7) (q0 := 0) rfl rfl, kP_at hPc hK hDc hN⟩ rfl rfl hl.1 rfl (lv_room (Nat.le_of_ble_eq_true rfl)) d_Model_writePlane_61 hRc) hS (fun q _ h => hFc q h) hFc (fun r9 u t H1 locs ht hvm hw hB hz1 hk1 hS => ?_)
      rw [hw]
      obtain ⟨hP, hD⟩ := kQ_join (wr := ([] : va_W)) (w1 := (wMo cI cZ cJ mo_a mo)) hP hD [0, 1, 2, 3, 4, 5, 6, 7, 8, 9, 10, 11, 12, 13, 14, 15] [] rfl rfl (by decide) (by decide) ht hk1 hFc hB
      generalize H1 = H at hP hS ⊢
      have hP : va_P (dC, dI) vwCl (wMo cI cZ cJ mo_a mo) H := hP.sub [0, 1, 2, 3, 4, 5, 6, 7, 8, 9, 10, 11, 12, 13, 14, 15] rfl
      have hD : va_D A (wMo cI cZ cJ mo_a mo) := hD.sub [0, 1, 2, 3, 4, 5, 6, 7, 8, 9, 10, 11, 12, 13, 14, 15] (by decide) rfl
      refine lv_aload_n hx hb d_Model_writePlane_64 rfl (lv_at hl 0 rfl) ?_
      refine lv_iload_n hx hb d_Model_writePlane_65 rfl (lv_at hl 1 rfl) ?_
      refine lv_aload_n hx hb d_Model_writePlane_66 rfl (lv_at hl 0 rfl) ?_
      refine va_get (D := (dC, dI)) (ci := 7) (v := .ref (mo_a 5)) (C := R_Model) (T := T_Model) (N := 27) hx hb hts in_Model hown hK hP 0 rfl rfl 7 (by decide) (hts _ t_831) (fun _ h9 => h9) rfl d_Model_writePlane_67 ?_
      refine lv_iload_n hx hb d_Model_writePlane_70 rfl (lv_at hl 1 rfl) ?_
      obtain ⟨h_15, hf⟩ := gd_ex hf
      refine va_iald (f := Mo_bs mo) hx hb hK hP 5 0 rfl rfl (inb_in h_15) d_Model_writePlane_71 ?_
      refine lv_iload hx hb d_Model_writePlane_72 (lv_at hl 5 rfl) ?_
      refine lv_iload hx hb d_Model_writePlane_74 (lv_at hl 4 rfl) ?_
      obtain ⟨r_16, hf1, hf⟩ := bd_ex hf
      try dsimp only at hf
      have hPc := hP.sub (ws' := (wMo cI cZ cJ mo_a mo)) [0, 1, 2, 3, 4, 5, 6, 7, 8, 9, 10, 11, 12, 13, 14, 15] rfl
      have hDc := hD.sub (ws' := (wMo cI cZ cJ mo_a mo)) [0, 1, 2, 3, 4, 5, 6, 7, 8, 9, 10, 11, 12, 13, 14, 15] (by decide) rfl
      have hFc := va_free (wc := (wMo cI cZ cJ mo_a mo)) hD hS hA [0, 1, 2, 3, 4, 5, 6, 7, 8, 9, 10, 11, 12, 13, 14, 15] rfl
      refine va_calli (va_runV (As := [.int x1, .int (Mo_bs mo x1.toNatClampNeg), .int x5, .int x4]) (rest := [.int r_14, .int (Mo_pl mo x4.toNatClampNeg), .int x4, .ref (mo_a 15)]) ⟨hx, hb, hml, hown, hts⟩ (k_Model_under l dC dI cI cZ cJ mo_a H.size hf1) (cwV 4 hts (gV t_1012 t_1014 t_39 t_63 t_1015) rfl rfl rfl hd_Model_under ⟨Nat.le_trans (Nat.le_of_ble_eq_true rfl) hRf, Nat.le_trans (Nat.le_of_ble_eq_true rfl) hRl⟩) ⟨kP_blind, va_recv hK hP (ci := 7) (q0 := 0) rfl rfl, kP_at hPc hK hDc hN⟩ rfl rfl hl.1 rfl (lv_room (Nat.le_of_ble_eq_true rfl)) d_Model_writePlane_76 hRc) hS (fun q _ h => hFc q h) hFc (fun r9 u t H1 locs ht hvm hw hB hz1 hk1 hS => ?_)
      rw [hw]
      obtain ⟨hP, hD⟩ := kQ_join (wr := ([] : va_W)) (w1 := (wMo cI cZ cJ mo_a mo)) hP hD [0, 1, 2, 3, 4, 5, 6, 7, 8, 9, 10, 11, 12, 13, 14, 15] [] rfl rfl (by decide) (by decide) ht hk1 hFc hB
      generalize H1 = H at hP hS ⊢
      have hP : va_P (dC, dI) vwCl (wMo cI cZ cJ mo_a mo) H := hP.sub [0, 1, 2, 3, 4, 5, 6, 7, 8, 9, 10, 11, 12, 13, 14, 15] rfl
      have hD : va_D A (wMo cI cZ cJ mo_a mo) := hD.sub [0, 1, 2, 3, 4, 5, 6, 7, 8, 9, 10, 11, 12, 13, 14, 15] (by decide) rfl
      refine lv_ixor hx hb d_Model_writePlane_79 ?_
      refine lv_iload hx hb d_Model_writePlane_80 (lv_at hl 5 rfl) ?_
      refine lv_ishl hx hb d_Model_writePlane_82 ?_
      refine lv_ior hx hb d_Model_writePlane_83 ?_
      obtain ⟨h_17, hf⟩ := gd_ex hf
      refine va_iast (f := Mo_pl mo) hx hb hK hP hD hS 15 0 rfl rfl (inb_in h_17) d_Model_writePlane_84 (fun H locs hP hD hS => ?_)
      obtain ⟨mo_18, emo_18, hf⟩ := lt_ex hf
      try dsimp only at hf
      have hP : va_P (dC, dI) vwCl (wMo cI cZ cJ mo_a mo_18) H := by rw [emo_18]; exact hP
      have hD : va_D A (wMo cI cZ cJ mo_a mo_18) := by rw [emo_18]; exact hD
      obtain ⟨x5_20, ex5_20, hf⟩ := lt_ex hf
      try dsimp only at hf
      refine lv_iinc (v := x5_20) (lv' := [(5, .int x5_20), (0, .ref (mo_a 0)), (1, .int x1), (2, .int x2), (3, .int x3), (4, .int x4)]) hx hb d_Model_writePlane_85 hl (k := 5) rfl (by rw [ex5_20]; rfl) (by decide) rfl (fun ls hl => ?_)
      refine lv_goto (tgt := 41) hx hb d_Model_writePlane_88 (by decide) ?_
      exact ih _ _ _ mo_18 x5_20 hP hD hS (lv_sub hl [1, 2, 3, 4, 5, 0] rfl) hf
set_option maxHeartbeats 4000000 in
set_option maxRecDepth 100000 in
theorem L_Model_writePlane_19 {cells slots : Nat} {dC : Nat → ClassId} {dI : Nat → Nat → Nat} {cI cZ cJ : ClassId} {mo_a : Nat → Nat} {x1 : Int32} {x2 : Int32} {x3 : Int32} {k97 : Mo → Option (Mo)} {res : Mo} (C0 : cxt p c m s args R cells slots R_Model c_Model_writePlane tb 7 (dC, dI) vwCl (TYS cI cZ cJ) A 4 91)
    (hk97 : ∀ (H : Heap) (locs : List Loc) (ls : Array Slot) (mo_5 : Mo), va_P (dC, dI) vwCl (wMo cI cZ cJ mo_a mo_5) H → va_D A (wMo cI cZ cJ mo_a mo_5) → va_S A s.heap H locs → lv_has ls 7 [(0, .ref (mo_a 0)), (1, .int x1), (2, .int x2), (3, .int x3)] → k97 mo_5 = some res → W p l e R s m args below meth c H locs cells slots Q (F0 m 97 ls [])) :
    ∀ (n : Nat) (H : Heap) (locs : List Loc) (ls : Array Slot) (mo : Mo) (x4 : Int32), va_P (dC, dI) vwCl (wMo cI cZ cJ mo_a mo) H → va_D A (wMo cI cZ cJ mo_a mo) → va_S A s.heap H locs → lv_has ls 7 [(0, .ref (mo_a 0)), (1, .int x1), (2, .int x2), (3, .int x3), (4, .int x4)] → l_Model_writePlane_19 x1 x2 x3 k97 n mo x4 = some res → W p l e R s m args below meth c H locs cells slots Q (F0 m 19 ls []) := by
  obtain ⟨hx, hb, hml, hown, hts, hK, hA, hRf, hRl, hN, hRc⟩ := id C0
  intro n
  induction n with
  | zero =>
    intro H locs ls mo x4 hP hD hS hl hf
    exact absurd hf (by simp [l_Model_writePlane_19])
  | succ n ih =>
    intro H locs ls mo x4 hP hD hS hl hf
    rw [l_Model_writePlane_19] at hf
    refine lv_iload hx hb d_Model_writePlane_19 (lv_at hl 4 rfl) ?_
    refine lv_aload_n hx hb d_Model_writePlane_21 rfl (lv_at hl 0 rfl) ?_
    refine va_get (D := (dC, dI)) (ci := 7) (v := .ref (mo_a 2)) (C := R_Model) (T := T_Model) (N := 27) hx hb hts in_Model hown hK hP 0 rfl rfl 4 (by decide) (hts _ t_828) (fun _ h9 => h9) rfl d_Model_writePlane_22 ?_
    refine lv_iload_n hx hb d_Model_writePlane_25 rfl (lv_at hl 1 rfl) ?_
    obtain ⟨h_6, hf⟩ := gd_ex hf
    refine va_iald (f := Mo_ht mo) hx hb hK hP 2 0 rfl rfl (inb_in h_6) d_Model_writePlane_26 ?_
    refine lv_icmp_ge (tgt := 97) hx hb d_Model_writePlane_27 (by decide) (fun c_7 => ?_) (fun c_7 => ?_)
    · rw [if_pos c_7] at hf
      exact hk97 _ _ _ mo hP hD hS (lv_sub hl [0, 1, 2, 3] rfl) hf
    · rw [if_neg c_7] at hf
      refine lv_aload_n hx hb d_Model_writePlane_30 rfl (lv_at hl 0 rfl) ?_
      refine va_get (D := (dC, dI)) (ci := 7) (v := .ref (mo_a 15)) (C := R_Model) (T := T_Model) (N := 27) hx hb hts in_Model hown hK hP 0 rfl rfl 25 (by decide) (hts _ t_849) (fun _ h9 => h9) rfl d_Model_writePlane_31 ?_
      refine lv_iload hx hb d_Model_writePlane_34 (lv_at hl 4 rfl) ?_
      refine lv_iconst (v := 0) hx hb d_Model_writePlane_36 (by decide) ?_
      obtain ⟨h_8, hf⟩ := gd_ex hf
      refine va_iast (f := Mo_pl mo) hx hb hK hP hD hS 15 0 rfl rfl (inb_in h_8) d_Model_writePlane_37 (fun H locs hP hD hS => ?_)
      obtain ⟨mo_9, emo_9, hf⟩ := lt_ex hf
      try dsimp only at hf
      have hP : va_P (dC, dI) vwCl (wMo cI cZ cJ mo_a mo_9) H := by rw [emo_9]; exact hP
      have hD : va_D A (wMo cI cZ cJ mo_a mo_9) := by rw [emo_9]; exact hD
      refine lv_iconst (v := 0) hx hb d_Model_writePlane_38 (by decide) ?_
      refine lv_istore (lv' := [(5, .int 0), (0, .ref (mo_a 0)), (1, .int x1), (2, .int x2), (3, .int x3), (4, .int x4)]) hx hb d_Model_writePlane_39 hl (by decide) rfl (fun ls hl => ?_)
      refine L_Model_writePlane_41 C0 (fun H locs ls mo_21 hP hD hS hl hf => ?_) 100000 _ _ _ mo_9 0 hP hD hS (lv_sub hl [1, 2, 3, 4, 5, 0] rfl) hf
      try dsimp only at hf
      obtain ⟨x4_22, ex4_22, hf⟩ := lt_ex hf
      try dsimp only at hf
      refine lv_iinc (v := x4_22) (lv' := [(4, .int x4_22), (0, .ref (mo_a 0)), (1, .int x1), (2, .int x2), (3, .int x3)]) hx hb d_Model_writePlane_91 hl (k := 4) rfl (by rw [ex4_22]; rfl) (by decide) rfl (fun ls hl => ?_)
      refine lv_goto (tgt := 19) hx hb d_Model_writePlane_94 (by decide) ?_
      exact ih _ _ _ mo_21 x4_22 hP hD hS (lv_sub hl [1, 2, 3, 4, 0] rfl) hf
set_option maxHeartbeats 4000000 in
set_option maxRecDepth 100000 in
theorem L_Model_writePlane_185 {cells slots : Nat} {dC : Nat → ClassId} {dI : Nat → Nat → Nat} {cI cZ cJ : ClassId} {mo_a : Nat → Nat} {x1 : Int32} {x2 : Int32} {x3 : Int32} {k261 : Mo → Option (Mo)} {res : Mo} (C0 : cxt p c m s args R cells slots R_Model c_Model_writePlane tb 7 (dC, dI) vwCl (TYS cI cZ cJ) A 4 91)
    (hk261 : ∀ (H : Heap) (locs : List Loc) (ls : Array Slot) (mo_25 : Mo), va_P (dC, dI) vwCl (wMo cI cZ cJ mo_a mo_25) H → va_D A (wMo cI cZ cJ mo_a mo_25) → va_S A s.heap H locs → lv_has ls 7 [] → k261 mo_25 = some res → W p l e R s m args below meth c H locs cells slots Q (F0 m 261 ls [])) :
    ∀ (n : Nat) (H : Heap) (locs : List Loc) (ls : Array Slot) (mo : Mo) (x4 : Int32), va_P (dC, dI) vwCl (wMo cI cZ cJ mo_a mo) H → va_D A (wMo cI cZ cJ mo_a mo) → va_S A s.heap H locs → lv_has ls 7 [(0, .ref (mo_a 0)), (1, .int x1), (2, .int x2), (3, .int x3), (4, .int x4)] → l_Model_writePlane_185 x1 x2 x3 k261 n mo x4 = some res → W p l e R s m args below meth c H locs cells slots Q (F0 m 185 ls []) := by
  obtain ⟨hx, hb, hml, hown, hts, hK, hA, hRf, hRl, hN, hRc⟩ := id C0
  intro n
  induction n with
  | zero =>
    intro H locs ls mo x4 hP hD hS hl hf
    exact absurd hf (by simp [l_Model_writePlane_185])
  | succ n ih =>
    intro H locs ls mo x4 hP hD hS hl hf
    rw [l_Model_writePlane_185] at hf
    refine lv_iload hx hb d_Model_writePlane_185 (lv_at hl 4 rfl) ?_
    refine lv_iload_n hx hb d_Model_writePlane_187 rfl (lv_at hl 3 rfl) ?_
    refine lv_icmp_ge (tgt := 261) hx hb d_Model_writePlane_188 (by decide) (fun c_26 => ?_) (fun c_26 => ?_)
    · rw [if_pos c_26] at hf
      exact hk261 _ _ _ mo hP hD hS (lv_sub hl [] rfl) hf
    · rw [if_neg c_26] at hf
      refine lv_aload_n hx hb d_Model_writePlane_191 rfl (lv_at hl 0 rfl) ?_
      refine lv_iload hx hb d_Model_writePlane_192 (lv_at hl 4 rfl) ?_
      refine lv_iload_n hx hb d_Model_writePlane_194 rfl (lv_at hl 2 rfl) ?_
      obtain ⟨h_27, hf⟩ := gd_ex hf
      refine lv_irem hx hb d_Model_writePlane_195 (of_decide_eq_true h_27) ?_
      refine lv_iload hx hb d_Model_writePlane_196 (lv_at hl 4 rfl) ?_
      refine lv_iload_n hx hb d_Model_writePlane_198 rfl (lv_at hl 2 rfl) ?_
      obtain ⟨h_28, hf⟩ := gd_ex hf
      refine lv_idiv hx hb d_Model_writePlane_199 (of_decide_eq_true h_28) ?_
      refine lv_iload_n hx hb d_Model_writePlane_200 rfl (lv_at hl 2 rfl) ?_
      obtain ⟨r_29, hf1, hf⟩ := bd_ex hf
      try dsimp only at hf
      have hPc := hP.sub (ws' := (wMo cI cZ cJ mo_a mo)) [0, 1, 2, 3, 4, 5, 6, 7, 8, 9, 10, 11, 12, 13, 14, 15] rfl
      have hDc := hD.sub (ws' := (wMo cI cZ cJ mo_a mo)) [0, 1, 2, 3, 4, 5, 6, 7, 8, 9, 10, 11, 12, 13, 14, 15] (by decide) rfl
      have hFc := va_free (wc := (wMo cI cZ cJ mo_a mo)) hD hS hA [0, 1, 2, 3, 4, 5, 6, 7, 8, 9, 10, 11, 12, 13, 14, 15] rfl
      refine va_calli (va_runV (As := [.int (x4 - x4 / x2 * x2), .int (x4 / x2), .int x2]) (rest := []) ⟨hx, hb, hml, hown, hts⟩ (k_Model_planeAt l dC dI cI cZ cJ mo_a H.size hf1) (cwV 3 hts (gV t_1016 t_1018 t_40 t_63 t_1019) rfl rfl rfl hd_Model_planeAt ⟨Nat.le_trans (Nat.le_of_ble_eq_true rfl) hRf, Nat.le_trans (Nat.le_of_ble_eq_true rfl) hRl⟩) ⟨kP_blind, va_recv hK hP (ci := 7) (q0 := 0) rfl rfl, kP_at hPc hK hDc hN⟩ rfl rfl hl.1 rfl (lv_room (Nat.le_of_ble_eq_true rfl)) d_Model_writePlane_201 hRc) hS (fun q _ h => hFc q h) hFc (fun r9 u t H1 locs ht hvm hw hB hz1 hk1 hS => ?_)
      rw [hw]
      obtain ⟨hP, hD⟩ := kQ_join (wr := ([] : va_W)) (w1 := (wMo cI cZ cJ mo_a mo)) hP hD [0, 1, 2, 3, 4, 5, 6, 7, 8, 9, 10, 11, 12, 13, 14, 15] [] rfl rfl (by decide) (by decide) ht hk1 hFc hB
      generalize H1 = H at hP hS ⊢
      have hP : va_P (dC, dI) vwCl (wMo cI cZ cJ mo_a mo) H := hP.sub [0, 1, 2, 3, 4, 5, 6, 7, 8, 9, 10, 11, 12, 13, 14, 15] rfl
      have hD : va_D A (wMo cI cZ cJ mo_a mo) := hD.sub [0, 1, 2, 3, 4, 5, 6, 7, 8, 9, 10, 11, 12, 13, 14, 15] (by decide) rfl
      refine lv_istore (lv' := [(5, .int r_29), (0, .ref (mo_a 0)), (1, .int x1), (2, .int x2), (3, .int x3), (4, .int x4)]) hx hb d_Model_writePlane_204 hl (by decide) rfl (fun ls hl => ?_)
      refine lv_aload_n hx hb d_Model_writePlane_206 rfl (lv_at hl 1 rfl) ?_
      refine lv_iload hx hb d_Model_writePlane_207 (lv_at hl 5 rfl) ?_
      refine lv_iload_n hx hb d_Model_writePlane_209 rfl (lv_at hl 3 rfl) ?_
      obtain ⟨h_30, hf⟩ := gd_ex hf
      refine lv_irem hx hb d_Model_writePlane_210 (of_decide_eq_true h_30) ?_
      refine lv_iload hx hb d_Model_writePlane_211 (lv_at hl 5 rfl) ?_
      refine lv_iload_n hx hb d_Model_writePlane_213 rfl (lv_at hl 3 rfl) ?_
      obtain ⟨h_31, hf⟩ := gd_ex hf
      refine lv_idiv hx hb d_Model_writePlane_214 (of_decide_eq_true h_31) ?_
      refine lv_iload_n hx hb d_Model_writePlane_215 rfl (lv_at hl 3 rfl) ?_
      refine lv_aload_n hx hb d_Model_writePlane_216 rfl (lv_at hl 1 rfl) ?_
      refine va_get (D := (dC, dI)) (ci := 7) (v := .ref (mo_a 5)) (C := R_Model) (T := T_Model) (N := 27) hx hb hts in_Model hown hK hP 0 rfl rfl 7 (by decide) (hts _ t_831) (fun _ h9 => h9) rfl d_Model_writePlane_217 ?_
      refine lv_iload_n hx hb d_Model_writePlane_220 rfl (lv_at hl 2 rfl) ?_
      obtain ⟨h_32, hf⟩ := gd_ex hf
      refine va_iald (f := Mo_bs mo) hx hb hK hP 5 0 rfl rfl (inb_in h_32) d_Model_writePlane_221 ?_
      have J230_33 : ∀ (H : Heap) (locs : List Loc) (ls : Array Slot) (z0_33 : Int32), va_P (dC, dI) vwCl (wMo cI cZ cJ mo_a mo) H → va_D A (wMo cI cZ cJ mo_a mo) → va_S A s.heap H locs → lv_has ls 7 [(0, .ref (mo_a 0)), (1, .int x1), (2, .int x2), (3, .int x3), (4, .int x4), (5, .int r_29)] → j_Model_writePlane_230_34 mo x2 x4 (l_Model_writePlane_185 x1 x2 x3 k261 n) r_29 z0_33 = some res → W p l e R s m args below meth c H locs cells slots Q (F0 m 230 ls [.int z0_33, .int x2, .int (x4 / x2), .int (x4 - x4 / x2 * x2), .ref (mo_a 0)]) := by
        intro H locs ls z0_33 hP hD hS hl hf
        rw [j_Model_writePlane_230_34] at hf
        obtain ⟨r_35, hf1, hf⟩ := bd_ex hf
        try dsimp only at hf
        have hPc := hP.sub (ws' := (wMo cI cZ cJ mo_a mo)) [0, 1, 2, 3, 4, 5, 6, 7, 8, 9, 10, 11, 12, 13, 14, 15] rfl
        have hDc := hD.sub (ws' := (wMo cI cZ cJ mo_a mo)) [0, 1, 2, 3, 4, 5, 6, 7, 8, 9, 10, 11, 12, 13, 14, 15] (by decide) rfl
        have hFc := va_free (wc := (wMo cI cZ cJ mo_a mo)) hD hS hA [0, 1, 2, 3, 4, 5, 6, 7, 8, 9, 10, 11, 12, 13, 14, 15] rfl
        refine va_calli (va_runV (As := [.int (x4 - x4 / x2 * x2), .int (x4 / x2), .int x2, .int z0_33]) (rest := []) ⟨hx, hb, hml, hown, hts⟩ (k_Model_context l dC dI cI cZ cJ mo_a H.size hf1) (cwV 4 hts (gV t_1020 t_1022 t_41 t_63 t_1023) rfl rfl rfl hd_Model_context ⟨Nat.le_trans (Nat.le_of_ble_eq_true rfl) hRf, Nat.le_trans (Nat.le_of_ble_eq_true rfl) hRl⟩) ⟨kP_blind, va_recv hK hP (ci := 7) (q0 := 0) rfl rfl, kP_at hPc hK hDc hN⟩ rfl rfl hl.1 rfl (lv_room (Nat.le_of_ble_eq_true rfl)) d_Model_writePlane_230 hRc) hS (fun q _ h => hFc q h) hFc (fun r9 u t H1 locs ht hvm hw hB hz1 hk1 hS => ?_)
        rw [hw]
        obtain ⟨hP, hD⟩ := kQ_join (wr := ([] : va_W)) (w1 := (wMo cI cZ cJ mo_a mo)) hP hD [0, 1, 2, 3, 4, 5, 6, 7, 8, 9, 10, 11, 12, 13, 14, 15] [] rfl rfl (by decide) (by decide) ht hk1 hFc hB
        generalize H1 = H at hP hS ⊢
        have hP : va_P (dC, dI) vwCl (wMo cI cZ cJ mo_a mo) H := hP.sub [0, 1, 2, 3, 4, 5, 6, 7, 8, 9, 10, 11, 12, 13, 14, 15] rfl
        have hD : va_D A (wMo cI cZ cJ mo_a mo) := hD.sub [0, 1, 2, 3, 4, 5, 6, 7, 8, 9, 10, 11, 12, 13, 14, 15] (by decide) rfl
        refine lv_istore (lv' := [(6, .int r_35), (0, .ref (mo_a 0)), (1, .int x1), (2, .int x2), (3, .int x3), (4, .int x4), (5, .int r_29)]) hx hb d_Model_writePlane_233 hl (by decide) rfl (fun ls hl => ?_)
        refine lv_aload_n hx hb d_Model_writePlane_235 rfl (lv_at hl 1 rfl) ?_
        refine lv_iload hx hb d_Model_writePlane_236 (lv_at hl 6 rfl) ?_
        refine lv_aload_n hx hb d_Model_writePlane_238 rfl (lv_at hl 1 rfl) ?_
        refine lv_iload hx hb d_Model_writePlane_239 (lv_at hl 0 rfl) ?_
        obtain ⟨r_36, hf1, hf⟩ := bd_ex hf
        try dsimp only at hf
        have hPc := hP.sub (ws' := (wMo cI cZ cJ mo_a mo)) [0, 1, 2, 3, 4, 5, 6, 7, 8, 9, 10, 11, 12, 13, 14, 15] rfl
        have hDc := hD.sub (ws' := (wMo cI cZ cJ mo_a mo)) [0, 1, 2, 3, 4, 5, 6, 7, 8, 9, 10, 11, 12, 13, 14, 15] (by decide) rfl
        have hFc := va_free (wc := (wMo cI cZ cJ mo_a mo)) hD hS hA [0, 1, 2, 3, 4, 5, 6, 7, 8, 9, 10, 11, 12, 13, 14, 15] rfl
        refine va_calli (va_runV (As := [.int r_35]) (rest := [.int r_29, .ref (mo_a 0)]) ⟨hx, hb, hml, hown, hts⟩ (k_Model_chanceOf l dC dI cI cZ cJ mo_a H.size hf1) (cwV 1 hts (gV t_1024 t_1026 t_42 t_63 t_1027) rfl rfl rfl hd_Model_chanceOf ⟨Nat.le_trans (Nat.le_of_ble_eq_true rfl) hRf, Nat.le_trans (Nat.le_of_ble_eq_true rfl) hRl⟩) ⟨kP_blind, va_recv hK hP (ci := 7) (q0 := 0) rfl rfl, kP_at hPc hK hDc hN⟩ rfl rfl hl.1 rfl (lv_room (Nat.le_of_ble_eq_true rfl)) d_Model_writePlane_241 hRc) hS (fun q _ h => hFc q h) hFc (fun r9 u t H1 locs ht hvm hw hB hz1 hk1 hS => ?_)
        rw [hw]
        obtain ⟨hP, hD⟩ := kQ_join (wr := ([] : va_W)) (w1 := (wMo cI cZ cJ mo_a mo)) hP hD [0, 1, 2, 3, 4, 5, 6, 7, 8, 9, 10, 11, 12, 13, 14, 15] [] rfl rfl (by decide) (by decide) ht hk1 hFc hB
        generalize H1 = H at hP hS ⊢
        have hP : va_P (dC, dI) vwCl (wMo cI cZ cJ mo_a mo) H := hP.sub [0, 1, 2, 3, 4, 5, 6, 7, 8, 9, 10, 11, 12, 13, 14, 15] rfl
        have hD : va_D A (wMo cI cZ cJ mo_a mo) := hD.sub [0, 1, 2, 3, 4, 5, 6, 7, 8, 9, 10, 11, 12, 13, 14, 15] (by decide) rfl
        obtain ⟨mo_37, hf1, hf⟩ := bd_ex hf
        try dsimp only at hf
        have hPc := hP.sub (ws' := (wMo cI cZ cJ mo_a mo)) [0, 1, 2, 3, 4, 5, 6, 7, 8, 9, 10, 11, 12, 13, 14, 15] rfl
        have hDc := hD.sub (ws' := (wMo cI cZ cJ mo_a mo)) [0, 1, 2, 3, 4, 5, 6, 7, 8, 9, 10, 11, 12, 13, 14, 15] (by decide) rfl
        have hFc := va_free (wc := (wMo cI cZ cJ mo_a mo)) hD hS hA [0, 1, 2, 3, 4, 5, 6, 7, 8, 9, 10, 11, 12, 13, 14, 15] rfl
        refine va_callv (va_runV (As := [.int r_29, .int r_36]) (rest := []) ⟨hx, hb, hml, hown, hts⟩ (k_Model_emit l dC dI cI cZ cJ mo_a H.size hf1) (cwV 2 hts (gV t_982 t_984 t_32 t_63 t_985) rfl rfl rfl hd_Model_emit ⟨Nat.le_trans (Nat.le_of_ble_eq_true rfl) hRf, Nat.le_trans (Nat.le_of_ble_eq_true rfl) hRl⟩) ⟨kP_blind, va_recv hK hP (ci := 7) (q0 := 0) rfl rfl, kP_at hPc hK hDc hN⟩ rfl rfl hl.1 rfl (lv_room (Nat.le_of_ble_eq_true rfl)) d_Model_writePlane_244 hRc) hS (fun q _ h => hFc q h) hFc (fun u t H1 locs ht hvm hw hB hz1 hk1 hS => ?_)
        obtain ⟨hP, hD⟩ := kQ_join (wr := ([] : va_W)) (w1 := (wMo cI cZ cJ mo_a mo_37)) hP hD [0, 1, 2, 3, 4, 5, 6, 7, 8, 9, 10, 11, 12, 13, 14, 15] [] rfl rfl (by decide) (by decide) ht hk1 hFc hB
        generalize H1 = H at hP hS ⊢
        have hP : va_P (dC, dI) vwCl (wMo cI cZ cJ mo_a mo_37) H := hP.sub [0, 1, 2, 3, 4, 5, 6, 7, 8, 9, 10, 11, 12, 13, 14, 15] rfl
        have hD : va_D A (wMo cI cZ cJ mo_a mo_37) := hD.sub [0, 1, 2, 3, 4, 5, 6, 7, 8, 9, 10, 11, 12, 13, 14, 15] (by decide) rfl
        refine lv_aload_n hx hb d_Model_writePlane_247 rfl (lv_at hl 1 rfl) ?_
        refine lv_iload hx hb d_Model_writePlane_248 (lv_at hl 0 rfl) ?_
        refine lv_iload hx hb d_Model_writePlane_250 (lv_at hl 6 rfl) ?_
        obtain ⟨mo_38, hf1, hf⟩ := bd_ex hf
        try dsimp only at hf
        have hPc := hP.sub (ws' := (wMo cI cZ cJ mo_a mo_37)) [0, 1, 2, 3, 4, 5, 6, 7, 8, 9, 10, 11, 12, 13, 14, 15] rfl
        have hDc := hD.sub (ws' := (wMo cI cZ cJ mo_a mo_37)) [0, 1, 2, 3, 4, 5, 6, 7, 8, 9, 10, 11, 12, 13, 14, 15] (by decide) rfl
        have hFc := va_free (wc := (wMo cI cZ cJ mo_a mo_37)) hD hS hA [0, 1, 2, 3, 4, 5, 6, 7, 8, 9, 10, 11, 12, 13, 14, 15] rfl
        refine va_callv (va_runV (As := [.int r_35, .int r_29]) (rest := []) ⟨hx, hb, hml, hown, hts⟩ (k_Model_learn l dC dI cI cZ cJ mo_a H.size hf1) (cwV 2 hts (gV t_1029 t_1031 t_43 t_63 t_1032) rfl rfl rfl hd_Model_learn ⟨Nat.le_trans (Nat.le_of_ble_eq_true rfl) hRf, Nat.le_trans (Nat.le_of_ble_eq_true rfl) hRl⟩) ⟨kP_blind, va_recv hK hP (ci := 7) (q0 := 0) rfl rfl, kP_at hPc hK hDc hN⟩ rfl rfl hl.1 rfl (lv_room (Nat.le_of_ble_eq_true rfl)) d_Model_writePlane_252 hRc) hS (fun q _ h => hFc q h) hFc (fun u t H1 locs ht hvm hw hB hz1 hk1 hS => ?_)
        obtain ⟨hP, hD⟩ := kQ_join (wr := ([] : va_W)) (w1 := (wMo cI cZ cJ mo_a mo_38)) hP hD [0, 1, 2, 3, 4, 5, 6, 7, 8, 9, 10, 11, 12, 13, 14, 15] [] rfl rfl (by decide) (by decide) ht hk1 hFc hB
        generalize H1 = H at hP hS ⊢
        have hP : va_P (dC, dI) vwCl (wMo cI cZ cJ mo_a mo_38) H := hP.sub [0, 1, 2, 3, 4, 5, 6, 7, 8, 9, 10, 11, 12, 13, 14, 15] rfl
        have hD : va_D A (wMo cI cZ cJ mo_a mo_38) := hD.sub [0, 1, 2, 3, 4, 5, 6, 7, 8, 9, 10, 11, 12, 13, 14, 15] (by decide) rfl
        obtain ⟨x4_39, ex4_39, hf⟩ := lt_ex hf
        try dsimp only at hf
        refine lv_iinc (v := x4_39) (lv' := [(4, .int x4_39), (6, .int r_35), (0, .ref (mo_a 0)), (1, .int x1), (2, .int x2), (3, .int x3), (5, .int r_29)]) hx hb d_Model_writePlane_255 hl (k := 5) rfl (by rw [ex4_39]; rfl) (by decide) rfl (fun ls hl => ?_)
        refine lv_goto (tgt := 185) hx hb d_Model_writePlane_258 (by decide) ?_
        exact ih _ _ _ mo_38 x4_39 hP hD hS (lv_sub hl [2, 3, 4, 5, 0] rfl) hf
      refine lv_if_lt (tgt := 229) hx hb d_Model_writePlane_222 (by decide) (fun c_40 => ?_) (fun c_40 => ?_)
      · rw [if_pos c_40] at hf
        refine lv_iconst (v := 0) hx hb d_Model_writePlane_229 (by decide) ?_
        exact J230_33 _ _ _ 0 hP hD hS (lv_sub hl [1, 2, 3, 4, 5, 0] rfl) hf
      · rw [if_neg c_40] at hf
        refine lv_iconst (v := 1) hx hb d_Model_writePlane_225 (by decide) ?_
        refine lv_goto (tgt := 230) hx hb d_Model_writePlane_226 (by decide) ?_
        exact J230_33 _ _ _ 1 hP hD hS (lv_sub hl [1, 2, 3, 4, 5, 0] rfl) hf
set_option maxHeartbeats 4000000 in
set_option maxRecDepth 100000 in
theorem L_Model_writePlane_120 {cells slots : Nat} {dC : Nat → ClassId} {dI : Nat → Nat → Nat} {cI cZ cJ : ClassId} {mo_a : Nat → Nat} {mo : Mo} {x2 : Int32} {x3 : Int32} {x4 : Int32} {x5 : Int32} {k159 : Int32 → Option (Mo)} {res : Mo} (C0 : cxt p c m s args R cells slots R_Model c_Model_writePlane tb 7 (dC, dI) vwCl (TYS cI cZ cJ) A 4 91)
    (hk159 : ∀ (H : Heap) (locs : List Loc) (ls : Array Slot) (x6_44 : Int32), va_P (dC, dI) vwCl (wMo cI cZ cJ mo_a mo) H → va_D A (wMo cI cZ cJ mo_a mo) → va_S A s.heap H locs → lv_has ls 7 [(0, .ref (mo_a 0)), (2, .int x2), (3, .int x3), (4, .int x4), (5, .int x5), (6, .int x6_44)] → k159 x6_44 = some res → W p l e R s m args below meth c H locs cells slots Q (F0 m 159 ls [])) :
    ∀ (n : Nat) (H : Heap) (locs : List Loc) (ls : Array Slot) (x6 : Int32), va_P (dC, dI) vwCl (wMo cI cZ cJ mo_a mo) H → va_D A (wMo cI cZ cJ mo_a mo) → va_S A s.heap H locs → lv_has ls 7 [(0, .ref (mo_a 0)), (2, .int x2), (3, .int x3), (4, .int x4), (5, .int x5), (6, .int x6)] → l_Model_writePlane_120 mo x2 x3 x4 x5 k159 n x6 = some res → W p l e R s m args below meth c H locs cells slots Q (F0 m 120 ls []) := by
  obtain ⟨hx, hb, hml, hown, hts, hK, hA, hRf, hRl, hN, hRc⟩ := id C0
  intro n
  induction n with
  | zero =>
    intro H locs ls x6 hP hD hS hl hf
    exact absurd hf (by simp [l_Model_writePlane_120])
  | succ n ih =>
    intro H locs ls x6 hP hD hS hl hf
    rw [l_Model_writePlane_120] at hf
    refine lv_iload hx hb d_Model_writePlane_120 (lv_at hl 4 rfl) ?_
    refine lv_iload hx hb d_Model_writePlane_122 (lv_at hl 5 rfl) ?_
    refine lv_iadd hx hb d_Model_writePlane_124 ?_
    refine lv_iload_n hx hb d_Model_writePlane_125 rfl (lv_at hl 2 rfl) ?_
    refine lv_icmp_ge (tgt := 159) hx hb d_Model_writePlane_126 (by decide) (fun c_45 => ?_) (fun c_45 => ?_)
    · rw [if_pos c_45] at hf
      exact hk159 _ _ _ x6 hP hD hS (lv_sub hl [0, 1, 2, 3, 4, 5] rfl) hf
    · rw [if_neg c_45] at hf
      refine lv_aload_n hx hb d_Model_writePlane_129 rfl (lv_at hl 0 rfl) ?_
      refine lv_iload hx hb d_Model_writePlane_130 (lv_at hl 4 rfl) ?_
      refine lv_iload hx hb d_Model_writePlane_132 (lv_at hl 5 rfl) ?_
      refine lv_iadd hx hb d_Model_writePlane_134 ?_
      refine lv_iload_n hx hb d_Model_writePlane_135 rfl (lv_at hl 1 rfl) ?_
      obtain ⟨h_46, hf⟩ := gd_ex hf
      refine lv_irem hx hb d_Model_writePlane_136 (of_decide_eq_true h_46) ?_
      refine lv_iload hx hb d_Model_writePlane_137 (lv_at hl 4 rfl) ?_
      refine lv_iload hx hb d_Model_writePlane_139 (lv_at hl 5 rfl) ?_
      refine lv_iadd hx hb d_Model_writePlane_141 ?_
      refine lv_iload_n hx hb d_Model_writePlane_142 rfl (lv_at hl 1 rfl) ?_
      obtain ⟨h_47, hf⟩ := gd_ex hf
      refine lv_idiv hx hb d_Model_writePlane_143 (of_decide_eq_true h_47) ?_
      refine lv_iload_n hx hb d_Model_writePlane_144 rfl (lv_at hl 1 rfl) ?_
      obtain ⟨r_48, hf1, hf⟩ := bd_ex hf
      try dsimp only at hf
      have hPc := hP.sub (ws' := (wMo cI cZ cJ mo_a mo)) [0, 1, 2, 3, 4, 5, 6, 7, 8, 9, 10, 11, 12, 13, 14, 15] rfl
      have hDc := hD.sub (ws' := (wMo cI cZ cJ mo_a mo)) [0, 1, 2, 3, 4, 5, 6, 7, 8, 9, 10, 11, 12, 13, 14, 15] (by decide) rfl
      have hFc := va_free (wc := (wMo cI cZ cJ mo_a mo)) hD hS hA [0, 1, 2, 3, 4, 5, 6, 7, 8, 9, 10, 11, 12, 13, 14, 15] rfl
      refine va_calli (va_runV (As := [.int ((x5 + x6) - (x5 + x6) / x2 * x2), .int ((x5 + x6) / x2), .int x2]) (rest := []) ⟨hx, hb, hml, hown, hts⟩ (k_Model_planeAt l dC dI cI cZ cJ mo_a H.size hf1) (cwV 3 hts (gV t_1016 t_1018 t_40 t_63 t_1019) rfl rfl rfl hd_Model_planeAt ⟨Nat.le_trans (Nat.le_of_ble_eq_true rfl) hRf, Nat.le_trans (Nat.le_of_ble_eq_true rfl) hRl⟩) ⟨kP_blind, va_recv hK hP (ci := 7) (q0 := 0) rfl rfl, kP_at hPc hK hDc hN⟩ rfl rfl hl.1 rfl (lv_room (Nat.le_of_ble_eq_true rfl)) d_Model_writePlane_145 hRc) hS (fun q _ h => hFc q h) hFc (fun r9 u t H1 locs ht hvm hw hB hz1 hk1 hS => ?_)
      rw [hw]
      obtain ⟨hP, hD⟩ := kQ_join (wr := ([] : va_W)) (w1 := (wMo cI cZ cJ mo_a mo)) hP hD [0, 1, 2, 3, 4, 5, 6, 7, 8, 9, 10, 11, 12, 13, 14, 15] [] rfl rfl (by decide) (by decide) ht hk1 hFc hB
      generalize H1 = H at hP hS ⊢
      have hP : va_P (dC, dI) vwCl (wMo cI cZ cJ mo_a mo) H := hP.sub [0, 1, 2, 3, 4, 5, 6, 7, 8, 9, 10, 11, 12, 13, 14, 15] rfl
      have hD : va_D A (wMo cI cZ cJ mo_a mo) := hD.sub [0, 1, 2, 3, 4, 5, 6, 7, 8, 9, 10, 11, 12, 13, 14, 15] (by decide) rfl
      refine lv_iload hx hb d_Model_writePlane_148 (lv_at hl 3 rfl) ?_
      refine lv_icmp_ne (tgt := 159) hx hb d_Model_writePlane_150 (by decide) (fun c_49 => ?_) (fun c_49 => ?_)
      · rw [if_neg c_49] at hf
        exact hk159 _ _ _ x6 hP hD hS (lv_sub hl [0, 1, 2, 3, 4, 5] rfl) hf
      · rw [if_pos c_49] at hf
        obtain ⟨x6_50, ex6_50, hf⟩ := lt_ex hf
        try dsimp only at hf
        refine lv_iinc (v := x6_50) (lv' := [(6, .int x6_50), (0, .ref (mo_a 0)), (2, .int x2), (3, .int x3), (4, .int x4), (5, .int x5)]) hx hb d_Model_writePlane_153 hl (k := 5) rfl (by rw [ex6_50]; rfl) (by decide) rfl (fun ls hl => ?_)
        refine lv_goto (tgt := 120) hx hb d_Model_writePlane_156 (by decide) ?_
        exact ih _ _ _ x6_50 hP hD hS (lv_sub hl [1, 2, 3, 4, 5, 0] rfl) hf
set_option maxHeartbeats 4000000 in
set_option maxRecDepth 100000 in
theorem L_Model_writePlane_111 {cells slots : Nat} {dC : Nat → ClassId} {dI : Nat → Nat → Nat} {cI cZ cJ : ClassId} {mo_a : Nat → Nat} {x2 : Int32} {x3 : Int32} {k181 : Mo → Option (Mo)} {res : Mo} (C0 : cxt p c m s args R cells slots R_Model c_Model_writePlane tb 7 (dC, dI) vwCl (TYS cI cZ cJ) A 4 91)
    (hk181 : ∀ (H : Heap) (locs : List Loc) (ls : Array Slot) (mo_42 : Mo), va_P (dC, dI) vwCl (wMo cI cZ cJ mo_a mo_42) H → va_D A (wMo cI cZ cJ mo_a mo_42) → va_S A s.heap H locs → lv_has ls 7 [] → k181 mo_42 = some res → W p l e R s m args below meth c H locs cells slots Q (F0 m 181 ls [])) :
    ∀ (n : Nat) (H : Heap) (locs : List Loc) (ls : Array Slot) (mo : Mo) (x4 : Int32) (x5 : Int32), va_P (dC, dI) vwCl (wMo cI cZ cJ mo_a mo) H → va_D A (wMo cI cZ cJ mo_a mo) → va_S A s.heap H locs → lv_has ls 7 [(0, .ref (mo_a 0)), (2, .int x2), (3, .int x3), (4, .int x4), (5, .int x5)] → l_Model_writePlane_111 x2 x3 k181 n mo x4 x5 = some res → W p l e R s m args below meth c H locs cells slots Q (F0 m 111 ls []) := by
  obtain ⟨hx, hb, hml, hown, hts, hK, hA, hRf, hRl, hN, hRc⟩ := id C0
  intro n
  induction n with
  | zero =>
    intro H locs ls mo x4 x5 hP hD hS hl hf
    exact absurd hf (by simp [l_Model_writePlane_111])
  | succ n ih =>
    intro H locs ls mo x4 x5 hP hD hS hl hf
    rw [l_Model_writePlane_111] at hf
    refine lv_iload hx hb d_Model_writePlane_111 (lv_at hl 4 rfl) ?_
    refine lv_iload_n hx hb d_Model_writePlane_113 rfl (lv_at hl 2 rfl) ?_
    refine lv_icmp_ge (tgt := 181) hx hb d_Model_writePlane_114 (by decide) (fun c_43 => ?_) (fun c_43 => ?_)
    · rw [if_pos c_43] at hf
      exact hk181 _ _ _ mo hP hD hS (lv_sub hl [] rfl) hf
    · rw [if_neg c_43] at hf
      refine lv_iconst (v := 0) hx hb d_Model_writePlane_117 (by decide) ?_
      refine lv_istore (lv' := [(6, .int 0), (0, .ref (mo_a 0)), (2, .int x2), (3, .int x3), (4, .int x4), (5, .int x5)]) hx hb d_Model_writePlane_118 hl (by decide) rfl (fun ls hl => ?_)
      refine L_Model_writePlane_120 C0 (fun H locs ls x6_51 hP hD hS hl hf => ?_) 100000 _ _ _ 0 hP hD hS (lv_sub hl [1, 2, 3, 4, 5, 0] rfl) hf
      try dsimp only at hf
      refine lv_aload_n hx hb d_Model_writePlane_159 rfl (lv_at hl 0 rfl) ?_
      refine lv_iload hx hb d_Model_writePlane_160 (lv_at hl 5 rfl) ?_
      obtain ⟨mo_52, hf1, hf⟩ := bd_ex hf
      try dsimp only at hf
      have hPc := hP.sub (ws' := (wMo cI cZ cJ mo_a mo)) [0, 1, 2, 3, 4, 5, 6, 7, 8, 9, 10, 11, 12, 13, 14, 15] rfl
      have hDc := hD.sub (ws' := (wMo cI cZ cJ mo_a mo)) [0, 1, 2, 3, 4, 5, 6, 7, 8, 9, 10, 11, 12, 13, 14, 15] (by decide) rfl
      have hFc := va_free (wc := (wMo cI cZ cJ mo_a mo)) hD hS hA [0, 1, 2, 3, 4, 5, 6, 7, 8, 9, 10, 11, 12, 13, 14, 15] rfl
      refine va_callv (va_runV (As := [.int x6_51]) (rest := []) ⟨hx, hb, hml, hown, hts⟩ (k_Model_emitNumber l dC dI cI cZ cJ mo_a H.size hf1) (cwV 1 hts (gV t_974 t_976 t_30 t_63 t_977) rfl rfl rfl hd_Model_emitNumber ⟨Nat.le_trans (Nat.le_of_ble_eq_true rfl) hRf, Nat.le_trans (Nat.le_of_ble_eq_true rfl) hRl⟩) ⟨kP_blind, va_recv hK hP (ci := 7) (q0 := 0) rfl rfl, kP_at hPc hK hDc hN⟩ rfl rfl hl.1 rfl (lv_room (Nat.le_of_ble_eq_true rfl)) d_Model_writePlane_162 hRc) hS (fun q _ h => hFc q h) hFc (fun u t H1 locs ht hvm hw hB hz1 hk1 hS => ?_)
      obtain ⟨hP, hD⟩ := kQ_join (wr := ([] : va_W)) (w1 := (wMo cI cZ cJ mo_a mo_52)) hP hD [0, 1, 2, 3, 4, 5, 6, 7, 8, 9, 10, 11, 12, 13, 14, 15] [] rfl rfl (by decide) (by decide) ht hk1 hFc hB
      generalize H1 = H at hP hS ⊢
      have hP : va_P (dC, dI) vwCl (wMo cI cZ cJ mo_a mo_52) H := hP.sub [0, 1, 2, 3, 4, 5, 6, 7, 8, 9, 10, 11, 12, 13, 14, 15] rfl
      have hD : va_D A (wMo cI cZ cJ mo_a mo_52) := hD.sub [0, 1, 2, 3, 4, 5, 6, 7, 8, 9, 10, 11, 12, 13, 14, 15] (by decide) rfl
      refine lv_iload hx hb d_Model_writePlane_165 (lv_at hl 4 rfl) ?_
      refine lv_iload hx hb d_Model_writePlane_167 (lv_at hl 5 rfl) ?_
      refine lv_iadd hx hb d_Model_writePlane_169 ?_
      obtain ⟨x5_53, ex5_53, hf⟩ := lt_ex hf
      try dsimp only at hf
      refine tp_i ex5_53 ?_
      refine lv_istore (lv' := [(5, .int x5_53), (0, .ref (mo_a 0)), (2, .int x2), (3, .int x3), (4, .int x4), (6, .int x6_51)]) hx hb d_Model_writePlane_170 hl (by decide) rfl (fun ls hl => ?_)
      refine lv_iconst (v := 1) hx hb d_Model_writePlane_172 (by decide) ?_
      refine lv_iload hx hb d_Model_writePlane_173 (lv_at hl 4 rfl) ?_
      refine lv_isub hx hb d_Model_writePlane_175 ?_
      obtain ⟨x4_54, ex4_54, hf⟩ := lt_ex hf
      try dsimp only at hf
      refine tp_i ex4_54 ?_
      refine lv_istore (lv' := [(4, .int x4_54), (5, .int x5_53), (0, .ref (mo_a 0)), (2, .int x2), (3, .int x3), (6, .int x6_51)]) hx hb d_Model_writePlane_176 hl (by decide) rfl (fun ls hl => ?_)
      refine lv_goto (tgt := 111) hx hb d_Model_writePlane_178 (by decide) ?_
      exact ih _ _ _ mo_52 x4_54 x5_53 hP hD hS (lv_sub hl [2, 3, 4, 0, 1] rfl) hf
set_option maxHeartbeats 4000000 in
set_option maxRecDepth 100000 in
theorem B_Model_writePlane {cells slots : Nat} {dC : Nat → ClassId} {dI : Nat → Nat → Nat} {cI cZ cJ : ClassId} {mo_a : Nat → Nat} {mo : Mo} {x1 : Int32} {res : Mo} (C0 : cxt p c m s args R cells slots R_Model c_Model_writePlane tb 7 (dC, dI) vwCl (TYS cI cZ cJ) A 4 91)
    (hr181 : ∀ (H : Heap) (locs : List Loc) (ls : Array Slot) (mo' : Mo), va_P (dC, dI) vwCl (wMo cI cZ cJ mo_a mo') H → va_D A (wMo cI cZ cJ mo_a mo') → va_S A s.heap H locs → some mo' = some res → W p l e R s m args below meth c H locs cells slots Q (F0 m 181 ls []))
    (hr261 : ∀ (H : Heap) (locs : List Loc) (ls : Array Slot) (mo' : Mo), va_P (dC, dI) vwCl (wMo cI cZ cJ mo_a mo') H → va_D A (wMo cI cZ cJ mo_a mo') → va_S A s.heap H locs → some mo' = some res → W p l e R s m args below meth c H locs cells slots Q (F0 m 261 ls []))
    {H : Heap} {locs : List Loc} {ls : Array Slot} (hP : va_P (dC, dI) vwCl (wMo cI cZ cJ mo_a mo) H) (hD : va_D A (wMo cI cZ cJ mo_a mo)) (hS : va_S A s.heap H locs) (hl : lv_has ls 7 [(0, .ref (mo_a 0)), (1, .int x1)]) (hf : f_Model_writePlane mo x1 = some res) : W p l e R s m args below meth c H locs cells slots Q (F0 m 0 ls []) := by
  obtain ⟨hx, hb, hml, hown, hts, hK, hA, hRf, hRl, hN, hRc⟩ := id C0
  rw [f_Model_writePlane] at hf
  refine lv_aload_n hx hb d_Model_writePlane_0 rfl (lv_at hl 0 rfl) ?_
  refine va_get (D := (dC, dI)) (ci := 7) (v := .ref (mo_a 1)) (C := R_Model) (T := T_Model) (N := 27) hx hb hts in_Model hown hK hP 0 rfl rfl 3 (by decide) (hts _ t_827) (fun _ h9 => h9) rfl d_Model_writePlane_1 ?_
  refine lv_iload_n hx hb d_Model_writePlane_4 rfl (lv_at hl 1 rfl) ?_
  obtain ⟨h_1, hf⟩ := gd_ex hf
  refine va_iald (f := Mo_wd mo) hx hb hK hP 1 0 rfl rfl (inb_in h_1) d_Model_writePlane_5 ?_
  obtain ⟨x2_2, ex2_2, hf⟩ := lt_ex hf
  try dsimp only at hf
  refine tp_i ex2_2 ?_
  refine lv_istore_n (lv' := [(2, .int x2_2), (0, .ref (mo_a 0)), (1, .int x1)]) hx hb d_Model_writePlane_6 rfl hl (by decide) rfl (fun ls hl => ?_)
  refine lv_iload_n hx hb d_Model_writePlane_7 rfl (lv_at hl 0 rfl) ?_
  refine lv_aload_n hx hb d_Model_writePlane_8 rfl (lv_at hl 1 rfl) ?_
  refine va_get (D := (dC, dI)) (ci := 7) (v := .ref (mo_a 2)) (C := R_Model) (T := T_Model) (N := 27) hx hb hts in_Model hown hK hP 0 rfl rfl 4 (by decide) (hts _ t_828) (fun _ h9 => h9) rfl d_Model_writePlane_9 ?_
  refine lv_iload_n hx hb d_Model_writePlane_12 rfl (lv_at hl 2 rfl) ?_
  obtain ⟨h_3, hf⟩ := gd_ex hf
  refine va_iald (f := Mo_ht mo) hx hb hK hP 2 0 rfl rfl (inb_in h_3) d_Model_writePlane_13 ?_
  refine lv_imul hx hb d_Model_writePlane_14 ?_
  obtain ⟨x3_4, ex3_4, hf⟩ := lt_ex hf
  try dsimp only at hf
  refine tp_i ex3_4 ?_
  refine lv_istore_n (lv' := [(3, .int x3_4), (2, .int x2_2), (0, .ref (mo_a 0)), (1, .int x1)]) hx hb d_Model_writePlane_15 rfl hl (by decide) rfl (fun ls hl => ?_)
  refine lv_iconst (v := 0) hx hb d_Model_writePlane_16 (by decide) ?_
  refine lv_istore (lv' := [(4, .int 0), (3, .int x3_4), (2, .int x2_2), (0, .ref (mo_a 0)), (1, .int x1)]) hx hb d_Model_writePlane_17 hl (by decide) rfl (fun ls hl => ?_)
  refine L_Model_writePlane_19 C0 (fun H locs ls mo_23 hP hD hS hl hf => ?_) 100000 _ _ _ mo 0 hP hD hS (lv_sub hl [3, 4, 2, 1, 0] rfl) hf
  try dsimp only at hf
  refine lv_aload_n hx hb d_Model_writePlane_97 rfl (lv_at hl 0 rfl) ?_
  refine va_get (D := (dC, dI)) (ci := 7) (v := .int (Mo_kind mo_23)) (C := R_Model) (T := T_Model) (N := 27) hx hb hts in_Model hown hK hP 0 rfl rfl 1 (by decide) (hts _ t_825) (fun _ h9 => h9) rfl d_Model_writePlane_98 ?_
  refine lv_iconst (v := 1) hx hb d_Model_writePlane_101 (by decide) ?_
  refine lv_icmp_ne (tgt := 182) hx hb d_Model_writePlane_102 (by decide) (fun c_24 => ?_) (fun c_24 => ?_)
  · rw [if_neg c_24] at hf
    refine lv_iconst (v := 0) hx hb d_Model_writePlane_182 (by decide) ?_
    refine lv_istore (lv' := [(4, .int 0), (0, .ref (mo_a 0)), (1, .int x1), (2, .int x2_2), (3, .int x3_4)]) hx hb d_Model_writePlane_183 hl (by decide) rfl (fun ls hl => ?_)
    refine L_Model_writePlane_185 C0 (fun H locs ls mo_41 hP hD hS hl hf => ?_) 100000 _ _ _ mo_23 0 hP hD hS (lv_sub hl [1, 2, 3, 4, 0] rfl) hf
    try dsimp only at hf
    exact hr261 _ _ _ mo_41 hP hD hS hf
  · rw [if_pos c_24] at hf
    refine lv_iconst (v := 0) hx hb d_Model_writePlane_105 (by decide) ?_
    refine lv_istore (lv' := [(4, .int 0), (0, .ref (mo_a 0)), (1, .int x1), (2, .int x2_2), (3, .int x3_4)]) hx hb d_Model_writePlane_106 hl (by decide) rfl (fun ls hl => ?_)
    refine lv_iconst (v := 0) hx hb d_Model_writePlane_108 (by decide) ?_
    refine lv_istore (lv' := [(5, .int 0), (4, .int 0), (0, .ref (mo_a 0)), (1, .int x1), (2, .int x2_2), (3, .int x3_4)]) hx hb d_Model_writePlane_109 hl (by decide) rfl (fun ls hl => ?_)
    refine L_Model_writePlane_111 C0 (fun H locs ls mo_55 hP hD hS hl hf => ?_) 100000 _ _ _ mo_23 0 0 hP hD hS (lv_sub hl [2, 4, 5, 1, 0] rfl) hf
    try dsimp only at hf
    exact hr181 _ _ _ mo_55 hP hD hS hf
end
set_option maxHeartbeats 4000000 in
set_option maxRecDepth 100000 in
theorem k_Model_writePlane (l : Launch) (dC : Nat → ClassId) (dI : Nat → Nat → Nat) (cI cZ cJ : ClassId) (mo_a : Nat → Nat) (sz : Nat) {mo : Mo} {x1 : Int32} {mo' : Mo} (hf : f_Model_writePlane mo x1 = some mo') :
    Met l y_Model_writePlane ws_Model_writePlane ({ frames := 4, cells := 0, slots := 0, locals := 91 }) (va_Pc [.ref (mo_a 0), .int x1] (kP (dC, dI) vwCl (TYS cI cZ cJ) (wMo cI cZ cJ mo_a mo) sz)) (va_Qv (fun (_ : Unit) => True) (fun _ t => kQ (dC, dI) vwCl (TYS cI cZ cJ) (wMo cI cZ cJ mo_a mo) sz (wMo cI cZ cJ mo_a mo') t) (va_A (wMo cI cZ cJ mo_a mo) sz)) 0 0 (va_A (wMo cI cZ cJ mo_a mo) sz) := by
  refine Met.ofW (cc := c_Model_writePlane) (maxL := 7) (ret := none) (by decide) rfl ?_
  intro p e s m args below meth c s₁ B hml hv
  obtain ⟨rfl, hsz, hP, hK, hD0, hN⟩ := hv
  have hr := B.returns
  have hlocks := B.notSynchronized
  subst hsz
  have hD := hD0.self (sz := s.heap.size)
  have hl := lv_entry ([.ref (mo_a 0), .int x1]) (n := 7) (Nat.le_of_ble_eq_true rfl)
  rw [lg_entry_eq]
  generalize (lg_sl ([.ref (mo_a 0), .int x1]) ++ List.replicate (7 - (lg_sl ([.ref (mo_a 0), .int x1])).length) Slot.unset).toArray = ls at hl ⊢
  refine B_Model_writePlane (A := va_A (wMo cI cZ cJ mo_a mo) s.heap.size) ⟨B.exec, B.bytes, hml, findClass_of_methodNamed B.named, fun w h => atoms_spec (ws := ws_Model_writePlane) B.pre w (List.mem_cons_of_mem _ h), hK, fun q h => Or.inr h, Nat.le_of_ble_eq_true rfl, Nat.le_of_ble_eq_true rfl, hN, Nat.le_of_ble_eq_true rfl, Nat.le_of_ble_eq_true rfl⟩ (fun H locs ls mo'1 hP hD hS hf => ?_) (fun H locs ls mo'1 hP hD hS hf => ?_) hP hD va_S.rf hl hf
  · cases hf
    exact W.vret B.exec B.bytes hr (fun t ht hW => ⟨⟨(), rfl, trivial, ⟨by rw [ht]; exact hP, va_K.moved hW.alike hK, hD⟩⟩, hS.F ht⟩) hS.2.2 d_Model_writePlane_181
  · cases hf
    exact W.vret B.exec B.bytes hr (fun t ht hW => ⟨⟨(), rfl, trivial, ⟨by rw [ht]; exact hP, va_K.moved hW.alike hK, hD⟩⟩, hS.F ht⟩) hS.2.2 d_Model_writePlane_261

/-! Model_readPlane -/
def l_Model_readPlane_20 (x1 : Int32) (x2 : Int32) (x3 : Int32) (x4 : Int32) (k41 : Mo → Option (Mo)) : Nat → Mo → Int32 → Option (Mo)
  | 0, _, _ => none
  | n + 1, mo, x5 => (if 16 ≤ x5 then k41 mo else gd (inb x5 16) <| lt' (Mo_s_pl mo (upd (Mo_pl mo) x5.toNatClampNeg 0)) <| fun mo_8 => lt' (x5 + 1) <| fun x5_10 => (l_Model_readPlane_20 x1 x2 x3 x4 k41 n) mo_8 x5_10)
def l_Model_readPlane_102 (x1 : Int32) (x2 : Int32) (x3 : Int32) (x4 : Int32) (x5 : Int32) (x6 : Int32) (x7 : Int32) (k137 : Mo → Option (Mo)) : Nat → Mo → Int32 → Option (Mo)
  | 0, _, _ => none
  | n + 1, mo, x8 => (if (x6 + x7) ≤ x8 then k137 mo else gd (decide (¬ x3 = 0)) <| gd (inb (x8 / x3) 16) <| gd (decide (¬ x3 = 0)) <| gd (inb (x8 / x3) 16) <| lt' (Mo_s_pl mo (upd (Mo_pl mo) (x8 / x3).toNatClampNeg ((Mo_pl mo (x8 / x3).toNatClampNeg) ||| (x5 <<< ((x8 - x8 / x3 * x3) &&& 31))))) <| fun mo_28 => lt' (x8 + 1) <| fun x8_30 => (l_Model_readPlane_102 x1 x2 x3 x4 x5 x6 x7 k137 n) mo_28 x8_30)
def j_Model_readPlane_90_20 (x1 : Int32) (x2 : Int32) (x3 : Int32) (x4 : Int32) (x5 : Int32) (x6 : Int32) (rc47 : Mo → Int32 → Int32 → Option (Mo)) (k97 : Mo → Option (Mo)) (r_17 : Int32) (mo_19 : Mo) : Option (Mo) := (if (Mo_why mo_19) < 0 then l_Model_readPlane_102 x1 x2 x3 x4 x5 x6 r_17 (fun mo_31 => lt' (x6 + r_17) <| fun x6_32 => lt' (1 - x5) <| fun x5_33 => rc47 mo_31 x5_33 x6_32) 100000 mo_19 x6 else k97 mo_19)
def l_Model_readPlane_47 (x1 : Int32) (x2 : Int32) (x3 : Int32) (x4 : Int32) (k97 : Mo → Option (Mo)) (k153 : Mo → Int32 → Option (Mo)) : Nat → Mo → Int32 → Int32 → Option (Mo)
  | 0, _, _, _ => none
  | n + 1, mo, x5, x6 => (if x4 ≤ x6 then k153 mo x6 else (if (Mo_kind mo) = 1 then bd (f_Model_takeNumber mo) <| fun (r_17, mo_18) => (if 0 ≤ (Mo_why mo_18) then j_Model_readPlane_90_20 x1 x2 x3 x4 x5 x6 (l_Model_readPlane_47 x1 x2 x3 x4 k97 k153 n) k97 r_17 mo_18 else (if r_17 ≤ (x4 - x6) then j_Model_readPlane_90_20 x1 x2 x3 x4 x5 x6 (l_Model_readPlane_47 x1 x2 x3 x4 k97 k153 n) k97 r_17 mo_18 else lt' (Mo_s_why mo_18 5) <| fun mo_36 => j_Model_readPlane_90_20 x1 x2 x3 x4 x5 x6 (l_Model_readPlane_47 x1 x2 x3 x4 k97 k153 n) k97 r_17 mo_36)) else k153 mo x6))
def j_Model_readPlane_183_46 (mo : Mo) (x3 : Int32) (x7 : Int32) (rc157 : Mo → Int32 → Option (Mo)) (z0_45 : Int32) : Option (Mo) := bd (f_Model_context mo (x7 - x7 / x3 * x3) (x7 / x3) x3 z0_45) <| fun r_47 => bd (f_Model_chanceOf mo r_47) <| fun r_48 => bd (f_Model_take mo r_48) <| fun (r_49, mo_50) => bd (f_Model_learn mo_50 r_47 r_49) <| fun mo_51 => gd (decide (¬ x3 = 0)) <| gd (inb (x7 / x3) 16) <| gd (decide (¬ x3 = 0)) <| gd (inb (x7 / x3) 16) <| lt' (Mo_s_pl mo_51 (upd (Mo_pl mo_51) (x7 / x3).toNatClampNeg ((Mo_pl mo_51 (x7 / x3).toNatClampNeg) ||| (r_49 <<< ((x7 - x7 / x3 * x3) &&& 31))))) <| fun mo_56 => lt' (x7 + 1) <| fun x7_58 => rc157 mo_56 x7_58
def l_Model_readPlane_157 (x1 : Int32) (x2 : Int32) (x3 : Int32) (x4 : Int32) (k233 : Mo → Option (Mo)) : Nat → Mo → Int32 → Option (Mo)
  | 0, _, _ => none
  | n + 1, mo, x7 => (if x4 ≤ x7 then k233 mo else gd (decide (¬ x3 = 0)) <| gd (decide (¬ x3 = 0)) <| (if x2 < 0 then j_Model_readPlane_183_46 mo x3 x7 (l_Model_readPlane_157 x1 x2 x3 x4 k233 n) 0 else j_Model_readPlane_183_46 mo x3 x7 (l_Model_readPlane_157 x1 x2 x3 x4 k233 n) 1))
def l_Model_readPlane_236 (x1 : Int32) (x2 : Int32) (x3 : Int32) (x4 : Int32) (k262 : Mo → Option (Mo)) : Nat → Mo → Int32 → Option (Mo)
  | 0, _, _ => none
  | n + 1, mo, x7 => (if 16 ≤ x7 then k262 mo else gd (inb ((16 * x1) + x7) 1280) <| lt' (Mo_s_rw mo (upd (Mo_rw mo) ((16 * x1) + x7).toNatClampNeg 0)) <| fun mo_64 => lt' (x7 + 1) <| fun x7_66 => (l_Model_readPlane_236 x1 x2 x3 x4 k262 n) mo_64 x7_66)
def l_Model_readPlane_265 (x1 : Int32) (x2 : Int32) (x3 : Int32) (x4 : Int32) (k328 : Mo → Option (Mo)) : Nat → Mo → Int32 → Option (Mo)
  | 0, _, _ => none
  | n + 1, mo, x7 => (if x4 ≤ x7 then k328 mo else gd (decide (¬ x3 = 0)) <| lt' (x7 - x7 / x3 * x3) <| fun x8_71 => gd (decide (¬ x3 = 0)) <| lt' (x7 / x3) <| fun x9_73 => gd (inb ((16 * x1) + x9_73) 1280) <| bd (f_Model_planeAt mo x8_71 x9_73 x3) <| fun r_75 => bd (f_Model_under mo x1 x2 x8_71 x9_73) <| fun r_76 => gd (inb ((16 * x1) + x9_73) 1280) <| lt' (Mo_s_rw mo (upd (Mo_rw mo) ((16 * x1) + x9_73).toNatClampNeg ((Mo_rw mo ((16 * x1) + x9_73).toNatClampNeg) ||| ((r_75 ^^^ r_76) <<< (x8_71 &&& 31))))) <| fun mo_78 => lt' (x7 + 1) <| fun x7_80 => (l_Model_readPlane_265 x1 x2 x3 x4 k328 n) mo_78 x7_80)
def f_Model_readPlane (mo : Mo) (x1 : Int32) (x2 : Int32) : Option (Mo) := gd (inb x1 80) <| lt' (Mo_wd mo x1.toNatClampNeg) <| fun x3_2 => gd (inb x1 80) <| lt' (x3_2 * (Mo_ht mo x1.toNatClampNeg)) <| fun x4_4 => l_Model_readPlane_20 x1 x2 x3_2 x4_4 (fun mo_11 => l_Model_readPlane_47 x1 x2 x3_2 x4_4 (fun mo_38 => some mo_38) (fun mo_39 x6_40 => l_Model_readPlane_157 x1 x2 x3_2 x4_4 (fun mo_60 => l_Model_readPlane_236 x1 x2 x3_2 x4_4 (fun mo_67 => l_Model_readPlane_265 x1 x2 x3_2 x4_4 (fun mo_81 => some mo_81) 100000 mo_67 0) 100000 mo_60 0) 100000 mo_39 x6_40) 100000 mo_11 0 0) 100000 mo 0
section
variable {p : Program} {l : Launch} {e : Env} {R : Room} {s : State} {m : MethodId} {args : Array Value} {below : List Frame} {meth : Method} {c : Code} {Q : State → Prop} {A : Nat → Prop}
set_option maxHeartbeats 4000000 in
set_option maxRecDepth 100000 in
theorem L_Model_readPlane_20 {cells slots : Nat} {dC : Nat → ClassId} {dI : Nat → Nat → Nat} {cI cZ cJ : ClassId} {mo_a : Nat → Nat} {x1 : Int32} {x2 : Int32} {x3 : Int32} {x4 : Int32} {k41 : Mo → Option (Mo)} {res : Mo} (C0 : cxt p c m s args R cells slots R_Model c_Model_readPlane tb 10 (dC, dI) vwCl (TYS cI cZ cJ) A 4 89)
    (hk41 : ∀ (H : Heap) (locs : List Loc) (ls : Array Slot) (mo_5 : Mo), va_P (dC, dI) vwCl (wMo cI cZ cJ mo_a mo_5) H → va_D A (wMo cI cZ cJ mo_a mo_5) → va_S A s.heap H locs → lv_has ls 10 [(0, .ref (mo_a 0)), (1, .int x1), (2, .int x2), (3, .int x3), (4, .int x4)] → k41 mo_5 = some res → W p l e R s m args below meth c H locs cells slots Q (F0 m 41 ls [])) :
    ∀ (n : Nat) (H : Heap) (locs : List Loc) (ls : Array Slot) (mo : Mo) (x5 : Int32), va_P (dC, dI) vwCl (wMo cI cZ cJ mo_a mo) H → va_D A (wMo cI cZ cJ mo_a mo) → va_S A s.heap H locs → lv_has ls 10 [(0, .ref (mo_a 0)), (1, .int x1), (2, .int x2), (3, .int x3), (4, .int x4), (5, .int x5)] → l_Model_readPlane_20 x1 x2 x3 x4 k41 n mo x5 = some res → W p l e R s m args below meth c H locs cells slots Q (F0 m 20 ls []) := by
  obtain ⟨hx, hb, hml, hown, hts, hK, hA, hRf, hRl, hN, hRc⟩ := id C0
  intro n
  induction n with
  | zero =>
    intro H locs ls mo x5 hP hD hS hl hf
    exact absurd hf (by simp [l_Model_readPlane_20])
  | succ n ih =>
    intro H locs ls mo x5 hP hD hS hl hf
    rw [l_Model_readPlane_20] at hf
    refine lv_iload hx hb d_Model_readPlane_20 (lv_at hl 5 rfl) ?_
    refine lv_bipush (v := 16) hx hb d_Model_readPlane_22 (by decide) ?_
    refine lv_icmp_ge (tgt := 41) hx hb d_Model_readPlane_24 (by decide) (fun c_6 => ?_) (fun c_6 => ?_)
    · rw [if_pos c_6] at hf
      exact hk41 _ _ _ mo hP hD hS (lv_sub hl [0, 1, 2, 3, 4] rfl) hf
    · rw [if_neg c_6] at hf
      refine lv_aload_n hx hb d_Model_readPlane_27 rfl (lv_at hl 0 rfl) ?_
      refine va_get (D := (dC, dI)) (ci := 7) (v := .ref (mo_a 15)) (C := R_Model) (T := T_Model) (N := 27) hx hb hts in_Model hown hK hP 0 rfl rfl 25 (by decide) (hts _ t_849) (fun _ h9 => h9) rfl d_Model_readPlane_28 ?_
      refine lv_iload hx hb d_Model_readPlane_31 (lv_at hl 5 rfl) ?_
      refine lv_iconst (v := 0) hx hb d_Model_readPlane_33 (by decide) ?_
      obtain ⟨h_7, hf⟩ := gd_ex hf
      refine va_iast (f := Mo_pl mo) hx hb hK hP hD hS 15 0 rfl rfl (inb_in h_7) d_Model_readPlane_34 (fun H locs hP hD hS => ?_)
      obtain ⟨mo_8, emo_8, hf⟩ := lt_ex hf
      try dsimp only at hf
      have hP : va_P (dC, dI) vwCl (wMo cI cZ cJ mo_a mo_8) H := by rw [emo_8]; exact hP
      have hD : va_D A (wMo cI cZ cJ mo_a mo_8) := by rw [emo_8]; exact hD
      obtain ⟨x5_10, ex5_10, hf⟩ := lt_ex hf
      try dsimp only at hf
      refine lv_iinc (v := x5_10) (lv' := [(5, .int x5_10), (0, .ref (mo_a 0)), (1, .int x1), (2, .int x2), (3, .int x3), (4, .int x4)]) hx hb d_Model_readPlane_35 hl (k := 5) rfl (by rw [ex5_10]; rfl) (by decide) rfl (fun ls hl => ?_)
      refine lv_goto (tgt := 20) hx hb d_Model_readPlane_38 (by decide) ?_
      exact ih _ _ _ mo_8 x5_10 hP hD hS (lv_sub hl [1, 2, 3, 4, 5, 0] rfl) hf
set_option maxHeartbeats 4000000 in
set_option maxRecDepth 100000 in
theorem L_Model_readPlane_102 {cells slots : Nat} {dC : Nat → ClassId} {dI : Nat → Nat → Nat} {cI cZ cJ : ClassId} {mo_a : Nat → Nat} {x1 : Int32} {x2 : Int32} {x3 : Int32} {x4 : Int32} {x5 : Int32} {x6 : Int32} {x7 : Int32} {k137 : Mo → Option (Mo)} {res : Mo} (C0 : cxt p c m s args R cells slots R_Model c_Model_readPlane tb 10 (dC, dI) vwCl (TYS cI cZ cJ) A 4 89)
    (hk137 : ∀ (H : Heap) (locs : List Loc) (ls : Array Slot) (mo_22 : Mo), va_P (dC, dI) vwCl (wMo cI cZ cJ mo_a mo_22) H → va_D A (wMo cI cZ cJ mo_a mo_22) → va_S A s.heap H locs → lv_has ls 10 [(0, .ref (mo_a 0)), (1, .int x1), (2, .int x2), (3, .int x3), (4, .int x4), (5, .int x5), (6, .int x6), (7, .int x7)] → k137 mo_22 = some res → W p l e R s m args below meth c H locs cells slots Q (F0 m 137 ls [])) :
    ∀ (n : Nat) (H : Heap) (locs : List Loc) (ls : Array Slot) (mo : Mo) (x8 : Int32), va_P (dC, dI) vwCl (wMo cI cZ cJ mo_a mo) H → va_D A (wMo cI cZ cJ mo_a mo) → va_S A s.heap H locs → lv_has ls 10 [(0, .ref (mo_a 0)), (1, .int x1), (2, .int x2), (3, .int x3), (4, .int x4), (5, .int x5), (6, .int x6), (7, .int x7), (8, .int x8)] → l_Model_readPlane_102 x1 x2 x3 x4 x5 x6 x7 k137 n mo x8 = some res → W p l e R s m args below meth c H locs cells slots Q (F0 m 102 ls []) := by
  obtain ⟨hx, hb, hml, hown, hts, hK, hA, hRf, hRl, hN, hRc⟩ := id C0
  intro n
  induction n with
  | zero =>
    intro H locs ls mo x8 hP hD hS hl hf
    exact absurd hf (by simp [l_Model_readPlane_102])
  | succ n ih =>
    intro H locs ls mo x8 hP hD hS hl hf
    rw [l_Model_readPlane_102] at hf
    refine lv_iload hx hb d_Model_readPlane_102 (lv_at hl 8 rfl) ?_
    refine lv_iload hx hb d_Model_readPlane_104 (lv_at hl 6 rfl) ?_
    refine lv_iload hx hb d_Model_readPlane_106 (lv_at hl 7 rfl) ?_
    refine lv_iadd hx hb d_Model_readPlane_108 ?_
    refine lv_icmp_ge (tgt := 137) hx hb d_Model_readPlane_109 (by decide) (fun c_23 => ?_) (fun c_23 => ?_)
    · rw [if_pos c_23] at hf
      exact hk137 _ _ _ mo hP hD hS (lv_sub hl [0, 1, 2, 3, 4, 5, 6, 7] rfl) hf
    · rw [if_neg c_23] at hf
      refine lv_aload_n hx hb d_Model_readPlane_112 rfl (lv_at hl 0 rfl) ?_
      refine va_get (D := (dC, dI)) (ci := 7) (v := .ref (mo_a 15)) (C := R_Model) (T := T_Model) (N := 27) hx hb hts in_Model hown hK hP 0 rfl rfl 25 (by decide) (hts _ t_849) (fun _ h9 => h9) rfl d_Model_readPlane_113 ?_
      refine lv_iload hx hb d_Model_readPlane_116 (lv_at hl 8 rfl) ?_
      refine lv_iload_n hx hb d_Model_readPlane_118 rfl (lv_at hl 3 rfl) ?_
      obtain ⟨h_24, hf⟩ := gd_ex hf
      refine lv_idiv hx hb d_Model_readPlane_119 (of_decide_eq_true h_24) ?_
      refine lv_dup2_11 hx hb d_Model_readPlane_120 rfl rfl ?_
      obtain ⟨h_25, hf⟩ := gd_ex hf
      refine va_iald (f := Mo_pl mo) hx hb hK hP 15 0 rfl rfl (inb_in h_25) d_Model_readPlane_121 ?_
      refine lv_iload hx hb d_Model_readPlane_122 (lv_at hl 5 rfl) ?_
      refine lv_iload hx hb d_Model_readPlane_124 (lv_at hl 8 rfl) ?_
      refine lv_iload_n hx hb d_Model_readPlane_126 rfl (lv_at hl 3 rfl) ?_
      obtain ⟨h_26, hf⟩ := gd_ex hf
      refine lv_irem hx hb d_Model_readPlane_127 (of_decide_eq_true h_26) ?_
      refine lv_ishl hx hb d_Model_readPlane_128 ?_
      refine lv_ior hx hb d_Model_readPlane_129 ?_
      obtain ⟨h_27, hf⟩ := gd_ex hf
      refine va_iast (f := Mo_pl mo) hx hb hK hP hD hS 15 0 rfl rfl (inb_in h_27) d_Model_readPlane_130 (fun H locs hP hD hS => ?_)
      obtain ⟨mo_28, emo_28, hf⟩ := lt_ex hf
      try dsimp only at hf
      have hP : va_P (dC, dI) vwCl (wMo cI cZ cJ mo_a mo_28) H := by rw [emo_28]; exact hP
      have hD : va_D A (wMo cI cZ cJ mo_a mo_28) := by rw [emo_28]; exact hD
      obtain ⟨x8_30, ex8_30, hf⟩ := lt_ex hf
      try dsimp only at hf
      refine lv_iinc (v := x8_30) (lv' := [(8, .int x8_30), (0, .ref (mo_a 0)), (1, .int x1), (2, .int x2), (3, .int x3), (4, .int x4), (5, .int x5), (6, .int x6), (7, .int x7)]) hx hb d_Model_readPlane_131 hl (k := 8) rfl (by rw [ex8_30]; rfl) (by decide) rfl (fun ls hl => ?_)
      refine lv_goto (tgt := 102) hx hb d_Model_readPlane_134 (by decide) ?_
      exact ih _ _ _ mo_28 x8_30 hP hD hS (lv_sub hl [1, 2, 3, 4, 5, 6, 7, 8, 0] rfl) hf
set_option maxHeartbeats 4000000 in
set_option maxRecDepth 100000 in
theorem L_Model_readPlane_47 {cells slots : Nat} {dC : Nat → ClassId} {dI : Nat → Nat → Nat} {cI cZ cJ : ClassId} {mo_a : Nat → Nat} {x1 : Int32} {x2 : Int32} {x3 : Int32} {x4 : Int32} {k97 : Mo → Option (Mo)} {k153 : Mo → Int32 → Option (Mo)} {res : Mo} (C0 : cxt p c m s args R cells slots R_Model c_Model_readPlane tb 10 (dC, dI) vwCl (TYS cI cZ cJ) A 4 89)
    (hk97 : ∀ (H : Heap) (locs : List Loc) (ls : Array Slot) (mo_12 : Mo), va_P (dC, dI) vwCl (wMo cI cZ cJ mo_a mo_12) H → va_D A (wMo cI cZ cJ mo_a mo_12) → va_S A s.heap H locs → lv_has ls 10 [] → k97 mo_12 = some res → W p l e R s m args below meth c H locs cells slots Q (F0 m 97 ls []))
    (hk153 : ∀ (H : Heap) (locs : List Loc) (ls : Array Slot) (mo_13 : Mo) (x6_14 : Int32), va_P (dC, dI) vwCl (wMo cI cZ cJ mo_a mo_13) H → va_D A (wMo cI cZ cJ mo_a mo_13) → va_S A s.heap H locs → lv_has ls 10 [(0, .ref (mo_a 0)), (1, .int x1), (2, .int x2), (3, .int x3), (4, .int x4), (6, .int x6_14)] → k153 mo_13 x6_14 = some res → W p l e R s m args below meth c H locs cells slots Q (F0 m 153 ls [])) :
    ∀ (n : Nat) (H : Heap) (locs : List Loc) (ls : Array Slot) (mo : Mo) (x5 : Int32) (x6 : Int32), va_P (dC, dI) vwCl (wMo cI cZ cJ mo_a mo) H → va_D A (wMo cI cZ cJ mo_a mo) → va_S A s.heap H locs → lv_has ls 10 [(0, .ref (mo_a 0)), (1, .int x1), (2, .int x2), (3, .int x3), (4, .int x4), (5, .int x5), (6, .int x6)] → l_Model_readPlane_47 x1 x2 x3 x4 k97 k153 n mo x5 x6 = some res → W p l e R s m args below meth c H locs cells slots Q (F0 m 47 ls []) := by
  obtain ⟨hx, hb, hml, hown, hts, hK, hA, hRf, hRl, hN, hRc⟩ := id C0
  intro n
  induction n with
  | zero =>
    intro H locs ls mo x5 x6 hP hD hS hl hf
    exact absurd hf (by simp [l_Model_readPlane_47])
  | succ n ih =>
    intro H locs ls mo x5 x6 hP hD hS hl hf
    rw [l_Model_readPlane_47] at hf
    refine lv_iload hx hb d_Model_readPlane_47 (lv_at hl 6 rfl) ?_
    refine lv_iload hx hb d_Model_readPlane_49 (lv_at hl 4 rfl) ?_
    refine lv_icmp_ge (tgt := 153) hx hb d_Model_readPlane_51 (by decide) (fun c_15 => ?_) (fun c_15 => ?_)
    · rw [if_pos c_15] at hf
      exact hk153 _ _ _ mo x6 hP hD hS (lv_sub hl [0, 1, 2, 3, 4, 6] rfl) hf
    · rw [if_neg c_15] at hf
      refine lv_aload_n hx hb d_Model_readPlane_54 rfl (lv_at hl 0 rfl) ?_
      refine va_get (D := (dC, dI)) (ci := 7) (v := .int (Mo_kind mo)) (C := R_Model) (T := T_Model) (N := 27) hx hb hts in_Model hown hK hP 0 rfl rfl 1 (by decide) (hts _ t_825) (fun _ h9 => h9) rfl d_Model_readPlane_55 ?_
      refine lv_iconst (v := 1) hx hb d_Model_readPlane_58 (by decide) ?_
      refine lv_icmp_ne (tgt := 153) hx hb d_Model_readPlane_59 (by decide) (fun c_16 => ?_) (fun c_16 => ?_)
      · rw [if_neg c_16] at hf
        exact hk153 _ _ _ mo x6 hP hD hS (lv_sub hl [0, 1, 2, 3, 4, 6] rfl) hf
      · rw [if_pos c_16] at hf
        refine lv_aload_n hx hb d_Model_readPlane_62 rfl (lv_at hl 0 rfl) ?_
        obtain ⟨⟨r_17, mo_18⟩, hf1, hf⟩ := bd_ex hf
        try dsimp only at hf
        have hPc := hP.sub (ws' := (wMo cI cZ cJ mo_a mo)) [0, 1, 2, 3, 4, 5, 6, 7, 8, 9, 10, 11, 12, 13, 14, 15] rfl
        have hDc := hD.sub (ws' := (wMo cI cZ cJ mo_a mo)) [0, 1, 2, 3, 4, 5, 6, 7, 8, 9, 10, 11, 12, 13, 14, 15] (by decide) rfl
        have hFc := va_free (wc := (wMo cI cZ cJ mo_a mo)) hD hS hA [0, 1, 2, 3, 4, 5, 6, 7, 8, 9, 10, 11, 12, 13, 14, 15] rfl
        refine va_calli (va_runV (As := []) (rest := []) ⟨hx, hb, hml, hown, hts⟩ (k_Model_takeNumber l dC dI cI cZ cJ mo_a H.size hf1) (cwV 0 hts (gV t_1055 t_1057 t_45 t_63 t_1058) rfl rfl rfl hd_Model_takeNumber ⟨Nat.le_trans (Nat.le_of_ble_eq_true rfl) hRf, Nat.le_trans (Nat.le_of_ble_eq_true rfl) hRl⟩) ⟨kP_blind, va_recv hK hP (ci := 7) (q0 := 0) rfl rfl, kP_at hPc hK hDc hN⟩ rfl rfl hl.1 rfl (lv_room (Nat.le_of_ble_eq_true rfl)) d_Model_readPlane_63 hRc) hS (fun q _ h => hFc q h) hFc (fun r9 u t H1 locs ht hvm hw hB hz1 hk1 hS => ?_)
        rw [hw]
        obtain ⟨hP, hD⟩ := kQ_join (wr := ([] : va_W)) (w1 := (wMo cI cZ cJ mo_a mo_18)) hP hD [0, 1, 2, 3, 4, 5, 6, 7, 8, 9, 10, 11, 12, 13, 14, 15] [] rfl rfl (by decide) (by decide) ht hk1 hFc hB
        generalize H1 = H at hP hS ⊢
        have hP : va_P (dC, dI) vwCl (wMo cI cZ cJ mo_a mo_18) H := hP.sub [0, 1, 2, 3, 4, 5, 6, 7, 8, 9, 10, 11, 12, 13, 14, 15] rfl
        have hD : va_D A (wMo cI cZ cJ mo_a mo_18) := hD.sub [0, 1, 2, 3, 4, 5, 6, 7, 8, 9, 10, 11, 12, 13, 14, 15] (by decide) rfl
        refine lv_istore (lv' := [(7, .int r_17), (0, .ref (mo_a 0)), (1, .int x1), (2, .int x2), (3, .int x3), (4, .int x4), (5, .int x5), (6, .int x6)]) hx hb d_Model_readPlane_66 hl (by decide) rfl (fun ls hl => ?_)
        refine lv_aload_n hx hb d_Model_readPlane_68 rfl (lv_at hl 1 rfl) ?_
        refine va_get (D := (dC, dI)) (ci := 7) (v := .int (Mo_why mo_18)) (C := R_Model) (T := T_Model) (N := 27) hx hb hts in_Model hown hK hP 0 rfl rfl 26 (by decide) (hts _ t_850) (fun _ h9 => h9) rfl d_Model_readPlane_69 ?_
        have J90_19 : ∀ (H : Heap) (locs : List Loc) (ls : Array Slot) (mo_19 : Mo), va_P (dC, dI) vwCl (wMo cI cZ cJ mo_a mo_19) H → va_D A (wMo cI cZ cJ mo_a mo_19) → va_S A s.heap H locs → lv_has ls 10 [(0, .ref (mo_a 0)), (1, .int x1), (2, .int x2), (3, .int x3), (4, .int x4), (5, .int x5), (6, .int x6), (7, .int r_17)] → j_Model_readPlane_90_20 x1 x2 x3 x4 x5 x6 (l_Model_readPlane_47 x1 x2 x3 x4 k97 k153 n) k97 r_17 mo_19 = some res → W p l e R s m args below meth c H locs cells slots Q (F0 m 90 ls []) := by
          intro H locs ls mo_19 hP hD hS hl hf
          rw [j_Model_readPlane_90_20] at hf
          refine lv_aload_n hx hb d_Model_readPlane_90 rfl (lv_at hl 0 rfl) ?_
          refine va_get (D := (dC, dI)) (ci := 7) (v := .int (Mo_why mo_19)) (C := R_Model) (T := T_Model) (N := 27) hx hb hts in_Model hown hK hP 0 rfl rfl 26 (by decide) (hts _ t_850) (fun _ h9 => h9) rfl d_Model_readPlane_91 ?_
          refine lv_if_lt (tgt := 98) hx hb d_Model_readPlane_94 (by decide) (fun c_21 => ?_) (fun c_21 => ?_)
          · rw [if_pos c_21] at hf
            refine lv_iload hx hb d_Model_readPlane_98 (lv_at hl 6 rfl) ?_
            refine lv_istore (lv' := [(8, .int x6), (0, .ref (mo_a 0)), (1, .int x1), (2, .int x2), (3, .int x3), (4, .int x4), (5, .int x5), (6, .int x6), (7, .int r_17)]) hx hb d_Model_readPlane_100 hl (by decide) rfl (fun ls hl => ?_)
            refine L_Model_readPlane_102 C0 (fun H locs ls mo_31 hP hD hS hl hf => ?_) 100000 _ _ _ mo_19 x6 hP hD hS (lv_sub hl [1, 2, 3, 4, 5, 6, 7, 8, 0] rfl) hf
            try dsimp only at hf
            refine lv_iload hx hb d_Model_readPlane_137 (lv_at hl 6 rfl) ?_
            refine lv_iload hx hb d_Model_readPlane_139 (lv_at hl 7 rfl) ?_
            refine lv_iadd hx hb d_Model_readPlane_141 ?_
            obtain ⟨x6_32, ex6_32, hf⟩ := lt_ex hf
            try dsimp only at hf
            refine tp_i ex6_32 ?_
            refine lv_istore (lv' := [(6, .int x6_32), (0, .ref (mo_a 0)), (1, .int x1), (2, .int x2), (3, .int x3), (4, .int x4), (5, .int x5), (7, .int r_17)]) hx hb d_Model_readPlane_142 hl (by decide) rfl (fun ls hl => ?_)
            refine lv_iconst (v := 1) hx hb d_Model_readPlane_144 (by decide) ?_
            refine lv_iload hx hb d_Model_readPlane_145 (lv_at hl 6 rfl) ?_
            refine lv_isub hx hb d_Model_readPlane_147 ?_
            obtain ⟨x5_33, ex5_33, hf⟩ := lt_ex hf
            try dsimp only at hf
            refine tp_i ex5_33 ?_
            refine lv_istore (lv' := [(5, .int x5_33), (6, .int x6_32), (0, .ref (mo_a 0)), (1, .int x1), (2, .int x2), (3, .int x3), (4, .int x4), (7, .int r_17)]) hx hb d_Model_readPlane_148 hl (by decide) rfl (fun ls hl => ?_)
            refine lv_goto (tgt := 47) hx hb d_Model_readPlane_150 (by decide) ?_
            exact ih _ _ _ mo_31 x5_33 x6_32 hP hD hS (lv_sub hl [2, 3, 4, 5, 6, 0, 1] rfl) hf
          · rw [if_neg c_21] at hf
            exact hk97 _ _ _ mo_19 hP hD hS (lv_sub hl [] rfl) hf
        refine lv_if_ge (tgt := 90) hx hb d_Model_readPlane_72 (by decide) (fun c_34 => ?_) (fun c_34 => ?_)
        · rw [if_pos c_34] at hf
          exact J90_19 _ _ _ mo_18 hP hD hS (lv_sub hl [1, 2, 3, 4, 5, 6, 7, 0] rfl) hf
        · rw [if_neg c_34] at hf
          refine lv_iload hx hb d_Model_readPlane_75 (lv_at hl 0 rfl) ?_
          refine lv_iload hx hb d_Model_readPlane_77 (lv_at hl 5 rfl) ?_
          refine lv_iload hx hb d_Model_readPlane_79 (lv_at hl 7 rfl) ?_
          refine lv_isub hx hb d_Model_readPlane_81 ?_
          refine lv_icmp_le (tgt := 90) hx hb d_Model_readPlane_82 (by decide) (fun c_35 => ?_) (fun c_35 => ?_)
          · rw [if_pos c_35] at hf
            exact J90_19 _ _ _ mo_18 hP hD hS (lv_sub hl [1, 2, 3, 4, 5, 6, 7, 0] rfl) hf
          · rw [if_neg c_35] at hf
            refine lv_aload_n hx hb d_Model_readPlane_85 rfl (lv_at hl 1 rfl) ?_
            refine lv_iconst (v := 5) hx hb d_Model_readPlane_86 (by decide) ?_
            refine va_put (D := (dC, dI)) (ci := 7) (v := .int 5) (ty := .int) (C := R_Model) (T := T_Model) (N := 27) hx hb hts in_Model ty_Model tyok_Model nm_Model hown hK hP hD hS 0 rfl rfl 26 (by decide) (hts _ t_850) (fun _ h9 => h9) rfl (by decide +kernel) rfl rfl (Nat.le_of_ble_eq_true rfl) d_Model_readPlane_87 (fun H locs hP hD hS => ?_)
            obtain ⟨mo_36, emo_36, hf⟩ := lt_ex hf
            try dsimp only at hf
            have hP : va_P (dC, dI) vwCl (wMo cI cZ cJ mo_a mo_36) H := by rw [emo_36]; exact hP
            have hD : va_D A (wMo cI cZ cJ mo_a mo_36) := by rw [emo_36]; exact hD
            exact J90_19 _ _ _ mo_36 hP hD hS (lv_sub hl [1, 2, 3, 4, 5, 6, 7, 0] rfl) hf
set_option maxHeartbeats 4000000 in
set_option maxRecDepth 100000 in
theorem L_Model_readPlane_157 {cells slots : Nat} {dC : Nat → ClassId} {dI : Nat → Nat → Nat} {cI cZ cJ : ClassId} {mo_a : Nat → Nat} {x1 : Int32} {x2 : Int32} {x3 : Int32} {x4 : Int32} {k233 : Mo → Option (Mo)} {res : Mo} (C0 : cxt p c m s args R cells slots R_Model c_Model_readPlane tb 10 (dC, dI) vwCl (TYS cI cZ cJ) A 4 89)
    (hk233 : ∀ (H : Heap) (locs : List Loc) (ls : Array Slot) (mo_41 : Mo), va_P (dC, dI) vwCl (wMo cI cZ cJ mo_a mo_41) H → va_D A (wMo cI cZ cJ mo_a mo_41) → va_S A s.heap H locs → lv_has ls 10 [(0, .ref (mo_a 0)), (1, .int x1), (2, .int x2), (3, .int x3), (4, .int x4)] → k233 mo_41 = some res → W p l e R s m args below meth c H locs cells slots Q (F0 m 233 ls [])) :
    ∀ (n : Nat) (H : Heap) (locs : List Loc) (ls : Array Slot) (mo : Mo) (x7 : Int32), va_P (dC, dI) vwCl (wMo cI cZ cJ mo_a mo) H → va_D A (wMo cI cZ cJ mo_a mo) → va_S A s.heap H locs → lv_has ls 10 [(0, .ref (mo_a 0)), (1, .int x1), (2, .int x2), (3, .int x3), (4, .int x4), (7, .int x7)] → l_Model_readPlane_157 x1 x2 x3 x4 k233 n mo x7 = some res → W p l e R s m args below meth c H locs cells slots Q (F0 m 157 ls []) := by
  obtain ⟨hx, hb, hml, hown, hts, hK, hA, hRf, hRl, hN, hRc⟩ := id C0
  intro n
  induction n with
  | zero =>
    intro H locs ls mo x7 hP hD hS hl hf
    exact absurd hf (by simp [l_Model_readPlane_157])
  | succ n ih =>
    intro H locs ls mo x7 hP hD hS hl hf
    rw [l_Model_readPlane_157] at hf
    refine lv_iload hx hb d_Model_readPlane_157 (lv_at hl 5 rfl) ?_
    refine lv_iload hx hb d_Model_readPlane_159 (lv_at hl 4 rfl) ?_
    refine lv_icmp_ge (tgt := 233) hx hb d_Model_readPlane_161 (by decide) (fun c_42 => ?_) (fun c_42 => ?_)
    · rw [if_pos c_42] at hf
      exact hk233 _ _ _ mo hP hD hS (lv_sub hl [0, 1, 2, 3, 4] rfl) hf
    · rw [if_neg c_42] at hf
      refine lv_aload_n hx hb d_Model_readPlane_164 rfl (lv_at hl 0 rfl) ?_
      refine lv_iload hx hb d_Model_readPlane_165 (lv_at hl 5 rfl) ?_
      refine lv_iload_n hx hb d_Model_readPlane_167 rfl (lv_at hl 3 rfl) ?_
      obtain ⟨h_43, hf⟩ := gd_ex hf
      refine lv_irem hx hb d_Model_readPlane_168 (of_decide_eq_true h_43) ?_
      refine lv_iload hx hb d_Model_readPlane_169 (lv_at hl 5 rfl) ?_
      refine lv_iload_n hx hb d_Model_readPlane_171 rfl (lv_at hl 3 rfl) ?_
      obtain ⟨h_44, hf⟩ := gd_ex hf
      refine lv_idiv hx hb d_Model_readPlane_172 (of_decide_eq_true h_44) ?_
      refine lv_iload_n hx hb d_Model_readPlane_173 rfl (lv_at hl 3 rfl) ?_
      refine lv_iload_n hx hb d_Model_readPlane_174 rfl (lv_at hl 2 rfl) ?_
      have J183_45 : ∀ (H : Heap) (locs : List Loc) (ls : Array Slot) (z0_45 : Int32), va_P (dC, dI) vwCl (wMo cI cZ cJ mo_a mo) H → va_D A (wMo cI cZ cJ mo_a mo) → va_S A s.heap H locs → lv_has ls 10 [(0, .ref (mo_a 0)), (1, .int x1), (2, .int x2), (3, .int x3), (4, .int x4), (7, .int x7)] → j_Model_readPlane_183_46 mo x3 x7 (l_Model_readPlane_157 x1 x2 x3 x4 k233 n) z0_45 = some res → W p l e R s m args below meth c H locs cells slots Q (F0 m 183 ls [.int z0_45, .int x3, .int (x7 / x3), .int (x7 - x7 / x3 * x3), .ref (mo_a 0)]) := by
        intro H locs ls z0_45 hP hD hS hl hf
        rw [j_Model_readPlane_183_46] at hf
        obtain ⟨r_47, hf1, hf⟩ := bd_ex hf
        try dsimp only at hf
        have hPc := hP.sub (ws' := (wMo cI cZ cJ mo_a mo)) [0, 1, 2, 3, 4, 5, 6, 7, 8, 9, 10, 11, 12, 13, 14, 15] rfl
        have hDc := hD.sub (ws' := (wMo cI cZ cJ mo_a mo)) [0, 1, 2, 3, 4, 5, 6, 7, 8, 9, 10, 11, 12, 13, 14, 15] (by decide) rfl
        have hFc := va_free (wc := (wMo cI cZ cJ mo_a mo)) hD hS hA [0, 1, 2, 3, 4, 5, 6, 7, 8, 9, 10, 11, 12, 13, 14, 15] rfl
        refine va_calli (va_runV (As := [.int (x7 - x7 / x3 * x3), .int (x7 / x3), .int x3, .int z0_45]) (rest := []) ⟨hx, hb, hml, hown, hts⟩ (k_Model_context l dC dI cI cZ cJ mo_a H.size hf1) (cwV 4 hts (gV t_1020 t_1022 t_41 t_63 t_1023) rfl rfl rfl hd_Model_context ⟨Nat.le_trans (Nat.le_of_ble_eq_true rfl) hRf, Nat.le_trans (Nat.le_of_ble_eq_true rfl) hRl⟩) ⟨kP_blind, va_recv hK hP (ci := 7) (q0 := 0) rfl rfl, kP_at hPc hK hDc hN⟩ rfl rfl hl.1 rfl (lv_room (Nat.le_of_ble_eq_true rfl)) d_Model_readPlane_183 hRc) hS (fun q _ h => hFc q h) hFc (fun r9 u t H1 locs ht hvm hw hB hz1 hk1 hS => ?_)
        rw [hw]
        obtain ⟨hP, hD⟩ := kQ_join (wr := ([] : va_W)) (w1 := (wMo cI cZ cJ mo_a mo)) hP hD [0, 1, 2, 3, 4, 5, 6, 7, 8, 9, 10, 11, 12, 13, 14, 15] [] rfl rfl (by decide) (by decide) ht hk1 hFc hB
        generalize H1 = H at hP hS ⊢
        have hP : va_P (dC, dI) vwCl (wMo cI cZ cJ mo_a mo) H := hP.sub [0, 1, 2, 3, 4, 5, 6, 7, 8, 9, 10, 11, 12, 13, 14, 15] rfl
        have hD : va_D A (wMo cI cZ cJ mo_a mo) := hD.sub [0, 1, 2, 3, 4, 5, 6, 7, 8, 9, 10, 11, 12, 13, 14, 15] (by decide) rfl
        refine lv_istore (lv' := [(8, .int r_47), (0, .ref (mo_a 0)), (1, .int x1), (2, .int x2), (3, .int x3), (4, .int x4), (7, .int x7)]) hx hb d_Model_readPlane_186 hl (by decide) rfl (fun ls hl => ?_)
        refine lv_aload_n hx hb d_Model_readPlane_188 rfl (lv_at hl 1 rfl) ?_
        refine lv_aload_n hx hb d_Model_readPlane_189 rfl (lv_at hl 1 rfl) ?_
        refine lv_iload hx hb d_Model_readPlane_190 (lv_at hl 0 rfl) ?_
        obtain ⟨r_48, hf1, hf⟩ := bd_ex hf
        try dsimp only at hf
        have hPc := hP.sub (ws' := (wMo cI cZ cJ mo_a mo)) [0, 1, 2, 3, 4, 5, 6, 7, 8, 9, 10, 11, 12, 13, 14, 15] rfl
        have hDc := hD.sub (ws' := (wMo cI cZ cJ mo_a mo)) [0, 1, 2, 3, 4, 5, 6, 7, 8, 9, 10, 11, 12, 13, 14, 15] (by decide) rfl
        have hFc := va_free (wc := (wMo cI cZ cJ mo_a mo)) hD hS hA [0, 1, 2, 3, 4, 5, 6, 7, 8, 9, 10, 11, 12, 13, 14, 15] rfl
        refine va_calli (va_runV (As := [.int r_47]) (rest := [.ref (mo_a 0)]) ⟨hx, hb, hml, hown, hts⟩ (k_Model_chanceOf l dC dI cI cZ cJ mo_a H.size hf1) (cwV 1 hts (gV t_1024 t_1026 t_42 t_63 t_1027) rfl rfl rfl hd_Model_chanceOf ⟨Nat.le_trans (Nat.le_of_ble_eq_true rfl) hRf, Nat.le_trans (Nat.le_of_ble_eq_true rfl) hRl⟩) ⟨kP_blind, va_recv hK hP (ci := 7) (q0 := 0) rfl rfl, kP_at hPc hK hDc hN⟩ rfl rfl hl.1 rfl (lv_room (Nat.le_of_ble_eq_true rfl)) d_Model_readPlane_192 hRc) hS (fun q _ h => hFc q h) hFc (fun r9 u t H1 locs ht hvm hw hB hz1 hk1 hS => ?_)
        rw [hw]
        obtain ⟨hP, hD⟩ := kQ_join (wr := ([] : va_W)) (w1 := (wMo cI cZ cJ mo_a mo)) hP hD [0, 1, 2, 3, 4, 5, 6, 7, 8, 9, 10, 11, 12, 13, 14, 15] [] rfl rfl (by decide) (by decide) ht hk1 hFc hB
        generalize H1 = H at hP hS ⊢
        have hP : va_P (dC, dI) vwCl (wMo cI cZ cJ mo_a mo) H := hP.sub [0, 1, 2, 3, 4, 5, 6, 7, 8, 9, 10, 11, 12, 13, 14, 15] rfl
        have hD : va_D A (wMo cI cZ cJ mo_a mo) := hD.sub [0, 1, 2, 3, 4, 5, 6, 7, 8, 9, 10, 11, 12, 13, 14, 15] (by decide) rfl
        obtain ⟨⟨r_49, mo_50⟩, hf1, hf⟩ := bd_ex hf
        try dsimp only at hf
        have hPc := hP.sub (ws' := (wMo cI cZ cJ mo_a mo)) [0, 1, 2, 3, 4, 5, 6, 7, 8, 9, 10, 11, 12, 13, 14, 15] rfl
        have hDc := hD.sub (ws' := (wMo cI cZ cJ mo_a mo)) [0, 1, 2, 3, 4, 5, 6, 7, 8, 9, 10, 11, 12, 13, 14, 15] (by decide) rfl
        have hFc := va_free (wc := (wMo cI cZ cJ mo_a mo)) hD hS hA [0, 1, 2, 3, 4, 5, 6, 7, 8, 9, 10, 11, 12, 13, 14, 15] rfl
        refine va_calli (va_runV (As := [.int r_48]) (rest := []) ⟨hx, hb, hml, hown, hts⟩ (k_Model_take l dC dI cI cZ cJ mo_a H.size hf1) (cwV 1 hts (gV t_1059 t_1061 t_46 t_63 t_1062) rfl rfl rfl hd_Model_take ⟨Nat.le_trans (Nat.le_of_ble_eq_true rfl) hRf, Nat.le_trans (Nat.le_of_ble_eq_true rfl) hRl⟩) ⟨kP_blind, va_recv hK hP (ci := 7) (q0 := 0) rfl rfl, kP_at hPc hK hDc hN⟩ rfl rfl hl.1 rfl (lv_room (Nat.le_of_ble_eq_true rfl)) d_Model_readPlane_195 hRc) hS (fun q _ h => hFc q h) hFc (fun r9 u t H1 locs ht hvm hw hB hz1 hk1 hS => ?_)
        rw [hw]
        obtain ⟨hP, hD⟩ := kQ_join (wr := ([] : va_W)) (w1 := (wMo cI cZ cJ mo_a mo_50)) hP hD [0, 1, 2, 3, 4, 5, 6, 7, 8, 9, 10, 11, 12, 13, 14, 15] [] rfl rfl (by decide) (by decide) ht hk1 hFc hB
        generalize H1 = H at hP hS ⊢
        have hP : va_P (dC, dI) vwCl (wMo cI cZ cJ mo_a mo_50) H := hP.sub [0, 1, 2, 3, 4, 5, 6, 7, 8, 9, 10, 11, 12, 13, 14, 15] rfl
        have hD : va_D A (wMo cI cZ cJ mo_a mo_50) := hD.sub [0, 1, 2, 3, 4, 5, 6, 7, 8, 9, 10, 11, 12, 13, 14, 15] (by decide) rfl
        refine lv_istore (lv' := [(9, .int r_49), (8, .int r_47), (0, .ref (mo_a 0)), (1, .int x1), (2, .int x2), (3, .int x3), (4, .int x4), (7, .int x7)]) hx hb d_Model_readPlane_198 hl (by decide) rfl (fun ls hl => ?_)
        refine lv_aload_n hx hb d_Model_readPlane_200 rfl (lv_at hl 2 rfl) ?_
        refine lv_iload hx hb d_Model_readPlane_201 (lv_at hl 1 rfl) ?_
        refine lv_iload hx hb d_Model_readPlane_203 (lv_at hl 0 rfl) ?_
        obtain ⟨mo_51, hf1, hf⟩ := bd_ex hf
        try dsimp only at hf
        have hPc := hP.sub (ws' := (wMo cI cZ cJ mo_a mo_50)) [0, 1, 2, 3, 4, 5, 6, 7, 8, 9, 10, 11, 12, 13, 14, 15] rfl
        have hDc := hD.sub (ws' := (wMo cI cZ cJ mo_a mo_50)) [0, 1, 2, 3, 4, 5, 6, 7, 8, 9, 10, 11, 12, 13, 14, 15] (by decide) rfl
        have hFc := va_free (wc := (wMo cI cZ cJ mo_a mo_50)) hD hS hA [0, 1, 2, 3, 4, 5, 6, 7, 8, 9, 10, 11, 12, 13, 14, 15] rfl
        refine va_callv (va_runV (As := [.int r_47, .int r_49]) (rest := []) ⟨hx, hb, hml, hown, hts⟩ (k_Model_learn l dC dI cI cZ cJ mo_a H.size hf1) (cwV 2 hts (gV t_1029 t_1031 t_43 t_63 t_1032) rfl rfl rfl hd_Model_learn ⟨Nat.le_trans (Nat.le_of_ble_eq_true rfl) hRf, Nat.le_trans (Nat.le_of_ble_eq_true rfl) hRl⟩) ⟨kP_blind, va_recv hK hP (ci := 7) (q0 := 0) rfl rfl, kP_at hPc hK hDc hN⟩ rfl rfl hl.1 rfl (lv_room (Nat.le_of_ble_eq_true rfl)) d_Model_readPlane_205 hRc) hS (fun q _ h => hFc q h) hFc (fun u t H1 locs ht hvm hw hB hz1 hk1 hS => ?_)
        obtain ⟨hP, hD⟩ := kQ_join (wr := ([] : va_W)) (w1 := (wMo cI cZ cJ mo_a mo_51)) hP hD [0, 1, 2, 3, 4, 5, 6, 7, 8, 9, 10, 11, 12, 13, 14, 15] [] rfl rfl (by decide) (by decide) ht hk1 hFc hB
        generalize H1 = H at hP hS ⊢
        have hP : va_P (dC, dI) vwCl (wMo cI cZ cJ mo_a mo_51) H := hP.sub [0, 1, 2, 3, 4, 5, 6, 7, 8, 9, 10, 11, 12, 13, 14, 15] rfl
        have hD : va_D A (wMo cI cZ cJ mo_a mo_51) := hD.sub [0, 1, 2, 3, 4, 5, 6, 7, 8, 9, 10, 11, 12, 13, 14, 15] (by decide) rfl
        refine lv_aload_n hx hb d_Model_readPlane_208 rfl (lv_at hl 2 rfl) ?_
        refine va_get (D := (dC, dI)) (ci := 7) (v := .ref (mo_a 15)) (C := R_Model) (T := T_Model) (N := 27) hx hb hts in_Model hown hK hP 0 rfl rfl 25 (by decide) (hts _ t_849) (fun _ h9 => h9) rfl d_Model_readPlane_209 ?_
        refine lv_iload hx hb d_Model_readPlane_212 (lv_at hl 7 rfl) ?_
        refine lv_iload_n hx hb d_Model_readPlane_214 rfl (lv_at hl 5 rfl) ?_
        obtain ⟨h_52, hf⟩ := gd_ex hf
        refine lv_idiv hx hb d_Model_readPlane_215 (of_decide_eq_true h_52) ?_
        refine lv_dup2_11 hx hb d_Model_readPlane_216 rfl rfl ?_
        obtain ⟨h_53, hf⟩ := gd_ex hf
        refine va_iald (f := Mo_pl mo_51) hx hb hK hP 15 0 rfl rfl (inb_in h_53) d_Model_readPlane_217 ?_
        refine lv_iload hx hb d_Model_readPlane_218 (lv_at hl 0 rfl) ?_
        refine lv_iload hx hb d_Model_readPlane_220 (lv_at hl 7 rfl) ?_
        refine lv_iload_n hx hb d_Model_readPlane_222 rfl (lv_at hl 5 rfl) ?_
        obtain ⟨h_54, hf⟩ := gd_ex hf
        refine lv_irem hx hb d_Model_readPlane_223 (of_decide_eq_true h_54) ?_
        refine lv_ishl hx hb d_Model_readPlane_224 ?_
        refine lv_ior hx hb d_Model_readPlane_225 ?_
        obtain ⟨h_55, hf⟩ := gd_ex hf
        refine va_iast (f := Mo_pl mo_51) hx hb hK hP hD hS 15 0 rfl rfl (inb_in h_55) d_Model_readPlane_226 (fun H locs hP hD hS => ?_)
        obtain ⟨mo_56, emo_56, hf⟩ := lt_ex hf
        try dsimp only at hf
        have hP : va_P (dC, dI) vwCl (wMo cI cZ cJ mo_a mo_56) H := by rw [emo_56]; exact hP
        have hD : va_D A (wMo cI cZ cJ mo_a mo_56) := by rw [emo_56]; exact hD
        obtain ⟨x7_58, ex7_58, hf⟩ := lt_ex hf
        try dsimp only at hf
        refine lv_iinc (v := x7_58) (lv' := [(7, .int x7_58), (9, .int r_49), (8, .int r_47), (0, .ref (mo_a 0)), (1, .int x1), (2, .int x2), (3, .int x3), (4, .int x4)]) hx hb d_Model_readPlane_227 hl (k := 7) rfl (by rw [ex7_58]; rfl) (by decide) rfl (fun ls hl => ?_)
        refine lv_goto (tgt := 157) hx hb d_Model_readPlane_230 (by decide) ?_
        exact ih _ _ _ mo_56 x7_58 hP hD hS (lv_sub hl [3, 4, 5, 6, 7, 0] rfl) hf
      refine lv_if_lt (tgt := 182) hx hb d_Model_readPlane_175 (by decide) (fun c_59 => ?_) (fun c_59 => ?_)
      · rw [if_pos c_59] at hf
        refine lv_iconst (v := 0) hx hb d_Model_readPlane_182 (by decide) ?_
        exact J183_45 _ _ _ 0 hP hD hS (lv_sub hl [0, 1, 2, 3, 4, 5] rfl) hf
      · rw [if_neg c_59] at hf
        refine lv_iconst (v := 1) hx hb d_Model_readPlane_178 (by decide) ?_
        refine lv_goto (tgt := 183) hx hb d_Model_readPlane_179 (by decide) ?_
        exact J183_45 _ _ _ 1 hP hD hS (lv_sub hl [0, 1, 2, 3, 4, 5] rfl) hf
set_option maxHeartbeats 4000000 in
set_option maxRecDepth 100000 in
theorem L_Model_readPlane_236 {cells slots : Nat} {dC : Nat → ClassId} {dI : Nat → Nat → Nat} {cI cZ cJ : ClassId} {mo_a : Nat → Nat} {x1 : Int32} {x2 : Int32} {x3 : Int32} {x4 : Int32} {k262 : Mo → Option (Mo)} {res : Mo} (C0 : cxt p c m s args R cells slots R_Model c_Model_readPlane tb 10 (dC, dI) vwCl (TYS cI cZ cJ) A 4 89)
    (hk262 : ∀ (H : Heap) (locs : List Loc) (ls : Array Slot) (mo_61 : Mo), va_P (dC, dI) vwCl (wMo cI cZ cJ mo_a mo_61) H → va_D A (wMo cI cZ cJ mo_a mo_61) → va_S A s.heap H locs → lv_has ls 10 [(0, .ref (mo_a 0)), (1, .int x1), (2, .int x2), (3, .int x3), (4, .int x4)] → k262 mo_61 = some res → W p l e R s m args below meth c H locs cells slots Q (F0 m 262 ls [])) :
    ∀ (n : Nat) (H : Heap) (locs : List Loc) (ls : Array Slot) (mo : Mo) (x7 : Int32), va_P (dC, dI) vwCl (wMo cI cZ cJ mo_a mo) H → va_D A (wMo cI cZ cJ mo_a mo) → va_S A s.heap H locs → lv_has ls 10 [(0, .ref (mo_a 0)), (1, .int x1), (2, .int x2), (3, .int x3), (4, .int x4), (7, .int x7)] → l_Model_readPlane_236 x1 x2 x3 x4 k262 n mo x7 = some res → W p l e R s m args below meth c H locs cells slots Q (F0 m 236 ls []) := by
  obtain ⟨hx, hb, hml, hown, hts, hK, hA, hRf, hRl, hN, hRc⟩ := id C0
  intro n
  induction n with
  | zero =>
    intro H locs ls mo x7 hP hD hS hl hf
    exact absurd hf (by simp [l_Model_readPlane_236])
  | succ n ih =>
    intro H locs ls mo x7 hP hD hS hl hf
    rw [l_Model_readPlane_236] at hf
    refine lv_iload hx hb d_Model_readPlane_236 (lv_at hl 5 rfl) ?_
    refine lv_bipush (v := 16) hx hb d_Model_readPlane_238 (by decide) ?_
    refine lv_icmp_ge (tgt := 262) hx hb d_Model_readPlane_240 (by decide) (fun c_62 => ?_) (fun c_62 => ?_)
    · rw [if_pos c_62] at hf
      exact hk262 _ _ _ mo hP hD hS (lv_sub hl [0, 1, 2, 3, 4] rfl) hf
    · rw [if_neg c_62] at hf
      refine lv_aload_n hx hb d_Model_readPlane_243 rfl (lv_at hl 0 rfl) ?_
      refine va_get (D := (dC, dI)) (ci := 7) (v := .ref (mo_a 3)) (C := R_Model) (T := T_Model) (N := 27) hx hb hts in_Model hown hK hP 0 rfl rfl 5 (by decide) (hts _ t_829) (fun _ h9 => h9) rfl d_Model_readPlane_244 ?_
      refine lv_bipush (v := 16) hx hb d_Model_readPlane_247 (by decide) ?_
      refine lv_iload_n hx hb d_Model_readPlane_249 rfl (lv_at hl 1 rfl) ?_
      refine lv_imul hx hb d_Model_readPlane_250 ?_
      refine lv_iload hx hb d_Model_readPlane_251 (lv_at hl 5 rfl) ?_
      refine lv_iadd hx hb d_Model_readPlane_253 ?_
      refine lv_iconst (v := 0) hx hb d_Model_readPlane_254 (by decide) ?_
      obtain ⟨h_63, hf⟩ := gd_ex hf
      refine va_iast (f := Mo_rw mo) hx hb hK hP hD hS 3 0 rfl rfl (inb_in h_63) d_Model_readPlane_255 (fun H locs hP hD hS => ?_)
      obtain ⟨mo_64, emo_64, hf⟩ := lt_ex hf
      try dsimp only at hf
      have hP : va_P (dC, dI) vwCl (wMo cI cZ cJ mo_a mo_64) H := by rw [emo_64]; exact hP
      have hD : va_D A (wMo cI cZ cJ mo_a mo_64) := by rw [emo_64]; exact hD
      obtain ⟨x7_66, ex7_66, hf⟩ := lt_ex hf
      try dsimp only at hf
      refine lv_iinc (v := x7_66) (lv' := [(7, .int x7_66), (0, .ref (mo_a 0)), (1, .int x1), (2, .int x2), (3, .int x3), (4, .int x4)]) hx hb d_Model_readPlane_256 hl (k := 5) rfl (by rw [ex7_66]; rfl) (by decide) rfl (fun ls hl => ?_)
      refine lv_goto (tgt := 236) hx hb d_Model_readPlane_259 (by decide) ?_
      exact ih _ _ _ mo_64 x7_66 hP hD hS (lv_sub hl [1, 2, 3, 4, 5, 0] rfl) hf
set_option maxHeartbeats 4000000 in
set_option maxRecDepth 100000 in
theorem L_Model_readPlane_265 {cells slots : Nat} {dC : Nat → ClassId} {dI : Nat → Nat → Nat} {cI cZ cJ : ClassId} {mo_a : Nat → Nat} {x1 : Int32} {x2 : Int32} {x3 : Int32} {x4 : Int32} {k328 : Mo → Option (Mo)} {res : Mo} (C0 : cxt p c m s args R cells slots R_Model c_Model_readPlane tb 10 (dC, dI) vwCl (TYS cI cZ cJ) A 4 89)
    (hk328 : ∀ (H : Heap) (locs : List Loc) (ls : Array Slot) (mo_68 : Mo), va_P (dC, dI) vwCl (wMo cI cZ cJ mo_a mo_68) H → va_D A (wMo cI cZ cJ mo_a mo_68) → va_S A s.heap H locs → lv_has ls 10 [] → k328 mo_68 = some res → W p l e R s m args below meth c H locs cells slots Q (F0 m 328 ls [])) :
    ∀ (n : Nat) (H : Heap) (locs : List Loc) (ls : Array Slot) (mo : Mo) (x7 : Int32), va_P (dC, dI) vwCl (wMo cI cZ cJ mo_a mo) H → va_D A (wMo cI cZ cJ mo_a mo) → va_S A s.heap H locs → lv_has ls 10 [(0, .ref (mo_a 0)), (1, .int x1), (2, .int x2), (3, .int x3), (4, .int x4), (7, .int x7)] → l_Model_readPlane_265 x1 x2 x3 x4 k328 n mo x7 = some res → W p l e R s m args below meth c H locs cells slots Q (F0 m 265 ls []) := by
  obtain ⟨hx, hb, hml, hown, hts, hK, hA, hRf, hRl, hN, hRc⟩ := id C0
  intro n
  induction n with
  | zero =>
    intro H locs ls mo x7 hP hD hS hl hf
    exact absurd hf (by simp [l_Model_readPlane_265])
  | succ n ih =>
    intro H locs ls mo x7 hP hD hS hl hf
    rw [l_Model_readPlane_265] at hf
    refine lv_iload hx hb d_Model_readPlane_265 (lv_at hl 5 rfl) ?_
    refine lv_iload hx hb d_Model_readPlane_267 (lv_at hl 4 rfl) ?_
    refine lv_icmp_ge (tgt := 328) hx hb d_Model_readPlane_269 (by decide) (fun c_69 => ?_) (fun c_69 => ?_)
    · rw [if_pos c_69] at hf
      exact hk328 _ _ _ mo hP hD hS (lv_sub hl [] rfl) hf
    · rw [if_neg c_69] at hf
      refine lv_iload hx hb d_Model_readPlane_272 (lv_at hl 5 rfl) ?_
      refine lv_iload_n hx hb d_Model_readPlane_274 rfl (lv_at hl 3 rfl) ?_
      obtain ⟨h_70, hf⟩ := gd_ex hf
      refine lv_irem hx hb d_Model_readPlane_275 (of_decide_eq_true h_70) ?_
      obtain ⟨x8_71, ex8_71, hf⟩ := lt_ex hf
      try dsimp only at hf
      refine tp_i ex8_71 ?_
      refine lv_istore (lv' := [(8, .int x8_71), (0, .ref (mo_a 0)), (1, .int x1), (2, .int x2), (3, .int x3), (4, .int x4), (7, .int x7)]) hx hb d_Model_readPlane_276 hl (by decide) rfl (fun ls hl => ?_)
      refine lv_iload hx hb d_Model_readPlane_278 (lv_at hl 6 rfl) ?_
      refine lv_iload_n hx hb d_Model_readPlane_280 rfl (lv_at hl 4 rfl) ?_
      obtain ⟨h_72, hf⟩ := gd_ex hf
      refine lv_idiv hx hb d_Model_readPlane_281 (of_decide_eq_true h_72) ?_
      obtain ⟨x9_73, ex9_73, hf⟩ := lt_ex hf
      try dsimp only at hf
      refine tp_i ex9_73 ?_
      refine lv_istore (lv' := [(9, .int x9_73), (8, .int x8_71), (0, .ref (mo_a 0)), (1, .int x1), (2, .int x2), (3, .int x3), (4, .int x4), (7, .int x7)]) hx hb d_Model_readPlane_282 hl (by decide) rfl (fun ls hl => ?_)
      refine lv_aload_n hx hb d_Model_readPlane_284 rfl (lv_at hl 2 rfl) ?_
      refine va_get (D := (dC, dI)) (ci := 7) (v := .ref (mo_a 3)) (C := R_Model) (T := T_Model) (N := 27) hx hb hts in_Model hown hK hP 0 rfl rfl 5 (by decide) (hts _ t_829) (fun _ h9 => h9) rfl d_Model_readPlane_285 ?_
      refine lv_bipush (v := 16) hx hb d_Model_readPlane_288 (by decide) ?_
      refine lv_iload_n hx hb d_Model_readPlane_290 rfl (lv_at hl 3 rfl) ?_
      refine lv_imul hx hb d_Model_readPlane_291 ?_
      refine lv_iload hx hb d_Model_readPlane_292 (lv_at hl 0 rfl) ?_
      refine lv_iadd hx hb d_Model_readPlane_294 ?_
      refine lv_dup2_11 hx hb d_Model_readPlane_295 rfl rfl ?_
      obtain ⟨h_74, hf⟩ := gd_ex hf
      refine va_iald (f := Mo_rw mo) hx hb hK hP 3 0 rfl rfl (inb_in h_74) d_Model_readPlane_296 ?_
      refine lv_aload_n hx hb d_Model_readPlane_297 rfl (lv_at hl 2 rfl) ?_
      refine lv_iload hx hb d_Model_readPlane_298 (lv_at hl 1 rfl) ?_
      refine lv_iload hx hb d_Model_readPlane_300 (lv_at hl 0 rfl) ?_
      refine lv_iload_n hx hb d_Model_readPlane_302 rfl (lv_at hl 5 rfl) ?_
      obtain ⟨r_75, hf1, hf⟩ := bd_ex hf
      try dsimp only at hf
      have hPc := hP.sub (ws' := (wMo cI cZ cJ mo_a mo)) [0, 1, 2, 3, 4, 5, 6, 7, 8, 9, 10, 11, 12, 13, 14, 15] rfl
      have hDc := hD.sub (ws' := (wMo cI cZ cJ mo_a mo)) [0, 1, 2, 3, 4, 5, 6, 7, 8, 9, 10, 11, 12, 13, 14, 15] (by decide) rfl
      have hFc := va_free (wc := (wMo cI cZ cJ mo_a mo)) hD hS hA [0, 1, 2, 3, 4, 5, 6, 7, 8, 9, 10, 11, 12, 13, 14, 15] rfl
      refine va_calli (va_runV (As := [.int x8_71, .int x9_73, .int x3]) (rest := [.int (Mo_rw mo ((16 * x1) + x9_73).toNatClampNeg), .int ((16 * x1) + x9_73), .ref (mo_a 3)]) ⟨hx, hb, hml, hown, hts⟩ (k_Model_planeAt l dC dI cI cZ cJ mo_a H.size hf1) (cwV 3 hts (gV t_1016 t_1018 t_40 t_63 t_1019) rfl rfl rfl hd_Model_planeAt ⟨Nat.le_trans (Nat.le_of_ble_eq_true rfl) hRf, Nat.le_trans (Nat.le_of_ble_eq_true rfl) hRl⟩) ⟨kP_blind, va_recv hK hP (ci := 7) (q0 := 0) rfl rfl, kP_at hPc hK hDc hN⟩ rfl rfl hl.1 rfl (lv_room (Nat.le_of_ble_eq_true rfl)) d_Model_readPlane_303 hRc) hS (fun q _ h => hFc q h) hFc (fun r9 u t H1 locs ht hvm hw hB hz1 hk1 hS => ?_)
      rw [hw]
      obtain ⟨hP, hD⟩ := kQ_join (wr := ([] : va_W)) (w1 := (wMo cI cZ cJ mo_a mo)) hP hD [0, 1, 2, 3, 4, 5, 6, 7, 8, 9, 10, 11, 12, 13, 14, 15] [] rfl rfl (by decide) (by decide) ht hk1 hFc hB
      generalize H1 = H at hP hS ⊢
      have hP : va_P (dC, dI) vwCl (wMo cI cZ cJ mo_a mo) H := hP.sub [0, 1, 2, 3, 4, 5, 6, 7, 8, 9, 10, 11, 12, 13, 14, 15] rfl
      have hD : va_D A (wMo cI cZ cJ mo_a mo) := hD.sub [0, 1, 2, 3, 4, 5, 6, 7, 8, 9, 10, 11, 12, 13, 14, 15] (by decide) rfl
      refine lv_aload_n hx hb d_Model_readPlane_306 rfl (lv_at hl 2 rfl) ?_
      refine lv_iload_n hx hb d_Model_readPlane_307 rfl (lv_at hl 3 rfl) ?_
      refine lv_iload_n hx hb d_Model_readPlane_308 rfl (lv_at hl 4 rfl) ?_
      refine lv_iload hx hb d_Model_readPlane_309 (lv_at hl 1 rfl) ?_
      refine lv_iload hx hb d_Model_readPlane_311 (lv_at hl 0 rfl) ?_
      obtain ⟨r_76, hf1, hf⟩ := bd_ex hf
      try dsimp only at hf
      have hPc := hP.sub (ws' := (wMo cI cZ cJ mo_a mo)) [0, 1, 2, 3, 4, 5, 6, 7, 8, 9, 10, 11, 12, 13, 14, 15] rfl
      have hDc := hD.sub (ws' := (wMo cI cZ cJ mo_a mo)) [0, 1, 2, 3, 4, 5, 6, 7, 8, 9, 10, 11, 12, 13, 14, 15] (by decide) rfl
      have hFc := va_free (wc := (wMo cI cZ cJ mo_a mo)) hD hS hA [0, 1, 2, 3, 4, 5, 6, 7, 8, 9, 10, 11, 12, 13, 14, 15] rfl
      refine va_calli (va_runV (As := [.int x1, .int x2, .int x8_71, .int x9_73]) (rest := [.int r_75, .int (Mo_rw mo ((16 * x1) + x9_73).toNatClampNeg), .int ((16 * x1) + x9_73), .ref (mo_a 3)]) ⟨hx, hb, hml, hown, hts⟩ (k_Model_under l dC dI cI cZ cJ mo_a H.size hf1) (cwV 4 hts (gV t_1012 t_1014 t_39 t_63 t_1015) rfl rfl rfl hd_Model_under ⟨Nat.le_trans (Nat.le_of_ble_eq_true rfl) hRf, Nat.le_trans (Nat.le_of_ble_eq_true rfl) hRl⟩) ⟨kP_blind, va_recv hK hP (ci := 7) (q0 := 0) rfl rfl, kP_at hPc hK hDc hN⟩ rfl rfl hl.1 rfl (lv_room (Nat.le_of_ble_eq_true rfl)) d_Model_readPlane_313 hRc) hS (fun q _ h => hFc q h) hFc (fun r9 u t H1 locs ht hvm hw hB hz1 hk1 hS => ?_)
      rw [hw]
      obtain ⟨hP, hD⟩ := kQ_join (wr := ([] : va_W)) (w1 := (wMo cI cZ cJ mo_a mo)) hP hD [0, 1, 2, 3, 4, 5, 6, 7, 8, 9, 10, 11, 12, 13, 14, 15] [] rfl rfl (by decide) (by decide) ht hk1 hFc hB
      generalize H1 = H at hP hS ⊢
      have hP : va_P (dC, dI) vwCl (wMo cI cZ cJ mo_a mo) H := hP.sub [0, 1, 2, 3, 4, 5, 6, 7, 8, 9, 10, 11, 12, 13, 14, 15] rfl
      have hD : va_D A (wMo cI cZ cJ mo_a mo) := hD.sub [0, 1, 2, 3, 4, 5, 6, 7, 8, 9, 10, 11, 12, 13, 14, 15] (by decide) rfl
      refine lv_ixor hx hb d_Model_readPlane_316 ?_
      refine lv_iload hx hb d_Model_readPlane_317 (lv_at hl 1 rfl) ?_
      refine lv_ishl hx hb d_Model_readPlane_319 ?_
      refine lv_ior hx hb d_Model_readPlane_320 ?_
      obtain ⟨h_77, hf⟩ := gd_ex hf
      refine va_iast (f := Mo_rw mo) hx hb hK hP hD hS 3 0 rfl rfl (inb_in h_77) d_Model_readPlane_321 (fun H locs hP hD hS => ?_)
      obtain ⟨mo_78, emo_78, hf⟩ := lt_ex hf
      try dsimp only at hf
      have hP : va_P (dC, dI) vwCl (wMo cI cZ cJ mo_a mo_78) H := by rw [emo_78]; exact hP
      have hD : va_D A (wMo cI cZ cJ mo_a mo_78) := by rw [emo_78]; exact hD
      obtain ⟨x7_80, ex7_80, hf⟩ := lt_ex hf
      try dsimp only at hf
      refine lv_iinc (v := x7_80) (lv' := [(7, .int x7_80), (9, .int x9_73), (8, .int x8_71), (0, .ref (mo_a 0)), (1, .int x1), (2, .int x2), (3, .int x3), (4, .int x4)]) hx hb d_Model_readPlane_322 hl (k := 7) rfl (by rw [ex7_80]; rfl) (by decide) rfl (fun ls hl => ?_)
      refine lv_goto (tgt := 265) hx hb d_Model_readPlane_325 (by decide) ?_
      exact ih _ _ _ mo_78 x7_80 hP hD hS (lv_sub hl [3, 4, 5, 6, 7, 0] rfl) hf
set_option maxHeartbeats 4000000 in
set_option maxRecDepth 100000 in
theorem B_Model_readPlane {cells slots : Nat} {dC : Nat → ClassId} {dI : Nat → Nat → Nat} {cI cZ cJ : ClassId} {mo_a : Nat → Nat} {mo : Mo} {x1 : Int32} {x2 : Int32} {res : Mo} (C0 : cxt p c m s args R cells slots R_Model c_Model_readPlane tb 10 (dC, dI) vwCl (TYS cI cZ cJ) A 4 89)
    (hr97 : ∀ (H : Heap) (locs : List Loc) (ls : Array Slot) (mo' : Mo), va_P (dC, dI) vwCl (wMo cI cZ cJ mo_a mo') H → va_D A (wMo cI cZ cJ mo_a mo') → va_S A s.heap H locs → some mo' = some res → W p l e R s m args below meth c H locs cells slots Q (F0 m 97 ls []))
    (hr328 : ∀ (H : Heap) (locs : List Loc) (ls : Array Slot) (mo' : Mo), va_P (dC, dI) vwCl (wMo cI cZ cJ mo_a mo') H → va_D A (wMo cI cZ cJ mo_a mo') → va_S A s.heap H locs → some mo' = some res → W p l e R s m args below meth c H locs cells slots Q (F0 m 328 ls []))
    {H : Heap} {locs : List Loc} {ls : Array Slot} (hP : va_P (dC, dI) vwCl (wMo cI cZ cJ mo_a mo) H) (hD : va_D A (wMo cI cZ cJ mo_a mo)) (hS : va_S A s.heap H locs) (hl : lv_has ls 10 [(0, .ref (mo_a 0)), (1, .int x1), (2, .int x2)]) (hf : f_Model_readPlane mo x1 x2 = some res) : W p l e R s m args below meth c H locs cells slots Q (F0 m 0 ls []) := by
  obtain ⟨hx, hb, hml, hown, hts, hK, hA, hRf, hRl, hN, hRc⟩ := id C0
  rw [f_Model_readPlane] at hf
  refine lv_aload_n hx hb d_Model_readPlane_0 rfl (lv_at hl 0 rfl) ?_
  refine va_get (D := (dC, dI)) (ci := 7) (v := .ref (mo_a 1)) (C := R_Model) (T := T_Model) (N := 27) hx hb hts in_Model hown hK hP 0 rfl rfl 3 (by decide) (hts _ t_827) (fun _ h9 => h9) rfl d_Model_readPlane_1 ?_
  refine lv_iload_n hx hb d_Model_readPlane_4 rfl (lv_at hl 1 rfl) ?_
  obtain ⟨h_1, hf⟩ := gd_ex hf
  refine va_iald (f := Mo_wd mo) hx hb hK hP 1 0 rfl rfl (inb_in h_1) d_Model_readPlane_5 ?_
  obtain ⟨x3_2, ex3_2, hf⟩ := lt_ex hf
  try dsimp only at hf
  refine tp_i ex3_2 ?_
  refine lv_istore_n (lv' := [(3, .int x3_2), (0, .ref (mo_a 0)), (1, .int x1), (2, .int x2)]) hx hb d_Model_readPlane_6 rfl hl (by decide) rfl (fun ls hl => ?_)
  refine lv_iload_n hx hb d_Model_readPlane_7 rfl (lv_at hl 0 rfl) ?_
  refine lv_aload_n hx hb d_Model_readPlane_8 rfl (lv_at hl 1 rfl) ?_
  refine va_get (D := (dC, dI)) (ci := 7) (v := .ref (mo_a 2)) (C := R_Model) (T := T_Model) (N := 27) hx hb hts in_Model hown hK hP 0 rfl rfl 4 (by decide) (hts _ t_828) (fun _ h9 => h9) rfl d_Model_readPlane_9 ?_
  refine lv_iload_n hx hb d_Model_readPlane_12 rfl (lv_at hl 2 rfl) ?_
  obtain ⟨h_3, hf⟩ := gd_ex hf
  refine va_iald (f := Mo_ht mo) hx hb hK hP 2 0 rfl rfl (inb_in h_3) d_Model_readPlane_13 ?_
  refine lv_imul hx hb d_Model_readPlane_14 ?_
  obtain ⟨x4_4, ex4_4, hf⟩ := lt_ex hf
  try dsimp only at hf
  refine tp_i ex4_4 ?_
  refine lv_istore (lv' := [(4, .int x4_4), (3, .int x3_2), (0, .ref (mo_a 0)), (1, .int x1), (2, .int x2)]) hx hb d_Model_readPlane_15 hl (by decide) rfl (fun ls hl => ?_)
  refine lv_iconst (v := 0) hx hb d_Model_readPlane_17 (by decide) ?_
  refine lv_istore (lv' := [(5, .int 0), (4, .int x4_4), (3, .int x3_2), (0, .ref (mo_a 0)), (1, .int x1), (2, .int x2)]) hx hb d_Model_readPlane_18 hl (by decide) rfl (fun ls hl => ?_)
  refine L_Model_readPlane_20 C0 (fun H locs ls mo_11 hP hD hS hl hf => ?_) 100000 _ _ _ mo 0 hP hD hS (lv_sub hl [3, 4, 5, 2, 1, 0] rfl) hf
  try dsimp only at hf
  refine lv_iconst (v := 0) hx hb d_Model_readPlane_41 (by decide) ?_
  refine lv_istore (lv' := [(5, .int 0), (0, .ref (mo_a 0)), (1, .int x1), (2, .int x2), (3, .int x3_2), (4, .int x4_4)]) hx hb d_Model_readPlane_42 hl (by decide) rfl (fun ls hl => ?_)
  refine lv_iconst (v := 0) hx hb d_Model_readPlane_44 (by decide) ?_
  refine lv_istore (lv' := [(6, .int 0), (5, .int 0), (0, .ref (mo_a 0)), (1, .int x1), (2, .int x2), (3, .int x3_2), (4, .int x4_4)]) hx hb d_Model_readPlane_45 hl (by decide) rfl (fun ls hl => ?_)
  refine L_Model_readPlane_47 C0 (fun H locs ls mo_38 hP hD hS hl hf => ?_) (fun H locs ls mo_39 x6_40 hP hD hS hl hf => ?_) 100000 _ _ _ mo_11 0 0 hP hD hS (lv_sub hl [2, 3, 4, 5, 6, 1, 0] rfl) hf
  · try dsimp only at hf
    exact hr97 _ _ _ mo_38 hP hD hS hf
  · try dsimp only at hf
    refine lv_iload hx hb d_Model_readPlane_153 (lv_at hl 5 rfl) ?_
    refine lv_istore (lv' := [(7, .int x6_40), (0, .ref (mo_a 0)), (1, .int x1), (2, .int x2), (3, .int x3_2), (4, .int x4_4), (6, .int x6_40)]) hx hb d_Model_readPlane_155 hl (by decide) rfl (fun ls hl => ?_)
    refine L_Model_readPlane_157 C0 (fun H locs ls mo_60 hP hD hS hl hf => ?_) 100000 _ _ _ mo_39 x6_40 hP hD hS (lv_sub hl [1, 2, 3, 4, 5, 0] rfl) hf
    try dsimp only at hf
    refine lv_iconst (v := 0) hx hb d_Model_readPlane_233 (by decide) ?_
    refine lv_istore (lv' := [(7, .int 0), (0, .ref (mo_a 0)), (1, .int x1), (2, .int x2), (3, .int x3_2), (4, .int x4_4)]) hx hb d_Model_readPlane_234 hl (by decide) rfl (fun ls hl => ?_)
    refine L_Model_readPlane_236 C0 (fun H locs ls mo_67 hP hD hS hl hf => ?_) 100000 _ _ _ mo_60 0 hP hD hS (lv_sub hl [1, 2, 3, 4, 5, 0] rfl) hf
    try dsimp only at hf
    refine lv_iconst (v := 0) hx hb d_Model_readPlane_262 (by decide) ?_
    refine lv_istore (lv' := [(7, .int 0), (0, .ref (mo_a 0)), (1, .int x1), (2, .int x2), (3, .int x3_2), (4, .int x4_4)]) hx hb d_Model_readPlane_263 hl (by decide) rfl (fun ls hl => ?_)
    refine L_Model_readPlane_265 C0 (fun H locs ls mo_81 hP hD hS hl hf => ?_) 100000 _ _ _ mo_67 0 hP hD hS (lv_sub hl [1, 2, 3, 4, 5, 0] rfl) hf
    try dsimp only at hf
    exact hr328 _ _ _ mo_81 hP hD hS hf
end
set_option maxHeartbeats 4000000 in
set_option maxRecDepth 100000 in
theorem k_Model_readPlane (l : Launch) (dC : Nat → ClassId) (dI : Nat → Nat → Nat) (cI cZ cJ : ClassId) (mo_a : Nat → Nat) (sz : Nat) {mo : Mo} {x1 : Int32} {x2 : Int32} {mo' : Mo} (hf : f_Model_readPlane mo x1 x2 = some mo') :
    Met l y_Model_readPlane ws_Model_readPlane ({ frames := 4, cells := 0, slots := 0, locals := 89 }) (va_Pc [.ref (mo_a 0), .int x1, .int x2] (kP (dC, dI) vwCl (TYS cI cZ cJ) (wMo cI cZ cJ mo_a mo) sz)) (va_Qv (fun (_ : Unit) => True) (fun _ t => kQ (dC, dI) vwCl (TYS cI cZ cJ) (wMo cI cZ cJ mo_a mo) sz (wMo cI cZ cJ mo_a mo') t) (va_A (wMo cI cZ cJ mo_a mo) sz)) 0 0 (va_A (wMo cI cZ cJ mo_a mo) sz) := by
  refine Met.ofW (cc := c_Model_readPlane) (maxL := 10) (ret := none) (by decide) rfl ?_
  intro p e s m args below meth c s₁ B hml hv
  obtain ⟨rfl, hsz, hP, hK, hD0, hN⟩ := hv
  have hr := B.returns
  have hlocks := B.notSynchronized
  subst hsz
  have hD := hD0.self (sz := s.heap.size)
  have hl := lv_entry ([.ref (mo_a 0), .int x1, .int x2]) (n := 10) (Nat.le_of_ble_eq_true rfl)
  rw [lg_entry_eq]
  generalize (lg_sl ([.ref (mo_a 0), .int x1, .int x2]) ++ List.replicate (10 - (lg_sl ([.ref (mo_a 0), .int x1, .int x2])).length) Slot.unset).toArray = ls at hl ⊢
  refine B_Model_readPlane (A := va_A (wMo cI cZ cJ mo_a mo) s.heap.size) ⟨B.exec, B.bytes, hml, findClass_of_methodNamed B.named, fun w h => atoms_spec (ws := ws_Model_readPlane) B.pre w (List.mem_cons_of_mem _ h), hK, fun q h => Or.inr h, Nat.le_of_ble_eq_true rfl, Nat.le_of_ble_eq_true rfl, hN, Nat.le_of_ble_eq_true rfl, Nat.le_of_ble_eq_true rfl⟩ (fun H locs ls mo'1 hP hD hS hf => ?_) (fun H locs ls mo'1 hP hD hS hf => ?_) hP hD va_S.rf hl hf
  · cases hf
    exact W.vret B.exec B.bytes hr (fun t ht hW => ⟨⟨(), rfl, trivial, ⟨by rw [ht]; exact hP, va_K.moved hW.alike hK, hD⟩⟩, hS.F ht⟩) hS.2.2 d_Model_readPlane_97
  · cases hf
    exact W.vret B.exec B.bytes hr (fun t ht hW => ⟨⟨(), rfl, trivial, ⟨by rw [ht]; exact hP, va_K.moved hW.alike hK, hD⟩⟩, hS.F ht⟩) hS.2.2 d_Model_readPlane_328

/-! Model_writeSymbol -/
def j_Model_writeSymbol_103_11 (x1 : Int32) (mo_10 : Mo) : Option (Mo) := bd (f_Model_writePlane mo_10 x1) <| fun mo_12 => some mo_12
def j_Model_writeSymbol_44_8 (x1 : Int32) (mo_3 : Mo) (z0_5 : Int32) (z0_7 : Int32) : Option (Mo) := bd (f_Model_emit mo_3 z0_7 32768) <| fun mo_9 => (if z0_5 = 0 then j_Model_writeSymbol_103_11 x1 mo_9 else gd (inb x1 40) <| gd (inb x1 80) <| gd (inb (Mo_bs mo_9 x1.toNatClampNeg) 40) <| bd (f_Model_emitNumber mo_9 (((Mo_pc mo_9 x1.toNatClampNeg) - (Mo_pc mo_9 (Mo_bs mo_9 x1.toNatClampNeg).toNatClampNeg)) - 1)) <| fun mo_17 => gd (inb x1 80) <| bd (f_Model_emitBits mo_17 ((Mo_dx mo_17 x1.toNatClampNeg) + 4) 4) <| fun mo_19 => gd (inb x1 80) <| bd (f_Model_emitBits mo_19 ((Mo_dy mo_19 x1.toNatClampNeg) + 4) 4) <| fun mo_21 => j_Model_writeSymbol_103_11 x1 mo_21)
def j_Model_writeSymbol_33_6 (x1 : Int32) (mo_3 : Mo) (z0_5 : Int32) : Option (Mo) := (if z0_5 = 0 then j_Model_writeSymbol_44_8 x1 mo_3 z0_5 0 else j_Model_writeSymbol_44_8 x1 mo_3 z0_5 1)
def f_Model_writeSymbol (mo : Mo) (x1 : Int32) (x2 : Int32) : Option (Mo) := bd (f_Model_emit mo 1 32768) <| fun mo_1 => gd (inb x1 80) <| bd (f_Model_emitNumber mo_1 ((Mo_wd mo_1 x1.toNatClampNeg) - x2)) <| fun mo_3 => gd (inb x1 80) <| (if (Mo_bs mo_3 x1.toNatClampNeg) < 0 then j_Model_writeSymbol_33_6 x1 mo_3 0 else j_Model_writeSymbol_33_6 x1 mo_3 1)
section
variable {p : Program} {l : Launch} {e : Env} {R : Room} {s : State} {m : MethodId} {args : Array Value} {below : List Frame} {meth : Method} {c : Code} {Q : State → Prop} {A : Nat → Prop}
set_option maxHeartbeats 4000000 in
set_option maxRecDepth 100000 in
theorem B_Model_writeSymbol {cells slots : Nat} {dC : Nat → ClassId} {dI : Nat → Nat → Nat} {cI cZ cJ : ClassId} {mo_a : Nat → Nat} {mo : Mo} {x1 : Int32} {x2 : Int32} {res : Mo} (C0 : cxt p c m s args R cells slots R_Model c_Model_writeSymbol tb 4 (dC, dI) vwCl (TYS cI cZ cJ) A 5 117)
    (hr108 : ∀ (H : Heap) (locs : List Loc) (ls : Array Slot) (mo' : Mo), va_P (dC, dI) vwCl (wMo cI cZ cJ mo_a mo') H → va_D A (wMo cI cZ cJ mo_a mo') → va_S A s.heap H locs → some mo' = some res → W p l e R s m args below meth c H locs cells slots Q (F0 m 108 ls []))
    {H : Heap} {locs : List Loc} {ls : Array Slot} (hP : va_P (dC, dI) vwCl (wMo cI cZ cJ mo_a mo) H) (hD : va_D A (wMo cI cZ cJ mo_a mo)) (hS : va_S A s.heap H locs) (hl : lv_has ls 4 [(0, .ref (mo_a 0)), (1, .int x1), (2, .int x2)]) (hf : f_Model_writeSymbol mo x1 x2 = some res) : W p l e R s m args below meth c H locs cells slots Q (F0 m 0 ls []) := by
  obtain ⟨hx, hb, hml, hown, hts, hK, hA, hRf, hRl, hN, hRc⟩ := id C0
  rw [f_Model_writeSymbol] at hf
  refine lv_aload_n hx hb d_Model_writeSymbol_0 rfl (lv_at hl 0 rfl) ?_
  refine lv_iconst (v := 1) hx hb d_Model_writeSymbol_1 (by decide) ?_
  refine lv_ldc (v := 32768) hx hb hown (hts (.constant R_Model 101 32768) (by decide +kernel)) d_Model_writeSymbol_2 ?_
  obtain ⟨mo_1, hf1, hf⟩ := bd_ex hf
  try dsimp only at hf
  have hPc := hP.sub (ws' := (wMo cI cZ cJ mo_a mo)) [0, 1, 2, 3, 4, 5, 6, 7, 8, 9, 10, 11, 12, 13, 14, 15] rfl
  have hDc := hD.sub (ws' := (wMo cI cZ cJ mo_a mo)) [0, 1, 2, 3, 4, 5, 6, 7, 8, 9, 10, 11, 12, 13, 14, 15] (by decide) rfl
  have hFc := va_free (wc := (wMo cI cZ cJ mo_a mo)) hD hS hA [0, 1, 2, 3, 4, 5, 6, 7, 8, 9, 10, 11, 12, 13, 14, 15] rfl
  refine va_callv (va_runV (As := [.int 1, .int 32768]) (rest := []) ⟨hx, hb, hml, hown, hts⟩ (k_Model_emit l dC dI cI cZ cJ mo_a H.size hf1) (cwV 2 hts (gV t_982 t_984 t_32 t_63 t_985) rfl rfl rfl hd_Model_emit ⟨Nat.le_trans (Nat.le_of_ble_eq_true rfl) hRf, Nat.le_trans (Nat.le_of_ble_eq_true rfl) hRl⟩) ⟨kP_blind, va_recv hK hP (ci := 7) (q0 := 0) rfl rfl, kP_at hPc hK hDc hN⟩ rfl rfl hl.1 rfl (lv_room (Nat.le_of_ble_eq_true rfl)) d_Model_writeSymbol_4 hRc) hS (fun q _ h => hFc q h) hFc (fun u t H1 locs ht hvm hw hB hz1 hk1 hS => ?_)
  obtain ⟨hP, hD⟩ := kQ_join (wr := ([] : va_W)) (w1 := (wMo cI cZ cJ mo_a mo_1)) hP hD [0, 1, 2, 3, 4, 5, 6, 7, 8, 9, 10, 11, 12, 13, 14, 15] [] rfl rfl (by decide) (by decide) ht hk1 hFc hB
  generalize H1 = H at hP hS ⊢
  have hP : va_P (dC, dI) vwCl (wMo cI cZ cJ mo_a mo_1) H := hP.sub [0, 1, 2, 3, 4, 5, 6, 7, 8, 9, 10, 11, 12, 13, 14, 15] rfl
  have hD : va_D A (wMo cI cZ cJ mo_a mo_1) := hD.sub [0, 1, 2, 3, 4, 5, 6, 7, 8, 9, 10, 11, 12, 13, 14, 15] (by decide) rfl
  refine lv_aload_n hx hb d_Model_writeSymbol_7 rfl (lv_at hl 0 rfl) ?_
  refine lv_aload_n hx hb d_Model_writeSymbol_8 rfl (lv_at hl 0 rfl) ?_
  refine va_get (D := (dC, dI)) (ci := 7) (v := .ref (mo_a 1)) (C := R_Model) (T := T_Model) (N := 27) hx hb hts in_Model hown hK hP 0 rfl rfl 3 (by decide) (hts _ t_827) (fun _ h9 => h9) rfl d_Model_writeSymbol_9 ?_
  refine lv_iload_n hx hb d_Model_writeSymbol_12 rfl (lv_at hl 1 rfl) ?_
  obtain ⟨h_2, hf⟩ := gd_ex hf
  refine va_iald (f := Mo_wd mo_1) hx hb hK hP 1 0 rfl rfl (inb_in h_2) d_Model_writeSymbol_13 ?_
  refine lv_iload_n hx hb d_Model_writeSymbol_14 rfl (lv_at hl 2 rfl) ?_
  refine lv_isub hx hb d_Model_writeSymbol_15 ?_
  obtain ⟨mo_3, hf1, hf⟩ := bd_ex hf
  try dsimp only at hf
  have hPc := hP.sub (ws' := (wMo cI cZ cJ mo_a mo_1)) [0, 1, 2, 3, 4, 5, 6, 7, 8, 9, 10, 11, 12, 13, 14, 15] rfl
  have hDc := hD.sub (ws' := (wMo cI cZ cJ mo_a mo_1)) [0, 1, 2, 3, 4, 5, 6, 7, 8, 9, 10, 11, 12, 13, 14, 15] (by decide) rfl
  have hFc := va_free (wc := (wMo cI cZ cJ mo_a mo_1)) hD hS hA [0, 1, 2, 3, 4, 5, 6, 7, 8, 9, 10, 11, 12, 13, 14, 15] rfl
  refine va_callv (va_runV (As := [.int ((Mo_wd mo_1 x1.toNatClampNeg) - x2)]) (rest := []) ⟨hx, hb, hml, hown, hts⟩ (k_Model_emitNumber l dC dI cI cZ cJ mo_a H.size hf1) (cwV 1 hts (gV t_974 t_976 t_30 t_63 t_977) rfl rfl rfl hd_Model_emitNumber ⟨Nat.le_trans (Nat.le_of_ble_eq_true rfl) hRf, Nat.le_trans (Nat.le_of_ble_eq_true rfl) hRl⟩) ⟨kP_blind, va_recv hK hP (ci := 7) (q0 := 0) rfl rfl, kP_at hPc hK hDc hN⟩ rfl rfl hl.1 rfl (lv_room (Nat.le_of_ble_eq_true rfl)) d_Model_writeSymbol_16 hRc) hS (fun q _ h => hFc q h) hFc (fun u t H1 locs ht hvm hw hB hz1 hk1 hS => ?_)
  obtain ⟨hP, hD⟩ := kQ_join (wr := ([] : va_W)) (w1 := (wMo cI cZ cJ mo_a mo_3)) hP hD [0, 1, 2, 3, 4, 5, 6, 7, 8, 9, 10, 11, 12, 13, 14, 15] [] rfl rfl (by decide) (by decide) ht hk1 hFc hB
  generalize H1 = H at hP hS ⊢
  have hP : va_P (dC, dI) vwCl (wMo cI cZ cJ mo_a mo_3) H := hP.sub [0, 1, 2, 3, 4, 5, 6, 7, 8, 9, 10, 11, 12, 13, 14, 15] rfl
  have hD : va_D A (wMo cI cZ cJ mo_a mo_3) := hD.sub [0, 1, 2, 3, 4, 5, 6, 7, 8, 9, 10, 11, 12, 13, 14, 15] (by decide) rfl
  refine lv_aload_n hx hb d_Model_writeSymbol_19 rfl (lv_at hl 0 rfl) ?_
  refine va_get (D := (dC, dI)) (ci := 7) (v := .ref (mo_a 5)) (C := R_Model) (T := T_Model) (N := 27) hx hb hts in_Model hown hK hP 0 rfl rfl 7 (by decide) (hts _ t_831) (fun _ h9 => h9) rfl d_Model_writeSymbol_20 ?_
  refine lv_iload_n hx hb d_Model_writeSymbol_23 rfl (lv_at hl 1 rfl) ?_
  obtain ⟨h_4, hf⟩ := gd_ex hf
  refine va_iald (f := Mo_bs mo_3) hx hb hK hP 5 0 rfl rfl (inb_in h_4) d_Model_writeSymbol_24 ?_
  have J33_5 : ∀ (H : Heap) (locs : List Loc) (ls : Array Slot) (z0_5 : Int32), va_P (dC, dI) vwCl (wMo cI cZ cJ mo_a mo_3) H → va_D A (wMo cI cZ cJ mo_a mo_3) → va_S A s.heap H locs → lv_has ls 4 [(0, .ref (mo_a 0)), (1, .int x1)] → j_Model_writeSymbol_33_6 x1 mo_3 z0_5 = some res → W p l e R s m args below meth c H locs cells slots Q (F0 m 33 ls [.int z0_5]) := by
    intro H locs ls z0_5 hP hD hS hl hf
    rw [j_Model_writeSymbol_33_6] at hf
    refine lv_istore_n (lv' := [(3, .int z0_5), (0, .ref (mo_a 0)), (1, .int x1)]) hx hb d_Model_writeSymbol_33 rfl hl (by decide) rfl (fun ls hl => ?_)
    refine lv_aload_n hx hb d_Model_writeSymbol_34 rfl (lv_at hl 1 rfl) ?_
    refine lv_iload_n hx hb d_Model_writeSymbol_35 rfl (lv_at hl 0 rfl) ?_
    have J44_7 : ∀ (H : Heap) (locs : List Loc) (ls : Array Slot) (z0_7 : Int32), va_P (dC, dI) vwCl (wMo cI cZ cJ mo_a mo_3) H → va_D A (wMo cI cZ cJ mo_a mo_3) → va_S A s.heap H locs → lv_has ls 4 [(0, .ref (mo_a 0)), (1, .int x1), (3, .int z0_5)] → j_Model_writeSymbol_44_8 x1 mo_3 z0_5 z0_7 = some res → W p l e R s m args below meth c H locs cells slots Q (F0 m 44 ls [.int z0_7, .ref (mo_a 0)]) := by
      intro H locs ls z0_7 hP hD hS hl hf
      rw [j_Model_writeSymbol_44_8] at hf
      refine lv_ldc (v := 32768) hx hb hown (hts (.constant R_Model 101 32768) (by decide +kernel)) d_Model_writeSymbol_44 ?_
      obtain ⟨mo_9, hf1, hf⟩ := bd_ex hf
      try dsimp only at hf
      have hPc := hP.sub (ws' := (wMo cI cZ cJ mo_a mo_3)) [0, 1, 2, 3, 4, 5, 6, 7, 8, 9, 10, 11, 12, 13, 14, 15] rfl
      have hDc := hD.sub (ws' := (wMo cI cZ cJ mo_a mo_3)) [0, 1, 2, 3, 4, 5, 6, 7, 8, 9, 10, 11, 12, 13, 14, 15] (by decide) rfl
      have hFc := va_free (wc := (wMo cI cZ cJ mo_a mo_3)) hD hS hA [0, 1, 2, 3, 4, 5, 6, 7, 8, 9, 10, 11, 12, 13, 14, 15] rfl
      refine va_callv (va_runV (As := [.int z0_7, .int 32768]) (rest := []) ⟨hx, hb, hml, hown, hts⟩ (k_Model_emit l dC dI cI cZ cJ mo_a H.size hf1) (cwV 2 hts (gV t_982 t_984 t_32 t_63 t_985) rfl rfl rfl hd_Model_emit ⟨Nat.le_trans (Nat.le_of_ble_eq_true rfl) hRf, Nat.le_trans (Nat.le_of_ble_eq_true rfl) hRl⟩) ⟨kP_blind, va_recv hK hP (ci := 7) (q0 := 0) rfl rfl, kP_at hPc hK hDc hN⟩ rfl rfl hl.1 rfl (lv_room (Nat.le_of_ble_eq_true rfl)) d_Model_writeSymbol_46 hRc) hS (fun q _ h => hFc q h) hFc (fun u t H1 locs ht hvm hw hB hz1 hk1 hS => ?_)
      obtain ⟨hP, hD⟩ := kQ_join (wr := ([] : va_W)) (w1 := (wMo cI cZ cJ mo_a mo_9)) hP hD [0, 1, 2, 3, 4, 5, 6, 7, 8, 9, 10, 11, 12, 13, 14, 15] [] rfl rfl (by decide) (by decide) ht hk1 hFc hB
      generalize H1 = H at hP hS ⊢
      have hP : va_P (dC, dI) vwCl (wMo cI cZ cJ mo_a mo_9) H := hP.sub [0, 1, 2, 3, 4, 5, 6, 7, 8, 9, 10, 11, 12, 13, 14, 15] rfl
      have hD : va_D A (wMo cI cZ cJ mo_a mo_9) := hD.sub [0, 1, 2, 3, 4, 5, 6, 7, 8, 9, 10, 11, 12, 13, 14, 15] (by decide) rfl
      refine lv_iload_n hx hb d_Model_writeSymbol_49 rfl (lv_at hl 2 rfl) ?_
      have J103_10 : ∀ (H : Heap) (locs : List Loc) (ls : Array Slot) (mo_10 : Mo), va_P (dC, dI) vwCl (wMo cI cZ cJ mo_a mo_10) H → va_D A (wMo cI cZ cJ mo_a mo_10) → va_S A s.heap H locs → lv_has ls 4 [(0, .ref (mo_a 0)), (1, .int x1)] → j_Model_writeSymbol_103_11 x1 mo_10 = some res → W p l e R s m args below meth c H locs cells slots Q (F0 m 103 ls []) := by
        intro H locs ls mo_10 hP hD hS hl hf
        rw [j_Model_writeSymbol_103_11] at hf
        refine lv_aload_n hx hb d_Model_writeSymbol_103 rfl (lv_at hl 0 rfl) ?_
        refine lv_iload_n hx hb d_Model_writeSymbol_104 rfl (lv_at hl 1 rfl) ?_
        obtain ⟨mo_12, hf1, hf⟩ := bd_ex hf
        try dsimp only at hf
        have hPc := hP.sub (ws' := (wMo cI cZ cJ mo_a mo_10)) [0, 1, 2, 3, 4, 5, 6, 7, 8, 9, 10, 11, 12, 13, 14, 15] rfl
        have hDc := hD.sub (ws' := (wMo cI cZ cJ mo_a mo_10)) [0, 1, 2, 3, 4, 5, 6, 7, 8, 9, 10, 11, 12, 13, 14, 15] (by decide) rfl
        have hFc := va_free (wc := (wMo cI cZ cJ mo_a mo_10)) hD hS hA [0, 1, 2, 3, 4, 5, 6, 7, 8, 9, 10, 11, 12, 13, 14, 15] rfl
        refine va_callv (va_runV (As := [.int x1]) (rest := []) ⟨hx, hb, hml, hown, hts⟩ (k_Model_writePlane l dC dI cI cZ cJ mo_a H.size hf1) (cwV 1 hts (gV t_1008 t_1010 t_38 t_63 t_1011) rfl rfl rfl hd_Model_writePlane ⟨Nat.le_trans (Nat.le_of_ble_eq_true rfl) hRf, Nat.le_trans (Nat.le_of_ble_eq_true rfl) hRl⟩) ⟨kP_blind, va_recv hK hP (ci := 7) (q0 := 0) rfl rfl, kP_at hPc hK hDc hN⟩ rfl rfl hl.1 rfl (lv_room (Nat.le_of_ble_eq_true rfl)) d_Model_writeSymbol_105 hRc) hS (fun q _ h => hFc q h) hFc (fun u t H1 locs ht hvm hw hB hz1 hk1 hS => ?_)
        obtain ⟨hP, hD⟩ := kQ_join (wr := ([] : va_W)) (w1 := (wMo cI cZ cJ mo_a mo_12)) hP hD [0, 1, 2, 3, 4, 5, 6, 7, 8, 9, 10, 11, 12, 13, 14, 15] [] rfl rfl (by decide) (by decide) ht hk1 hFc hB
        generalize H1 = H at hP hS ⊢
        have hP : va_P (dC, dI) vwCl (wMo cI cZ cJ mo_a mo_12) H := hP.sub [0, 1, 2, 3, 4, 5, 6, 7, 8, 9, 10, 11, 12, 13, 14, 15] rfl
        have hD : va_D A (wMo cI cZ cJ mo_a mo_12) := hD.sub [0, 1, 2, 3, 4, 5, 6, 7, 8, 9, 10, 11, 12, 13, 14, 15] (by decide) rfl
        exact hr108 _ _ _ mo_12 hP hD hS hf
      refine lv_if_eq (tgt := 103) hx hb d_Model_writeSymbol_50 (by decide) (fun c_13 => ?_) (fun c_13 => ?_)
      · rw [if_pos c_13] at hf
        exact J103_10 _ _ _ mo_9 hP hD hS (lv_sub hl [0, 1] rfl) hf
      · rw [if_neg c_13] at hf
        refine lv_aload_n hx hb d_Model_writeSymbol_53 rfl (lv_at hl 0 rfl) ?_
        refine lv_aload_n hx hb d_Model_writeSymbol_54 rfl (lv_at hl 0 rfl) ?_
        refine va_get (D := (dC, dI)) (ci := 7) (v := .ref (mo_a 8)) (C := R_Model) (T := T_Model) (N := 27) hx hb hts in_Model hown hK hP 0 rfl rfl 10 (by decide) (hts _ t_834) (fun _ h9 => h9) rfl d_Model_writeSymbol_55 ?_
        refine lv_iload_n hx hb d_Model_writeSymbol_58 rfl (lv_at hl 1 rfl) ?_
        obtain ⟨h_14, hf⟩ := gd_ex hf
        refine va_iald (f := Mo_pc mo_9) hx hb hK hP 8 0 rfl rfl (inb_in h_14) d_Model_writeSymbol_59 ?_
        refine lv_aload_n hx hb d_Model_writeSymbol_60 rfl (lv_at hl 0 rfl) ?_
        refine va_get (D := (dC, dI)) (ci := 7) (v := .ref (mo_a 8)) (C := R_Model) (T := T_Model) (N := 27) hx hb hts in_Model hown hK hP 0 rfl rfl 10 (by decide) (hts _ t_834) (fun _ h9 => h9) rfl d_Model_writeSymbol_61 ?_
        refine lv_aload_n hx hb d_Model_writeSymbol_64 rfl (lv_at hl 0 rfl) ?_
        refine va_get (D := (dC, dI)) (ci := 7) (v := .ref (mo_a 5)) (C := R_Model) (T := T_Model) (N := 27) hx hb hts in_Model hown hK hP 0 rfl rfl 7 (by decide) (hts _ t_831) (fun _ h9 => h9) rfl d_Model_writeSymbol_65 ?_
        refine lv_iload_n hx hb d_Model_writeSymbol_68 rfl (lv_at hl 1 rfl) ?_
        obtain ⟨h_15, hf⟩ := gd_ex hf
        refine va_iald (f := Mo_bs mo_9) hx hb hK hP 5 0 rfl rfl (inb_in h_15) d_Model_writeSymbol_69 ?_
        obtain ⟨h_16, hf⟩ := gd_ex hf
        refine va_iald (f := Mo_pc mo_9) hx hb hK hP 8 0 rfl rfl (inb_in h_16) d_Model_writeSymbol_70 ?_
        refine lv_isub hx hb d_Model_writeSymbol_71 ?_
        refine lv_iconst (v := 1) hx hb d_Model_writeSymbol_72 (by decide) ?_
        refine lv_isub hx hb d_Model_writeSymbol_73 ?_
        obtain ⟨mo_17, hf1, hf⟩ := bd_ex hf
        try dsimp only at hf
        have hPc := hP.sub (ws' := (wMo cI cZ cJ mo_a mo_9)) [0, 1, 2, 3, 4, 5, 6, 7, 8, 9, 10, 11, 12, 13, 14, 15] rfl
        have hDc := hD.sub (ws' := (wMo cI cZ cJ mo_a mo_9)) [0, 1, 2, 3, 4, 5, 6, 7, 8, 9, 10, 11, 12, 13, 14, 15] (by decide) rfl
        have hFc := va_free (wc := (wMo cI cZ cJ mo_a mo_9)) hD hS hA [0, 1, 2, 3, 4, 5, 6, 7, 8, 9, 10, 11, 12, 13, 14, 15] rfl
        refine va_callv (va_runV (As := [.int (((Mo_pc mo_9 x1.toNatClampNeg) - (Mo_pc mo_9 (Mo_bs mo_9 x1.toNatClampNeg).toNatClampNeg)) - 1)]) (rest := []) ⟨hx, hb, hml, hown, hts⟩ (k_Model_emitNumber l dC dI cI cZ cJ mo_a H.size hf1) (cwV 1 hts (gV t_974 t_976 t_30 t_63 t_977) rfl rfl rfl hd_Model_emitNumber ⟨Nat.le_trans (Nat.le_of_ble_eq_true rfl) hRf, Nat.le_trans (Nat.le_of_ble_eq_true rfl) hRl⟩) ⟨kP_blind, va_recv hK hP (ci := 7) (q0 := 0) rfl rfl, kP_at hPc hK hDc hN⟩ rfl rfl hl.1 rfl (lv_room (Nat.le_of_ble_eq_true rfl)) d_Model_writeSymbol_74 hRc) hS (fun q _ h => hFc q h) hFc (fun u t H1 locs ht hvm hw hB hz1 hk1 hS => ?_)
        obtain ⟨hP, hD⟩ := kQ_join (wr := ([] : va_W)) (w1 := (wMo cI cZ cJ mo_a mo_17)) hP hD [0, 1, 2, 3, 4, 5, 6, 7, 8, 9, 10, 11, 12, 13, 14, 15] [] rfl rfl (by decide) (by decide) ht hk1 hFc hB
        generalize H1 = H at hP hS ⊢
        have hP : va_P (dC, dI) vwCl (wMo cI cZ cJ mo_a mo_17) H := hP.sub [0, 1, 2, 3, 4, 5, 6, 7, 8, 9, 10, 11, 12, 13, 14, 15] rfl
        have hD : va_D A (wMo cI cZ cJ mo_a mo_17) := hD.sub [0, 1, 2, 3, 4, 5, 6, 7, 8, 9, 10, 11, 12, 13, 14, 15] (by decide) rfl
        refine lv_aload_n hx hb d_Model_writeSymbol_77 rfl (lv_at hl 0 rfl) ?_
        refine lv_aload_n hx hb d_Model_writeSymbol_78 rfl (lv_at hl 0 rfl) ?_
        refine va_get (D := (dC, dI)) (ci := 7) (v := .ref (mo_a 6)) (C := R_Model) (T := T_Model) (N := 27) hx hb hts in_Model hown hK hP 0 rfl rfl 8 (by decide) (hts _ t_832) (fun _ h9 => h9) rfl d_Model_writeSymbol_79 ?_
        refine lv_iload_n hx hb d_Model_writeSymbol_82 rfl (lv_at hl 1 rfl) ?_
        obtain ⟨h_18, hf⟩ := gd_ex hf
        refine va_iald (f := Mo_dx mo_17) hx hb hK hP 6 0 rfl rfl (inb_in h_18) d_Model_writeSymbol_83 ?_
        refine lv_iconst (v := 4) hx hb d_Model_writeSymbol_84 (by decide) ?_
        refine lv_iadd hx hb d_Model_writeSymbol_85 ?_
        refine lv_iconst (v := 4) hx hb d_Model_writeSymbol_86 (by decide) ?_
        obtain ⟨mo_19, hf1, hf⟩ := bd_ex hf
        try dsimp only at hf
        have hPc := hP.sub (ws' := (wMo cI cZ cJ mo_a mo_17)) [0, 1, 2, 3, 4, 5, 6, 7, 8, 9, 10, 11, 12, 13, 14, 15] rfl
        have hDc := hD.sub (ws' := (wMo cI cZ cJ mo_a mo_17)) [0, 1, 2, 3, 4, 5, 6, 7, 8, 9, 10, 11, 12, 13, 14, 15] (by decide) rfl
        have hFc := va_free (wc := (wMo cI cZ cJ mo_a mo_17)) hD hS hA [0, 1, 2, 3, 4, 5, 6, 7, 8, 9, 10, 11, 12, 13, 14, 15] rfl
        refine va_callv (va_runV (As := [.int ((Mo_dx mo_17 x1.toNatClampNeg) + 4), .int 4]) (rest := []) ⟨hx, hb, hml, hown, hts⟩ (k_Model_emitBits l dC dI cI cZ cJ mo_a H.size hf1) (cwV 2 hts (gV t_978 t_980 t_31 t_63 t_981) rfl rfl rfl hd_Model_emitBits ⟨Nat.le_trans (Nat.le_of_ble_eq_true rfl) hRf, Nat.le_trans (Nat.le_of_ble_eq_true rfl) hRl⟩) ⟨kP_blind, va_recv hK hP (ci := 7) (q0 := 0) rfl rfl, kP_at hPc hK hDc hN⟩ rfl rfl hl.1 rfl (lv_room (Nat.le_of_ble_eq_true rfl)) d_Model_writeSymbol_87 hRc) hS (fun q _ h => hFc q h) hFc (fun u t H1 locs ht hvm hw hB hz1 hk1 hS => ?_)
        obtain ⟨hP, hD⟩ := kQ_join (wr := ([] : va_W)) (w1 := (wMo cI cZ cJ mo_a mo_19)) hP hD [0, 1, 2, 3, 4, 5, 6, 7, 8, 9, 10, 11, 12, 13, 14, 15] [] rfl rfl (by decide) (by decide) ht hk1 hFc hB
        generalize H1 = H at hP hS ⊢
        have hP : va_P (dC, dI) vwCl (wMo cI cZ cJ mo_a mo_19) H := hP.sub [0, 1, 2, 3, 4, 5, 6, 7, 8, 9, 10, 11, 12, 13, 14, 15] rfl
        have hD : va_D A (wMo cI cZ cJ mo_a mo_19) := hD.sub [0, 1, 2, 3, 4, 5, 6, 7, 8, 9, 10, 11, 12, 13, 14, 15] (by decide) rfl
        refine lv_aload_n hx hb d_Model_writeSymbol_90 rfl (lv_at hl 0 rfl) ?_
        refine lv_aload_n hx hb d_Model_writeSymbol_91 rfl (lv_at hl 0 rfl) ?_
        refine va_get (D := (dC, dI)) (ci := 7) (v := .ref (mo_a 7)) (C := R_Model) (T := T_Model) (N := 27) hx hb hts in_Model hown hK hP 0 rfl rfl 9 (by decide) (hts _ t_833) (fun _ h9 => h9) rfl d_Model_writeSymbol_92 ?_
        refine lv_iload_n hx hb d_Model_writeSymbol_95 rfl (lv_at hl 1 rfl) ?_
        obtain ⟨h_20, hf⟩ := gd_ex hf
        refine va_iald (f := Mo_dy mo_19) hx hb hK hP 7 0 rfl rfl (inb_in h_20) d_Model_writeSymbol_96 ?_
        refine lv_iconst (v := 4) hx hb d_Model_writeSymbol_97 (by decide) ?_
        refine lv_iadd hx hb d_Model_writeSymbol_98 ?_
        refine lv_iconst (v := 4) hx hb d_Model_writeSymbol_99 (by decide) ?_
        obtain ⟨mo_21, hf1, hf⟩ := bd_ex hf
        try dsimp only at hf
        have hPc := hP.sub (ws' := (wMo cI cZ cJ mo_a mo_19)) [0, 1, 2, 3, 4, 5, 6, 7, 8, 9, 10, 11, 12, 13, 14, 15] rfl
        have hDc := hD.sub (ws' := (wMo cI cZ cJ mo_a mo_19)) [0, 1, 2, 3, 4, 5, 6, 7, 8, 9, 10, 11, 12, 13, 14, 15] (by decide) rfl
        have hFc := va_free (wc := (wMo cI cZ cJ mo_a mo_19)) hD hS hA [0, 1, 2, 3, 4, 5, 6, 7, 8, 9, 10, 11, 12, 13, 14, 15] rfl
        refine va_callv (va_runV (As := [.int ((Mo_dy mo_19 x1.toNatClampNeg) + 4), .int 4]) (rest := []) ⟨hx, hb, hml, hown, hts⟩ (k_Model_emitBits l dC dI cI cZ cJ mo_a H.size hf1) (cwV 2 hts (gV t_978 t_980 t_31 t_63 t_981) rfl rfl rfl hd_Model_emitBits ⟨Nat.le_trans (Nat.le_of_ble_eq_true rfl) hRf, Nat.le_trans (Nat.le_of_ble_eq_true rfl) hRl⟩) ⟨kP_blind, va_recv hK hP (ci := 7) (q0 := 0) rfl rfl, kP_at hPc hK hDc hN⟩ rfl rfl hl.1 rfl (lv_room (Nat.le_of_ble_eq_true rfl)) d_Model_writeSymbol_100 hRc) hS (fun q _ h => hFc q h) hFc (fun u t H1 locs ht hvm hw hB hz1 hk1 hS => ?_)
        obtain ⟨hP, hD⟩ := kQ_join (wr := ([] : va_W)) (w1 := (wMo cI cZ cJ mo_a mo_21)) hP hD [0, 1, 2, 3, 4, 5, 6, 7, 8, 9, 10, 11, 12, 13, 14, 15] [] rfl rfl (by decide) (by decide) ht hk1 hFc hB
        generalize H1 = H at hP hS ⊢
        have hP : va_P (dC, dI) vwCl (wMo cI cZ cJ mo_a mo_21) H := hP.sub [0, 1, 2, 3, 4, 5, 6, 7, 8, 9, 10, 11, 12, 13, 14, 15] rfl
        have hD : va_D A (wMo cI cZ cJ mo_a mo_21) := hD.sub [0, 1, 2, 3, 4, 5, 6, 7, 8, 9, 10, 11, 12, 13, 14, 15] (by decide) rfl
        exact J103_10 _ _ _ mo_21 hP hD hS (lv_sub hl [0, 1] rfl) hf
    refine lv_if_eq (tgt := 43) hx hb d_Model_writeSymbol_36 (by decide) (fun c_22 => ?_) (fun c_22 => ?_)
    · rw [if_pos c_22] at hf
      refine lv_iconst (v := 0) hx hb d_Model_writeSymbol_43 (by decide) ?_
      exact J44_7 _ _ _ 0 hP hD hS (lv_sub hl [1, 2, 0] rfl) hf
    · rw [if_neg c_22] at hf
      refine lv_iconst (v := 1) hx hb d_Model_writeSymbol_39 (by decide) ?_
      refine lv_goto (tgt := 44) hx hb d_Model_writeSymbol_40 (by decide) ?_
      exact J44_7 _ _ _ 1 hP hD hS (lv_sub hl [1, 2, 0] rfl) hf
  refine lv_if_lt (tgt := 32) hx hb d_Model_writeSymbol_25 (by decide) (fun c_23 => ?_) (fun c_23 => ?_)
  · rw [if_pos c_23] at hf
    refine lv_iconst (v := 0) hx hb d_Model_writeSymbol_32 (by decide) ?_
    exact J33_5 _ _ _ 0 hP hD hS (lv_sub hl [0, 1] rfl) hf
  · rw [if_neg c_23] at hf
    refine lv_iconst (v := 1) hx hb d_Model_writeSymbol_28 (by decide) ?_
    refine lv_goto (tgt := 33) hx hb d_Model_writeSymbol_29 (by decide) ?_
    exact J33_5 _ _ _ 1 hP hD hS (lv_sub hl [0, 1] rfl) hf
end
set_option maxHeartbeats 4000000 in
set_option maxRecDepth 100000 in
theorem k_Model_writeSymbol (l : Launch) (dC : Nat → ClassId) (dI : Nat → Nat → Nat) (cI cZ cJ : ClassId) (mo_a : Nat → Nat) (sz : Nat) {mo : Mo} {x1 : Int32} {x2 : Int32} {mo' : Mo} (hf : f_Model_writeSymbol mo x1 x2 = some mo') :
    Met l y_Model_writeSymbol ws_Model_writeSymbol ({ frames := 5, cells := 0, slots := 0, locals := 117 }) (va_Pc [.ref (mo_a 0), .int x1, .int x2] (kP (dC, dI) vwCl (TYS cI cZ cJ) (wMo cI cZ cJ mo_a mo) sz)) (va_Qv (fun (_ : Unit) => True) (fun _ t => kQ (dC, dI) vwCl (TYS cI cZ cJ) (wMo cI cZ cJ mo_a mo) sz (wMo cI cZ cJ mo_a mo') t) (va_A (wMo cI cZ cJ mo_a mo) sz)) 0 0 (va_A (wMo cI cZ cJ mo_a mo) sz) := by
  refine Met.ofW (cc := c_Model_writeSymbol) (maxL := 4) (ret := none) (by decide) rfl ?_
  intro p e s m args below meth c s₁ B hml hv
  obtain ⟨rfl, hsz, hP, hK, hD0, hN⟩ := hv
  have hr := B.returns
  have hlocks := B.notSynchronized
  subst hsz
  have hD := hD0.self (sz := s.heap.size)
  have hl := lv_entry ([.ref (mo_a 0), .int x1, .int x2]) (n := 4) (Nat.le_of_ble_eq_true rfl)
  rw [lg_entry_eq]
  generalize (lg_sl ([.ref (mo_a 0), .int x1, .int x2]) ++ List.replicate (4 - (lg_sl ([.ref (mo_a 0), .int x1, .int x2])).length) Slot.unset).toArray = ls at hl ⊢
  refine B_Model_writeSymbol (A := va_A (wMo cI cZ cJ mo_a mo) s.heap.size) ⟨B.exec, B.bytes, hml, findClass_of_methodNamed B.named, fun w h => atoms_spec (ws := ws_Model_writeSymbol) B.pre w (List.mem_cons_of_mem _ h), hK, fun q h => Or.inr h, Nat.le_of_ble_eq_true rfl, Nat.le_of_ble_eq_true rfl, hN, Nat.le_of_ble_eq_true rfl, Nat.le_of_ble_eq_true rfl⟩ (fun H locs ls mo'1 hP hD hS hf => ?_) hP hD va_S.rf hl hf
  · cases hf
    exact W.vret B.exec B.bytes hr (fun t ht hW => ⟨⟨(), rfl, trivial, ⟨by rw [ht]; exact hP, va_K.moved hW.alike hK, hD⟩⟩, hS.F ht⟩) hS.2.2 d_Model_writeSymbol_108

/-! Model_write -/
def l_Model_write_21 (k58 : Mo → Option (Int32 × Mo)) : Nat → Mo → Int32 → Option (Int32 × Mo)
  | 0, _, _ => none
  | n + 1, mo, x1 => (if (Mo_n mo) ≤ x1 then k58 mo else bd (f_Model_placeOf mo x1) <| fun r_10 => gd (inb x1 40) <| lt' (Mo_s_pc mo (upd (Mo_pc mo) x1.toNatClampNeg r_10)) <| fun mo_12 => gd (inb x1 40) <| gd (inb (Mo_pc mo_12 x1.toNatClampNeg) 40) <| lt' (Mo_s_od mo_12 (upd (Mo_od mo_12) (Mo_pc mo_12 x1.toNatClampNeg).toNatClampNeg x1)) <| fun mo_16 => lt' (x1 + 1) <| fun x1_18 => (l_Model_write_21 k58 n) mo_16 x1_18)
def j_Model_write_182_34 (x2 : Int32) (rc70 : Mo → Int32 → Int32 → Option (Int32 × Mo)) (x1_29 : Int32) (mo_33 : Mo) : Option (Int32 × Mo) := bd (f_Model_emit mo_33 0 32768) <| fun mo_35 => lt' (x2 + 1) <| fun x2_36 => rc70 mo_35 x1_29 x2_36
def j_Model_write_152_32 (x2 : Int32) (rc70 : Mo → Int32 → Int32 → Option (Int32 × Mo)) (x3_24 : Int32) (mo_28 : Mo) (x1_29 : Int32) (z0_31 : Int32) : Option (Int32 × Mo) := bd (f_Model_writeSymbol mo_28 x3_24 z0_31) <| fun mo_33 => (if (x2 + 1) = (Mo_n mo_33) then j_Model_write_182_34 x2 rc70 x1_29 mo_33 else gd (inb (x2 + 1) 40) <| gd (inb (Mo_od mo_33 (x2 + 1).toNatClampNeg) 80) <| (if (Mo_ht mo_33 (Mo_od mo_33 (x2 + 1).toNatClampNeg).toNatClampNeg) = x1_29 then lt' (x2 + 1) <| fun x2_41 => rc70 mo_33 x1_29 x2_41 else j_Model_write_182_34 x2 rc70 x1_29 mo_33))
def j_Model_write_128_30 (x2 : Int32) (rc70 : Mo → Int32 → Int32 → Option (Int32 × Mo)) (x3_24 : Int32) (z0_26 : Int32) (mo_28 : Mo) (x1_29 : Int32) : Option (Int32 × Mo) := (if z0_26 = 0 then gd (inb (x2 - 1) 40) <| gd (inb (Mo_od mo_28 (x2 - 1).toNatClampNeg) 80) <| j_Model_write_152_32 x2 rc70 x3_24 mo_28 x1_29 (Mo_wd mo_28 (Mo_od mo_28 (x2 - 1).toNatClampNeg).toNatClampNeg) else j_Model_write_152_32 x2 rc70 x3_24 mo_28 x1_29 0)
def j_Model_write_100_27 (mo : Mo) (x1 : Int32) (x2 : Int32) (rc70 : Mo → Int32 → Int32 → Option (Int32 × Mo)) (x3_24 : Int32) (z0_26 : Int32) : Option (Int32 × Mo) := (if z0_26 = 0 then j_Model_write_128_30 x2 rc70 x3_24 z0_26 mo x1 else gd (inb x3_24 80) <| bd (f_Model_emitNumber mo (((Mo_ht mo x3_24.toNatClampNeg) - x1) - 1)) <| fun mo_47 => gd (inb x3_24 80) <| lt' (Mo_ht mo_47 x3_24.toNatClampNeg) <| fun x1_49 => j_Model_write_128_30 x2 rc70 x3_24 z0_26 mo_47 x1_49)
def l_Model_write_70 (k195 : Mo → Option (Int32 × Mo)) : Nat → Mo → Int32 → Int32 → Option (Int32 × Mo)
  | 0, _, _, _ => none
  | n + 1, mo, x1, x2 => (if (Mo_n mo) ≤ x2 then k195 mo else gd (inb x2 40) <| lt' (Mo_od mo x2.toNatClampNeg) <| fun x3_24 => gd (inb x3_24 80) <| (if (Mo_ht mo x3_24.toNatClampNeg) = x1 then j_Model_write_100_27 mo x1 x2 (l_Model_write_70 k195 n) x3_24 0 else j_Model_write_100_27 mo x1 x2 (l_Model_write_70 k195 n) x3_24 1))
def l_Model_write_210 (mo : Mo) (x2 : Int32) (x3 : Int32) (k245 : Int32 → Option (Int32 × Mo)) : Nat → Int32 → Option (Int32 × Mo)
  | 0, _ => none
  | n + 1, x4 => (if (Mo_n mo) ≤ (x2 + x4) then k245 x4 else gd (inb (x2 + x4) 40) <| gd (inb (Mo_od mo (x2 + x4).toNatClampNeg) 80) <| (if (Mo_ex mo (Mo_od mo (x2 + x4).toNatClampNeg).toNatClampNeg) = x3 then lt' (x4 + 1) <| fun x4_59 => (l_Model_write_210 mo x2 x3 k245 n) x4_59 else k245 x4))
def l_Model_write_199 (k269 : Mo → Option (Int32 × Mo)) : Nat → Mo → Int32 → Int32 → Option (Int32 × Mo)
  | 0, _, _, _ => none
  | n + 1, mo, x2, x3 => (if (Mo_n mo) ≤ x2 then k269 mo else l_Model_write_210 mo x2 x3 (fun x4_60 => bd (f_Model_emitNumber mo x4_60) <| fun mo_61 => lt' (x2 + x4_60) <| fun x2_62 => (if x3 = 0 then (l_Model_write_199 k269 n) mo_61 x2_62 1 else (l_Model_write_199 k269 n) mo_61 x2_62 0)) 100000 0)
def f_Model_write (mo : Mo) : Option (Int32 × Mo) := lt' (Mo_s_code mo 0) <| fun mo_1 => lt' (Mo_s_on mo_1 0) <| fun mo_3 => lt' (Mo_s_ob mo_3 0) <| fun mo_5 => bd (f_Model_beginBits mo_5) <| fun mo_7 => l_Model_write_21 (fun mo_19 => bd (f_Model_emitNumber mo_19 (Mo_n mo_19)) <| fun mo_20 => l_Model_write_70 (fun mo_51 => l_Model_write_199 (fun mo_64 => (if (Mo_kind mo_64) = 2 then bd (f_Model_outByte mo_64 (((Mo_lo mo_64) + 65535) >>> ((24 : Int32).toInt64 &&& 63))) <| fun mo_66 => bd (f_Model_outByte mo_66 (((Mo_lo mo_66) + 65535) >>> ((16 : Int32).toInt64 &&& 63))) <| fun mo_67 => some (Mo_on mo_67, mo_67) else some (Mo_on mo_64, mo_64))) 100000 mo_51 0 0) 100000 mo_20 0 0) 100000 mo_7 0
section
variable {p : Program} {l : Launch} {e : Env} {R : Room} {s : State} {m : MethodId} {args : Array Value} {below : List Frame} {meth : Method} {c : Code} {Q : State → Prop} {A : Nat → Prop}
set_option maxHeartbeats 4000000 in
set_option maxRecDepth 100000 in
theorem L_Model_write_21 {cells slots : Nat} {dC : Nat → ClassId} {dI : Nat → Nat → Nat} {cI cZ cJ : ClassId} {mo_a : Nat → Nat} {k58 : Mo → Option (Int32 × Mo)} {res : Int32 × Mo} (C0 : cxt p c m s args R cells slots R_Model c_Model_write tb 5 (dC, dI) vwCl (TYS cI cZ cJ) A 6 140)
    (hk58 : ∀ (H : Heap) (locs : List Loc) (ls : Array Slot) (mo_8 : Mo), va_P (dC, dI) vwCl (wMo cI cZ cJ mo_a mo_8) H → va_D A (wMo cI cZ cJ mo_a mo_8) → va_S A s.heap H locs → lv_has ls 5 [(0, .ref (mo_a 0))] → k58 mo_8 = some res → W p l e R s m args below meth c H locs cells slots Q (F0 m 58 ls [])) :
    ∀ (n : Nat) (H : Heap) (locs : List Loc) (ls : Array Slot) (mo : Mo) (x1 : Int32), va_P (dC, dI) vwCl (wMo cI cZ cJ mo_a mo) H → va_D A (wMo cI cZ cJ mo_a mo) → va_S A s.heap H locs → lv_has ls 5 [(0, .ref (mo_a 0)), (1, .int x1)] → l_Model_write_21 k58 n mo x1 = some res → W p l e R s m args below meth c H locs cells slots Q (F0 m 21 ls []) := by
  obtain ⟨hx, hb, hml, hown, hts, hK, hA, hRf, hRl, hN, hRc⟩ := id C0
  intro n
  induction n with
  | zero =>
    intro H locs ls mo x1 hP hD hS hl hf
    exact absurd hf (by simp [l_Model_write_21])
  | succ n ih =>
    intro H locs ls mo x1 hP hD hS hl hf
    rw [l_Model_write_21] at hf
    refine lv_iload_n hx hb d_Model_write_21 rfl (lv_at hl 1 rfl) ?_
    refine lv_aload_n hx hb d_Model_write_22 rfl (lv_at hl 0 rfl) ?_
    refine va_get (D := (dC, dI)) (ci := 7) (v := .int (Mo_n mo)) (C := R_Model) (T := T_Model) (N := 27) hx hb hts in_Model hown hK hP 0 rfl rfl 2 (by decide) (hts _ t_826) (fun _ h9 => h9) rfl d_Model_write_23 ?_
    refine lv_icmp_ge (tgt := 58) hx hb d_Model_write_26 (by decide) (fun c_9 => ?_) (fun c_9 => ?_)
    · rw [if_pos c_9] at hf
      exact hk58 _ _ _ mo hP hD hS (lv_sub hl [0] rfl) hf
    · rw [if_neg c_9] at hf
      refine lv_aload_n hx hb d_Model_write_29 rfl (lv_at hl 0 rfl) ?_
      refine va_get (D := (dC, dI)) (ci := 7) (v := .ref (mo_a 8)) (C := R_Model) (T := T_Model) (N := 27) hx hb hts in_Model hown hK hP 0 rfl rfl 10 (by decide) (hts _ t_834) (fun _ h9 => h9) rfl d_Model_write_30 ?_
      refine lv_iload_n hx hb d_Model_write_33 rfl (lv_at hl 1 rfl) ?_
      refine lv_aload_n hx hb d_Model_write_34 rfl (lv_at hl 0 rfl) ?_
      refine lv_iload_n hx hb d_Model_write_35 rfl (lv_at hl 1 rfl) ?_
      obtain ⟨r_10, hf1, hf⟩ := bd_ex hf
      try dsimp only at hf
      have hPc := hP.sub (ws' := (wMo cI cZ cJ mo_a mo)) [0, 1, 2, 3, 4, 5, 6, 7, 8, 9, 10, 11, 12, 13, 14, 15] rfl
      have hDc := hD.sub (ws' := (wMo cI cZ cJ mo_a mo)) [0, 1, 2, 3, 4, 5, 6, 7, 8, 9, 10, 11, 12, 13, 14, 15] (by decide) rfl
      have hFc := va_free (wc := (wMo cI cZ cJ mo_a mo)) hD hS hA [0, 1, 2, 3, 4, 5, 6, 7, 8, 9, 10, 11, 12, 13, 14, 15] rfl
      refine va_calli (va_runV (As := [.int x1]) (rest := [.int x1, .ref (mo_a 8)]) ⟨hx, hb, hml, hown, hts⟩ (k_Model_placeOf l dC dI cI cZ cJ mo_a H.size hf1) (cwV 1 hts (gV t_970 t_972 t_29 t_63 t_973) rfl rfl rfl hd_Model_placeOf ⟨Nat.le_trans (Nat.le_of_ble_eq_true rfl) hRf, Nat.le_trans (Nat.le_of_ble_eq_true rfl) hRl⟩) ⟨kP_blind, va_recv hK hP (ci := 7) (q0 := 0) rfl rfl, kP_at hPc hK hDc hN⟩ rfl rfl hl.1 rfl (lv_room (Nat.le_of_ble_eq_true rfl)) d_Model_write_36 hRc) hS (fun q _ h => hFc q h) hFc (fun r9 u t H1 locs ht hvm hw hB hz1 hk1 hS => ?_)
      rw [hw]
      obtain ⟨hP, hD⟩ := kQ_join (wr := ([] : va_W)) (w1 := (wMo cI cZ cJ mo_a mo)) hP hD [0, 1, 2, 3, 4, 5, 6, 7, 8, 9, 10, 11, 12, 13, 14, 15] [] rfl rfl (by decide) (by decide) ht hk1 hFc hB
      generalize H1 = H at hP hS ⊢
      have hP : va_P (dC, dI) vwCl (wMo cI cZ cJ mo_a mo) H := hP.sub [0, 1, 2, 3, 4, 5, 6, 7, 8, 9, 10, 11, 12, 13, 14, 15] rfl
      have hD : va_D A (wMo cI cZ cJ mo_a mo) := hD.sub [0, 1, 2, 3, 4, 5, 6, 7, 8, 9, 10, 11, 12, 13, 14, 15] (by decide) rfl
      obtain ⟨h_11, hf⟩ := gd_ex hf
      refine va_iast (f := Mo_pc mo) hx hb hK hP hD hS 8 0 rfl rfl (inb_in h_11) d_Model_write_39 (fun H locs hP hD hS => ?_)
      obtain ⟨mo_12, emo_12, hf⟩ := lt_ex hf
      try dsimp only at hf
      have hP : va_P (dC, dI) vwCl (wMo cI cZ cJ mo_a mo_12) H := by rw [emo_12]; exact hP
      have hD : va_D A (wMo cI cZ cJ mo_a mo_12) := by rw [emo_12]; exact hD
      refine lv_aload_n hx hb d_Model_write_40 rfl (lv_at hl 0 rfl) ?_
      refine va_get (D := (dC, dI)) (ci := 7) (v := .ref (mo_a 9)) (C := R_Model) (T := T_Model) (N := 27) hx hb hts in_Model hown hK hP 0 rfl rfl 11 (by decide) (hts _ t_835) (fun _ h9 => h9) rfl d_Model_write_41 ?_
      refine lv_aload_n hx hb d_Model_write_44 rfl (lv_at hl 0 rfl) ?_
      refine va_get (D := (dC, dI)) (ci := 7) (v := .ref (mo_a 8)) (C := R_Model) (T := T_Model) (N := 27) hx hb hts in_Model hown hK hP 0 rfl rfl 10 (by decide) (hts _ t_834) (fun _ h9 => h9) rfl d_Model_write_45 ?_
      refine lv_iload_n hx hb d_Model_write_48 rfl (lv_at hl 1 rfl) ?_
      obtain ⟨h_14, hf⟩ := gd_ex hf
      refine va_iald (f := Mo_pc mo_12) hx hb hK hP 8 0 rfl rfl (inb_in h_14) d_Model_write_49 ?_
      refine lv_iload_n hx hb d_Model_write_50 rfl (lv_at hl 1 rfl) ?_
      obtain ⟨h_15, hf⟩ := gd_ex hf
      refine va_iast (f := Mo_od mo_12) hx hb hK hP hD hS 9 0 rfl rfl (inb_in h_15) d_Model_write_51 (fun H locs hP hD hS => ?_)
      obtain ⟨mo_16, emo_16, hf⟩ := lt_ex hf
      try dsimp only at hf
      have hP : va_P (dC, dI) vwCl (wMo cI cZ cJ mo_a mo_16) H := by rw [emo_16]; exact hP
      have hD : va_D A (wMo cI cZ cJ mo_a mo_16) := by rw [emo_16]; exact hD
      obtain ⟨x1_18, ex1_18, hf⟩ := lt_ex hf
      try dsimp only at hf
      refine lv_iinc (v := x1_18) (lv' := [(1, .int x1_18), (0, .ref (mo_a 0))]) hx hb d_Model_write_52 hl (k := 1) rfl (by rw [ex1_18]; rfl) (by decide) rfl (fun ls hl => ?_)
      refine lv_goto (tgt := 21) hx hb d_Model_write_55 (by decide) ?_
      exact ih _ _ _ mo_16 x1_18 hP hD hS (lv_sub hl [1, 0] rfl) hf
set_option maxHeartbeats 4000000 in
set_option maxRecDepth 100000 in
theorem L_Model_write_70 {cells slots : Nat} {dC : Nat → ClassId} {dI : Nat → Nat → Nat} {cI cZ cJ : ClassId} {mo_a : Nat → Nat} {k195 : Mo → Option (Int32 × Mo)} {res : Int32 × Mo} (C0 : cxt p c m s args R cells slots R_Model c_Model_write tb 5 (dC, dI) vwCl (TYS cI cZ cJ) A 6 140)
    (hk195 : ∀ (H : Heap) (locs : List Loc) (ls : Array Slot) (mo_21 : Mo), va_P (dC, dI) vwCl (wMo cI cZ cJ mo_a mo_21) H → va_D A (wMo cI cZ cJ mo_a mo_21) → va_S A s.heap H locs → lv_has ls 5 [(0, .ref (mo_a 0))] → k195 mo_21 = some res → W p l e R s m args below meth c H locs cells slots Q (F0 m 195 ls [])) :
    ∀ (n : Nat) (H : Heap) (locs : List Loc) (ls : Array Slot) (mo : Mo) (x1 : Int32) (x2 : Int32), va_P (dC, dI) vwCl (wMo cI cZ cJ mo_a mo) H → va_D A (wMo cI cZ cJ mo_a mo) → va_S A s.heap H locs → lv_has ls 5 [(0, .ref (mo_a 0)), (1, .int x1), (2, .int x2)] → l_Model_write_70 k195 n mo x1 x2 = some res → W p l e R s m args below meth c H locs cells slots Q (F0 m 70 ls []) := by
  obtain ⟨hx, hb, hml, hown, hts, hK, hA, hRf, hRl, hN, hRc⟩ := id C0
  intro n
  induction n with
  | zero =>
    intro H locs ls mo x1 x2 hP hD hS hl hf
    exact absurd hf (by simp [l_Model_write_70])
  | succ n ih =>
    intro H locs ls mo x1 x2 hP hD hS hl hf
    rw [l_Model_write_70] at hf
    refine lv_iload_n hx hb d_Model_write_70 rfl (lv_at hl 2 rfl) ?_
    refine lv_aload_n hx hb d_Model_write_71 rfl (lv_at hl 0 rfl) ?_
    refine va_get (D := (dC, dI)) (ci := 7) (v := .int (Mo_n mo)) (C := R_Model) (T := T_Model) (N := 27) hx hb hts in_Model hown hK hP 0 rfl rfl 2 (by decide) (hts _ t_826) (fun _ h9 => h9) rfl d_Model_write_72 ?_
    refine lv_icmp_ge (tgt := 195) hx hb d_Model_write_75 (by decide) (fun c_22 => ?_) (fun c_22 => ?_)
    · rw [if_pos c_22] at hf
      exact hk195 _ _ _ mo hP hD hS (lv_sub hl [0] rfl) hf
    · rw [if_neg c_22] at hf
      refine lv_aload_n hx hb d_Model_write_78 rfl (lv_at hl 0 rfl) ?_
      refine va_get (D := (dC, dI)) (ci := 7) (v := .ref (mo_a 9)) (C := R_Model) (T := T_Model) (N := 27) hx hb hts in_Model hown hK hP 0 rfl rfl 11 (by decide) (hts _ t_835) (fun _ h9 => h9) rfl d_Model_write_79 ?_
      refine lv_iload_n hx hb d_Model_write_82 rfl (lv_at hl 2 rfl) ?_
      obtain ⟨h_23, hf⟩ := gd_ex hf
      refine va_iald (f := Mo_od mo) hx hb hK hP 9 0 rfl rfl (inb_in h_23) d_Model_write_83 ?_
      obtain ⟨x3_24, ex3_24, hf⟩ := lt_ex hf
      try dsimp only at hf
      refine tp_i ex3_24 ?_
      refine lv_istore_n (lv' := [(3, .int x3_24), (0, .ref (mo_a 0)), (1, .int x1), (2, .int x2)]) hx hb d_Model_write_84 rfl hl (by decide) rfl (fun ls hl => ?_)
      refine lv_aload_n hx hb d_Model_write_85 rfl (lv_at hl 1 rfl) ?_
      refine va_get (D := (dC, dI)) (ci := 7) (v := .ref (mo_a 2)) (C := R_Model) (T := T_Model) (N := 27) hx hb hts in_Model hown hK hP 0 rfl rfl 4 (by decide) (hts _ t_828) (fun _ h9 => h9) rfl d_Model_write_86 ?_
      refine lv_iload_n hx hb d_Model_write_89 rfl (lv_at hl 0 rfl) ?_
      obtain ⟨h_25, hf⟩ := gd_ex hf
      refine va_iald (f := Mo_ht mo) hx hb hK hP 2 0 rfl rfl (inb_in h_25) d_Model_write_90 ?_
      refine lv_iload_n hx hb d_Model_write_91 rfl (lv_at hl 2 rfl) ?_
      have J100_26 : ∀ (H : Heap) (locs : List Loc) (ls : Array Slot) (z0_26 : Int32), va_P (dC, dI) vwCl (wMo cI cZ cJ mo_a mo) H → va_D A (wMo cI cZ cJ mo_a mo) → va_S A s.heap H locs → lv_has ls 5 [(0, .ref (mo_a 0)), (1, .int x1), (2, .int x2), (3, .int x3_24)] → j_Model_write_100_27 mo x1 x2 (l_Model_write_70 k195 n) x3_24 z0_26 = some res → W p l e R s m args below meth c H locs cells slots Q (F0 m 100 ls [.int z0_26]) := by
        intro H locs ls z0_26 hP hD hS hl hf
        rw [j_Model_write_100_27] at hf
        refine lv_istore (lv' := [(4, .int z0_26), (0, .ref (mo_a 0)), (1, .int x1), (2, .int x2), (3, .int x3_24)]) hx hb d_Model_write_100 hl (by decide) rfl (fun ls hl => ?_)
        refine lv_iload hx hb d_Model_write_102 (lv_at hl 0 rfl) ?_
        have J128_29 : ∀ (H : Heap) (locs : List Loc) (ls : Array Slot) (mo_28 : Mo) (x1_29 : Int32), va_P (dC, dI) vwCl (wMo cI cZ cJ mo_a mo_28) H → va_D A (wMo cI cZ cJ mo_a mo_28) → va_S A s.heap H locs → lv_has ls 5 [(0, .ref (mo_a 0)), (1, .int x1_29), (2, .int x2), (3, .int x3_24), (4, .int z0_26)] → j_Model_write_128_30 x2 (l_Model_write_70 k195 n) x3_24 z0_26 mo_28 x1_29 = some res → W p l e R s m args below meth c H locs cells slots Q (F0 m 128 ls []) := by
          intro H locs ls mo_28 x1_29 hP hD hS hl hf
          rw [j_Model_write_128_30] at hf
          refine lv_aload_n hx hb d_Model_write_128 rfl (lv_at hl 0 rfl) ?_
          refine lv_iload_n hx hb d_Model_write_129 rfl (lv_at hl 3 rfl) ?_
          refine lv_iload hx hb d_Model_write_130 (lv_at hl 4 rfl) ?_
          have J152_31 : ∀ (H : Heap) (locs : List Loc) (ls : Array Slot) (z0_31 : Int32), va_P (dC, dI) vwCl (wMo cI cZ cJ mo_a mo_28) H → va_D A (wMo cI cZ cJ mo_a mo_28) → va_S A s.heap H locs → lv_has ls 5 [(0, .ref (mo_a 0)), (1, .int x1_29), (2, .int x2)] → j_Model_write_152_32 x2 (l_Model_write_70 k195 n) x3_24 mo_28 x1_29 z0_31 = some res → W p l e R s m args below meth c H locs cells slots Q (F0 m 152 ls [.int z0_31, .int x3_24, .ref (mo_a 0)]) := by
            intro H locs ls z0_31 hP hD hS hl hf
            rw [j_Model_write_152_32] at hf
            obtain ⟨mo_33, hf1, hf⟩ := bd_ex hf
            try dsimp only at hf
            have hPc := hP.sub (ws' := (wMo cI cZ cJ mo_a mo_28)) [0, 1, 2, 3, 4, 5, 6, 7, 8, 9, 10, 11, 12, 13, 14, 15] rfl
            have hDc := hD.sub (ws' := (wMo cI cZ cJ mo_a mo_28)) [0, 1, 2, 3, 4, 5, 6, 7, 8, 9, 10, 11, 12, 13, 14, 15] (by decide) rfl
            have hFc := va_free (wc := (wMo cI cZ cJ mo_a mo_28)) hD hS hA [0, 1, 2, 3, 4, 5, 6, 7, 8, 9, 10, 11, 12, 13, 14, 15] rfl
            refine va_callv (va_runV (As := [.int x3_24, .int z0_31]) (rest := []) ⟨hx, hb, hml, hown, hts⟩ (k_Model_writeSymbol l dC dI cI cZ cJ mo_a H.size hf1) (cwV 2 hts (gV t_1004 t_1006 t_37 t_63 t_1007) rfl rfl rfl hd_Model_writeSymbol ⟨Nat.le_trans (Nat.le_of_ble_eq_true rfl) hRf, Nat.le_trans (Nat.le_of_ble_eq_true rfl) hRl⟩) ⟨kP_blind, va_recv hK hP (ci := 7) (q0 := 0) rfl rfl, kP_at hPc hK hDc hN⟩ rfl rfl hl.1 rfl (lv_room (Nat.le_of_ble_eq_true rfl)) d_Model_write_152 hRc) hS (fun q _ h => hFc q h) hFc (fun u t H1 locs ht hvm hw hB hz1 hk1 hS => ?_)
            obtain ⟨hP, hD⟩ := kQ_join (wr := ([] : va_W)) (w1 := (wMo cI cZ cJ mo_a mo_33)) hP hD [0, 1, 2, 3, 4, 5, 6, 7, 8, 9, 10, 11, 12, 13, 14, 15] [] rfl rfl (by decide) (by decide) ht hk1 hFc hB
            generalize H1 = H at hP hS ⊢
            have hP : va_P (dC, dI) vwCl (wMo cI cZ cJ mo_a mo_33) H := hP.sub [0, 1, 2, 3, 4, 5, 6, 7, 8, 9, 10, 11, 12, 13, 14, 15] rfl
            have hD : va_D A (wMo cI cZ cJ mo_a mo_33) := hD.sub [0, 1, 2, 3, 4, 5, 6, 7, 8, 9, 10, 11, 12, 13, 14, 15] (by decide) rfl
            refine lv_iload_n hx hb d_Model_write_155 rfl (lv_at hl 2 rfl) ?_
            refine lv_iconst (v := 1) hx hb d_Model_write_156 (by decide) ?_
            refine lv_iadd hx hb d_Model_write_157 ?_
            refine lv_aload_n hx hb d_Model_write_158 rfl (lv_at hl 0 rfl) ?_
            refine va_get (D := (dC, dI)) (ci := 7) (v := .int (Mo_n mo_33)) (C := R_Model) (T := T_Model) (N := 27) hx hb hts in_Model hown hK hP 0 rfl rfl 2 (by decide) (hts _ t_826) (fun _ h9 => h9) rfl d_Model_write_159 ?_
            have J182_33 : ∀ (H : Heap) (locs : List Loc) (ls : Array Slot), va_P (dC, dI) vwCl (wMo cI cZ cJ mo_a mo_33) H → va_D A (wMo cI cZ cJ mo_a mo_33) → va_S A s.heap H locs → lv_has ls 5 [(0, .ref (mo_a 0)), (1, .int x1_29), (2, .int x2)] → j_Model_write_182_34 x2 (l_Model_write_70 k195 n) x1_29 mo_33 = some res → W p l e R s m args below meth c H locs cells slots Q (F0 m 182 ls []) := by
              intro H locs ls hP hD hS hl hf
              rw [j_Model_write_182_34] at hf
              refine lv_aload_n hx hb d_Model_write_182 rfl (lv_at hl 0 rfl) ?_
              refine lv_iconst (v := 0) hx hb d_Model_write_183 (by decide) ?_
              refine lv_ldc (v := 32768) hx hb hown (hts (.constant R_Model 101 32768) (by decide +kernel)) d_Model_write_184 ?_
              obtain ⟨mo_35, hf1, hf⟩ := bd_ex hf
              try dsimp only at hf
              have hPc := hP.sub (ws' := (wMo cI cZ cJ mo_a mo_33)) [0, 1, 2, 3, 4, 5, 6, 7, 8, 9, 10, 11, 12, 13, 14, 15] rfl
              have hDc := hD.sub (ws' := (wMo cI cZ cJ mo_a mo_33)) [0, 1, 2, 3, 4, 5, 6, 7, 8, 9, 10, 11, 12, 13, 14, 15] (by decide) rfl
              have hFc := va_free (wc := (wMo cI cZ cJ mo_a mo_33)) hD hS hA [0, 1, 2, 3, 4, 5, 6, 7, 8, 9, 10, 11, 12, 13, 14, 15] rfl
              refine va_callv (va_runV (As := [.int 0, .int 32768]) (rest := []) ⟨hx, hb, hml, hown, hts⟩ (k_Model_emit l dC dI cI cZ cJ mo_a H.size hf1) (cwV 2 hts (gV t_982 t_984 t_32 t_63 t_985) rfl rfl rfl hd_Model_emit ⟨Nat.le_trans (Nat.le_of_ble_eq_true rfl) hRf, Nat.le_trans (Nat.le_of_ble_eq_true rfl) hRl⟩) ⟨kP_blind, va_recv hK hP (ci := 7) (q0 := 0) rfl rfl, kP_at hPc hK hDc hN⟩ rfl rfl hl.1 rfl (lv_room (Nat.le_of_ble_eq_true rfl)) d_Model_write_186 hRc) hS (fun q _ h => hFc q h) hFc (fun u t H1 locs ht hvm hw hB hz1 hk1 hS => ?_)
              obtain ⟨hP, hD⟩ := kQ_join (wr := ([] : va_W)) (w1 := (wMo cI cZ cJ mo_a mo_35)) hP hD [0, 1, 2, 3, 4, 5, 6, 7, 8, 9, 10, 11, 12, 13, 14, 15] [] rfl rfl (by decide) (by decide) ht hk1 hFc hB
              generalize H1 = H at hP hS ⊢
              have hP : va_P (dC, dI) vwCl (wMo cI cZ cJ mo_a mo_35) H := hP.sub [0, 1, 2, 3, 4, 5, 6, 7, 8, 9, 10, 11, 12, 13, 14, 15] rfl
              have hD : va_D A (wMo cI cZ cJ mo_a mo_35) := hD.sub [0, 1, 2, 3, 4, 5, 6, 7, 8, 9, 10, 11, 12, 13, 14, 15] (by decide) rfl
              obtain ⟨x2_36, ex2_36, hf⟩ := lt_ex hf
              try dsimp only at hf
              refine lv_iinc (v := x2_36) (lv' := [(2, .int x2_36), (0, .ref (mo_a 0)), (1, .int x1_29)]) hx hb d_Model_write_189 hl (k := 2) rfl (by rw [ex2_36]; rfl) (by decide) rfl (fun ls hl => ?_)
              refine lv_goto (tgt := 70) hx hb d_Model_write_192 (by decide) ?_
              exact ih _ _ _ mo_35 x1_29 x2_36 hP hD hS (lv_sub hl [1, 2, 0] rfl) hf
            refine lv_icmp_eq (tgt := 182) hx hb d_Model_write_162 (by decide) (fun c_37 => ?_) (fun c_37 => ?_)
            · rw [if_pos c_37] at hf
              exact J182_33 _ _ _  hP hD hS (lv_sub hl [0, 1, 2] rfl) hf
            · rw [if_neg c_37] at hf
              refine lv_aload_n hx hb d_Model_write_165 rfl (lv_at hl 0 rfl) ?_
              refine va_get (D := (dC, dI)) (ci := 7) (v := .ref (mo_a 2)) (C := R_Model) (T := T_Model) (N := 27) hx hb hts in_Model hown hK hP 0 rfl rfl 4 (by decide) (hts _ t_828) (fun _ h9 => h9) rfl d_Model_write_166 ?_
              refine lv_aload_n hx hb d_Model_write_169 rfl (lv_at hl 0 rfl) ?_
              refine va_get (D := (dC, dI)) (ci := 7) (v := .ref (mo_a 9)) (C := R_Model) (T := T_Model) (N := 27) hx hb hts in_Model hown hK hP 0 rfl rfl 11 (by decide) (hts _ t_835) (fun _ h9 => h9) rfl d_Model_write_170 ?_
              refine lv_iload_n hx hb d_Model_write_173 rfl (lv_at hl 2 rfl) ?_
              refine lv_iconst (v := 1) hx hb d_Model_write_174 (by decide) ?_
              refine lv_iadd hx hb d_Model_write_175 ?_
              obtain ⟨h_38, hf⟩ := gd_ex hf
              refine va_iald (f := Mo_od mo_33) hx hb hK hP 9 0 rfl rfl (inb_in h_38) d_Model_write_176 ?_
              obtain ⟨h_39, hf⟩ := gd_ex hf
              refine va_iald (f := Mo_ht mo_33) hx hb hK hP 2 0 rfl rfl (inb_in h_39) d_Model_write_177 ?_
              refine lv_iload_n hx hb d_Model_write_178 rfl (lv_at hl 1 rfl) ?_
              refine lv_icmp_eq (tgt := 189) hx hb d_Model_write_179 (by decide) (fun c_40 => ?_) (fun c_40 => ?_)
              · rw [if_pos c_40] at hf
                obtain ⟨x2_41, ex2_41, hf⟩ := lt_ex hf
                try dsimp only at hf
                refine lv_iinc (v := x2_41) (lv' := [(2, .int x2_41), (0, .ref (mo_a 0)), (1, .int x1_29)]) hx hb d_Model_write_189 hl (k := 2) rfl (by rw [ex2_41]; rfl) (by decide) rfl (fun ls hl => ?_)
                refine lv_goto (tgt := 70) hx hb d_Model_write_192 (by decide) ?_
                exact ih _ _ _ mo_33 x1_29 x2_41 hP hD hS (lv_sub hl [1, 2, 0] rfl) hf
              · rw [if_neg c_40] at hf
                exact J182_33 _ _ _  hP hD hS (lv_sub hl [0, 1, 2] rfl) hf
          refine lv_if_eq (tgt := 139) hx hb d_Model_write_132 (by decide) (fun c_42 => ?_) (fun c_42 => ?_)
          · rw [if_pos c_42] at hf
            refine lv_aload_n hx hb d_Model_write_139 rfl (lv_at hl 0 rfl) ?_
            refine va_get (D := (dC, dI)) (ci := 7) (v := .ref (mo_a 1)) (C := R_Model) (T := T_Model) (N := 27) hx hb hts in_Model hown hK hP 0 rfl rfl 3 (by decide) (hts _ t_827) (fun _ h9 => h9) rfl d_Model_write_140 ?_
            refine lv_aload_n hx hb d_Model_write_143 rfl (lv_at hl 0 rfl) ?_
            refine va_get (D := (dC, dI)) (ci := 7) (v := .ref (mo_a 9)) (C := R_Model) (T := T_Model) (N := 27) hx hb hts in_Model hown hK hP 0 rfl rfl 11 (by decide) (hts _ t_835) (fun _ h9 => h9) rfl d_Model_write_144 ?_
            refine lv_iload_n hx hb d_Model_write_147 rfl (lv_at hl 2 rfl) ?_
            refine lv_iconst (v := 1) hx hb d_Model_write_148 (by decide) ?_
            refine lv_isub hx hb d_Model_write_149 ?_
            obtain ⟨h_43, hf⟩ := gd_ex hf
            refine va_iald (f := Mo_od mo_28) hx hb hK hP 9 0 rfl rfl (inb_in h_43) d_Model_write_150 ?_
            obtain ⟨h_44, hf⟩ := gd_ex hf
            refine va_iald (f := Mo_wd mo_28) hx hb hK hP 1 0 rfl rfl (inb_in h_44) d_Model_write_151 ?_
            exact J152_31 _ _ _ (Mo_wd mo_28 (Mo_od mo_28 (x2 - 1).toNatClampNeg).toNatClampNeg) hP hD hS (lv_sub hl [0, 1, 2] rfl) hf
          · rw [if_neg c_42] at hf
            refine lv_iconst (v := 0) hx hb d_Model_write_135 (by decide) ?_
            refine lv_goto (tgt := 152) hx hb d_Model_write_136 (by decide) ?_
            exact J152_31 _ _ _ 0 hP hD hS (lv_sub hl [0, 1, 2] rfl) hf
        refine lv_if_eq (tgt := 128) hx hb d_Model_write_104 (by decide) (fun c_45 => ?_) (fun c_45 => ?_)
        · rw [if_pos c_45] at hf
          exact J128_29 _ _ _ mo x1 hP hD hS (lv_sub hl [1, 2, 3, 4, 0] rfl) hf
        · rw [if_neg c_45] at hf
          refine lv_aload_n hx hb d_Model_write_107 rfl (lv_at hl 1 rfl) ?_
          refine lv_aload_n hx hb d_Model_write_108 rfl (lv_at hl 1 rfl) ?_
          refine va_get (D := (dC, dI)) (ci := 7) (v := .ref (mo_a 2)) (C := R_Model) (T := T_Model) (N := 27) hx hb hts in_Model hown hK hP 0 rfl rfl 4 (by decide) (hts _ t_828) (fun _ h9 => h9) rfl d_Model_write_109 ?_
          refine lv_iload_n hx hb d_Model_write_112 rfl (lv_at hl 4 rfl) ?_
          obtain ⟨h_46, hf⟩ := gd_ex hf
          refine va_iald (f := Mo_ht mo) hx hb hK hP 2 0 rfl rfl (inb_in h_46) d_Model_write_113 ?_
          refine lv_iload_n hx hb d_Model_write_114 rfl (lv_at hl 2 rfl) ?_
          refine lv_isub hx hb d_Model_write_115 ?_
          refine lv_iconst (v := 1) hx hb d_Model_write_116 (by decide) ?_
          refine lv_isub hx hb d_Model_write_117 ?_
          obtain ⟨mo_47, hf1, hf⟩ := bd_ex hf
          try dsimp only at hf
          have hPc := hP.sub (ws' := (wMo cI cZ cJ mo_a mo)) [0, 1, 2, 3, 4, 5, 6, 7, 8, 9, 10, 11, 12, 13, 14, 15] rfl
          have hDc := hD.sub (ws' := (wMo cI cZ cJ mo_a mo)) [0, 1, 2, 3, 4, 5, 6, 7, 8, 9, 10, 11, 12, 13, 14, 15] (by decide) rfl
          have hFc := va_free (wc := (wMo cI cZ cJ mo_a mo)) hD hS hA [0, 1, 2, 3, 4, 5, 6, 7, 8, 9, 10, 11, 12, 13, 14, 15] rfl
          refine va_callv (va_runV (As := [.int (((Mo_ht mo x3_24.toNatClampNeg) - x1) - 1)]) (rest := []) ⟨hx, hb, hml, hown, hts⟩ (k_Model_emitNumber l dC dI cI cZ cJ mo_a H.size hf1) (cwV 1 hts (gV t_974 t_976 t_30 t_63 t_977) rfl rfl rfl hd_Model_emitNumber ⟨Nat.le_trans (Nat.le_of_ble_eq_true rfl) hRf, Nat.le_trans (Nat.le_of_ble_eq_true rfl) hRl⟩) ⟨kP_blind, va_recv hK hP (ci := 7) (q0 := 0) rfl rfl, kP_at hPc hK hDc hN⟩ rfl rfl hl.1 rfl (lv_room (Nat.le_of_ble_eq_true rfl)) d_Model_write_118 hRc) hS (fun q _ h => hFc q h) hFc (fun u t H1 locs ht hvm hw hB hz1 hk1 hS => ?_)
          obtain ⟨hP, hD⟩ := kQ_join (wr := ([] : va_W)) (w1 := (wMo cI cZ cJ mo_a mo_47)) hP hD [0, 1, 2, 3, 4, 5, 6, 7, 8, 9, 10, 11, 12, 13, 14, 15] [] rfl rfl (by decide) (by decide) ht hk1 hFc hB
          generalize H1 = H at hP hS ⊢
          have hP : va_P (dC, dI) vwCl (wMo cI cZ cJ mo_a mo_47) H := hP.sub [0, 1, 2, 3, 4, 5, 6, 7, 8, 9, 10, 11, 12, 13, 14, 15] rfl
          have hD : va_D A (wMo cI cZ cJ mo_a mo_47) := hD.sub [0, 1, 2, 3, 4, 5, 6, 7, 8, 9, 10, 11, 12, 13, 14, 15] (by decide) rfl
          refine lv_aload_n hx hb d_Model_write_121 rfl (lv_at hl 1 rfl) ?_
          refine va_get (D := (dC, dI)) (ci := 7) (v := .ref (mo_a 2)) (C := R_Model) (T := T_Model) (N := 27) hx hb hts in_Model hown hK hP 0 rfl rfl 4 (by decide) (hts _ t_828) (fun _ h9 => h9) rfl d_Model_write_122 ?_
          refine lv_iload_n hx hb d_Model_write_125 rfl (lv_at hl 4 rfl) ?_
          obtain ⟨h_48, hf⟩ := gd_ex hf
          refine va_iald (f := Mo_ht mo_47) hx hb hK hP 2 0 rfl rfl (inb_in h_48) d_Model_write_126 ?_
          obtain ⟨x1_49, ex1_49, hf⟩ := lt_ex hf
          try dsimp only at hf
          refine tp_i ex1_49 ?_
          refine lv_istore_n (lv' := [(1, .int x1_49), (4, .int z0_26), (0, .ref (mo_a 0)), (2, .int x2), (3, .int x3_24)]) hx hb d_Model_write_127 rfl hl (by decide) rfl (fun ls hl => ?_)
          exact J128_29 _ _ _ mo_47 x1_49 hP hD hS (lv_sub hl [2, 0, 3, 4, 1] rfl) hf
      refine lv_icmp_eq (tgt := 99) hx hb d_Model_write_92 (by decide) (fun c_50 => ?_) (fun c_50 => ?_)
      · rw [if_pos c_50] at hf
        refine lv_iconst (v := 0) hx hb d_Model_write_99 (by decide) ?_
        exact J100_26 _ _ _ 0 hP hD hS (lv_sub hl [1, 2, 3, 0] rfl) hf
      · rw [if_neg c_50] at hf
        refine lv_iconst (v := 1) hx hb d_Model_write_95 (by decide) ?_
        refine lv_goto (tgt := 100) hx hb d_Model_write_96 (by decide) ?_
        exact J100_26 _ _ _ 1 hP hD hS (lv_sub hl [1, 2, 3, 0] rfl) hf
set_option maxHeartbeats 4000000 in
set_option maxRecDepth 100000 in
theorem L_Model_write_210 {cells slots : Nat} {dC : Nat → ClassId} {dI : Nat → Nat → Nat} {cI cZ cJ : ClassId} {mo_a : Nat → Nat} {mo : Mo} {x2 : Int32} {x3 : Int32} {k245 : Int32 → Option (Int32 × Mo)} {res : Int32 × Mo} (C0 : cxt p c m s args R cells slots R_Model c_Model_write tb 5 (dC, dI) vwCl (TYS cI cZ cJ) A 6 140)
    (hk245 : ∀ (H : Heap) (locs : List Loc) (ls : Array Slot) (x4_54 : Int32), va_P (dC, dI) vwCl (wMo cI cZ cJ mo_a mo) H → va_D A (wMo cI cZ cJ mo_a mo) → va_S A s.heap H locs → lv_has ls 5 [(0, .ref (mo_a 0)), (2, .int x2), (3, .int x3), (4, .int x4_54)] → k245 x4_54 = some res → W p l e R s m args below meth c H locs cells slots Q (F0 m 245 ls [])) :
    ∀ (n : Nat) (H : Heap) (locs : List Loc) (ls : Array Slot) (x4 : Int32), va_P (dC, dI) vwCl (wMo cI cZ cJ mo_a mo) H → va_D A (wMo cI cZ cJ mo_a mo) → va_S A s.heap H locs → lv_has ls 5 [(0, .ref (mo_a 0)), (2, .int x2), (3, .int x3), (4, .int x4)] → l_Model_write_210 mo x2 x3 k245 n x4 = some res → W p l e R s m args below meth c H locs cells slots Q (F0 m 210 ls []) := by
  obtain ⟨hx, hb, hml, hown, hts, hK, hA, hRf, hRl, hN, hRc⟩ := id C0
  intro n
  induction n with
  | zero =>
    intro H locs ls x4 hP hD hS hl hf
    exact absurd hf (by simp [l_Model_write_210])
  | succ n ih =>
    intro H locs ls x4 hP hD hS hl hf
    rw [l_Model_write_210] at hf
    refine lv_iload_n hx hb d_Model_write_210 rfl (lv_at hl 1 rfl) ?_
    refine lv_iload hx hb d_Model_write_211 (lv_at hl 3 rfl) ?_
    refine lv_iadd hx hb d_Model_write_213 ?_
    refine lv_aload_n hx hb d_Model_write_214 rfl (lv_at hl 0 rfl) ?_
    refine va_get (D := (dC, dI)) (ci := 7) (v := .int (Mo_n mo)) (C := R_Model) (T := T_Model) (N := 27) hx hb hts in_Model hown hK hP 0 rfl rfl 2 (by decide) (hts _ t_826) (fun _ h9 => h9) rfl d_Model_write_215 ?_
    refine lv_icmp_ge (tgt := 245) hx hb d_Model_write_218 (by decide) (fun c_55 => ?_) (fun c_55 => ?_)
    · rw [if_pos c_55] at hf
      exact hk245 _ _ _ x4 hP hD hS (lv_sub hl [0, 1, 2, 3] rfl) hf
    · rw [if_neg c_55] at hf
      refine lv_aload_n hx hb d_Model_write_221 rfl (lv_at hl 0 rfl) ?_
      refine va_get (D := (dC, dI)) (ci := 7) (v := .ref (mo_a 4)) (C := R_Model) (T := T_Model) (N := 27) hx hb hts in_Model hown hK hP 0 rfl rfl 6 (by decide) (hts _ t_830) (fun _ h9 => h9) rfl d_Model_write_222 ?_
      refine lv_aload_n hx hb d_Model_write_225 rfl (lv_at hl 0 rfl) ?_
      refine va_get (D := (dC, dI)) (ci := 7) (v := .ref (mo_a 9)) (C := R_Model) (T := T_Model) (N := 27) hx hb hts in_Model hown hK hP 0 rfl rfl 11 (by decide) (hts _ t_835) (fun _ h9 => h9) rfl d_Model_write_226 ?_
      refine lv_iload_n hx hb d_Model_write_229 rfl (lv_at hl 1 rfl) ?_
      refine lv_iload hx hb d_Model_write_230 (lv_at hl 3 rfl) ?_
      refine lv_iadd hx hb d_Model_write_232 ?_
      obtain ⟨h_56, hf⟩ := gd_ex hf
      refine va_iald (f := Mo_od mo) hx hb hK hP 9 0 rfl rfl (inb_in h_56) d_Model_write_233 ?_
      obtain ⟨h_57, hf⟩ := gd_ex hf
      refine va_zald (f := Mo_ex mo) hx hb hK hP 4 1 rfl rfl (inb_in h_57) d_Model_write_234 ?_
      refine lv_iload_n hx hb d_Model_write_235 rfl (lv_at hl 2 rfl) ?_
      refine lv_icmp_ne (tgt := 245) hx hb d_Model_write_236 (by decide) (fun c_58 => ?_) (fun c_58 => ?_)
      · rw [if_neg c_58] at hf
        exact hk245 _ _ _ x4 hP hD hS (lv_sub hl [0, 1, 2, 3] rfl) hf
      · rw [if_pos c_58] at hf
        obtain ⟨x4_59, ex4_59, hf⟩ := lt_ex hf
        try dsimp only at hf
        refine lv_iinc (v := x4_59) (lv' := [(4, .int x4_59), (0, .ref (mo_a 0)), (2, .int x2), (3, .int x3)]) hx hb d_Model_write_239 hl (k := 3) rfl (by rw [ex4_59]; rfl) (by decide) rfl (fun ls hl => ?_)
        refine lv_goto (tgt := 210) hx hb d_Model_write_242 (by decide) ?_
        exact ih _ _ _ x4_59 hP hD hS (lv_sub hl [1, 2, 3, 0] rfl) hf
set_option maxHeartbeats 4000000 in
set_option maxRecDepth 100000 in
theorem L_Model_write_199 {cells slots : Nat} {dC : Nat → ClassId} {dI : Nat → Nat → Nat} {cI cZ cJ : ClassId} {mo_a : Nat → Nat} {k269 : Mo → Option (Int32 × Mo)} {res : Int32 × Mo} (C0 : cxt p c m s args R cells slots R_Model c_Model_write tb 5 (dC, dI) vwCl (TYS cI cZ cJ) A 6 140)
    (hk269 : ∀ (H : Heap) (locs : List Loc) (ls : Array Slot) (mo_52 : Mo), va_P (dC, dI) vwCl (wMo cI cZ cJ mo_a mo_52) H → va_D A (wMo cI cZ cJ mo_a mo_52) → va_S A s.heap H locs → lv_has ls 5 [(0, .ref (mo_a 0))] → k269 mo_52 = some res → W p l e R s m args below meth c H locs cells slots Q (F0 m 269 ls [])) :
    ∀ (n : Nat) (H : Heap) (locs : List Loc) (ls : Array Slot) (mo : Mo) (x2 : Int32) (x3 : Int32), va_P (dC, dI) vwCl (wMo cI cZ cJ mo_a mo) H → va_D A (wMo cI cZ cJ mo_a mo) → va_S A s.heap H locs → lv_has ls 5 [(0, .ref (mo_a 0)), (2, .int x2), (3, .int x3)] → l_Model_write_199 k269 n mo x2 x3 = some res → W p l e R s m args below meth c H locs cells slots Q (F0 m 199 ls []) := by
  obtain ⟨hx, hb, hml, hown, hts, hK, hA, hRf, hRl, hN, hRc⟩ := id C0
  intro n
  induction n with
  | zero =>
    intro H locs ls mo x2 x3 hP hD hS hl hf
    exact absurd hf (by simp [l_Model_write_199])
  | succ n ih =>
    intro H locs ls mo x2 x3 hP hD hS hl hf
    rw [l_Model_write_199] at hf
    refine lv_iload_n hx hb d_Model_write_199 rfl (lv_at hl 1 rfl) ?_
    refine lv_aload_n hx hb d_Model_write_200 rfl (lv_at hl 0 rfl) ?_
    refine va_get (D := (dC, dI)) (ci := 7) (v := .int (Mo_n mo)) (C := R_Model) (T := T_Model) (N := 27) hx hb hts in_Model hown hK hP 0 rfl rfl 2 (by decide) (hts _ t_826) (fun _ h9 => h9) rfl d_Model_write_201 ?_
    refine lv_icmp_ge (tgt := 269) hx hb d_Model_write_204 (by decide) (fun c_53 => ?_) (fun c_53 => ?_)
    · rw [if_pos c_53] at hf
      exact hk269 _ _ _ mo hP hD hS (lv_sub hl [0] rfl) hf
    · rw [if_neg c_53] at hf
      refine lv_iconst (v := 0) hx hb d_Model_write_207 (by decide) ?_
      refine lv_istore (lv' := [(4, .int 0), (0, .ref (mo_a 0)), (2, .int x2), (3, .int x3)]) hx hb d_Model_write_208 hl (by decide) rfl (fun ls hl => ?_)
      refine L_Model_write_210 C0 (fun H locs ls x4_60 hP hD hS hl hf => ?_) 100000 _ _ _ 0 hP hD hS (lv_sub hl [1, 2, 3, 0] rfl) hf
      try dsimp only at hf
      refine lv_aload_n hx hb d_Model_write_245 rfl (lv_at hl 0 rfl) ?_
      refine lv_iload hx hb d_Model_write_246 (lv_at hl 3 rfl) ?_
      obtain ⟨mo_61, hf1, hf⟩ := bd_ex hf
      try dsimp only at hf
      have hPc := hP.sub (ws' := (wMo cI cZ cJ mo_a mo)) [0, 1, 2, 3, 4, 5, 6, 7, 8, 9, 10, 11, 12, 13, 14, 15] rfl
      have hDc := hD.sub (ws' := (wMo cI cZ cJ mo_a mo)) [0, 1, 2, 3, 4, 5, 6, 7, 8, 9, 10, 11, 12, 13, 14, 15] (by decide) rfl
      have hFc := va_free (wc := (wMo cI cZ cJ mo_a mo)) hD hS hA [0, 1, 2, 3, 4, 5, 6, 7, 8, 9, 10, 11, 12, 13, 14, 15] rfl
      refine va_callv (va_runV (As := [.int x4_60]) (rest := []) ⟨hx, hb, hml, hown, hts⟩ (k_Model_emitNumber l dC dI cI cZ cJ mo_a H.size hf1) (cwV 1 hts (gV t_974 t_976 t_30 t_63 t_977) rfl rfl rfl hd_Model_emitNumber ⟨Nat.le_trans (Nat.le_of_ble_eq_true rfl) hRf, Nat.le_trans (Nat.le_of_ble_eq_true rfl) hRl⟩) ⟨kP_blind, va_recv hK hP (ci := 7) (q0 := 0) rfl rfl, kP_at hPc hK hDc hN⟩ rfl rfl hl.1 rfl (lv_room (Nat.le_of_ble_eq_true rfl)) d_Model_write_248 hRc) hS (fun q _ h => hFc q h) hFc (fun u t H1 locs ht hvm hw hB hz1 hk1 hS => ?_)
      obtain ⟨hP, hD⟩ := kQ_join (wr := ([] : va_W)) (w1 := (wMo cI cZ cJ mo_a mo_61)) hP hD [0, 1, 2, 3, 4, 5, 6, 7, 8, 9, 10, 11, 12, 13, 14, 15] [] rfl rfl (by decide) (by decide) ht hk1 hFc hB
      generalize H1 = H at hP hS ⊢
      have hP : va_P (dC, dI) vwCl (wMo cI cZ cJ mo_a mo_61) H := hP.sub [0, 1, 2, 3, 4, 5, 6, 7, 8, 9, 10, 11, 12, 13, 14, 15] rfl
      have hD : va_D A (wMo cI cZ cJ mo_a mo_61) := hD.sub [0, 1, 2, 3, 4, 5, 6, 7, 8, 9, 10, 11, 12, 13, 14, 15] (by decide) rfl
      refine lv_iload_n hx hb d_Model_write_251 rfl (lv_at hl 1 rfl) ?_
      refine lv_iload hx hb d_Model_write_252 (lv_at hl 3 rfl) ?_
      refine lv_iadd hx hb d_Model_write_254 ?_
      obtain ⟨x2_62, ex2_62, hf⟩ := lt_ex hf
      try dsimp only at hf
      refine tp_i ex2_62 ?_
      refine lv_istore_n (lv' := [(2, .int x2_62), (0, .ref (mo_a 0)), (3, .int x3), (4, .int x4_60)]) hx hb d_Model_write_255 rfl hl (by decide) rfl (fun ls hl => ?_)
      refine lv_iload_n hx hb d_Model_write_256 rfl (lv_at hl 2 rfl) ?_
      refine lv_if_ne (tgt := 264) hx hb d_Model_write_257 (by decide) (fun c_63 => ?_) (fun c_63 => ?_)
      · rw [if_neg c_63] at hf
        refine lv_iconst (v := 0) hx hb d_Model_write_264 (by decide) ?_
        refine lv_istore_n (lv' := [(3, .int 0), (2, .int x2_62), (0, .ref (mo_a 0)), (4, .int x4_60)]) hx hb d_Model_write_265 rfl hl (by decide) rfl (fun ls hl => ?_)
        refine lv_goto (tgt := 199) hx hb d_Model_write_266 (by decide) ?_
        exact ih _ _ _ mo_61 x2_62 0 hP hD hS (lv_sub hl [2, 1, 0] rfl) hf
      · rw [if_pos c_63] at hf
        refine lv_iconst (v := 1) hx hb d_Model_write_260 (by decide) ?_
        refine lv_goto (tgt := 265) hx hb d_Model_write_261 (by decide) ?_
        refine lv_istore_n (lv' := [(3, .int 1), (2, .int x2_62), (0, .ref (mo_a 0)), (4, .int x4_60)]) hx hb d_Model_write_265 rfl hl (by decide) rfl (fun ls hl => ?_)
        refine lv_goto (tgt := 199) hx hb d_Model_write_266 (by decide) ?_
        exact ih _ _ _ mo_61 x2_62 1 hP hD hS (lv_sub hl [2, 1, 0] rfl) hf
set_option maxHeartbeats 4000000 in
set_option maxRecDepth 100000 in
theorem B_Model_write {cells slots : Nat} {dC : Nat → ClassId} {dI : Nat → Nat → Nat} {cI cZ cJ : ClassId} {mo_a : Nat → Nat} {mo : Mo} {res : Int32 × Mo} (C0 : cxt p c m s args R cells slots R_Model c_Model_write tb 5 (dC, dI) vwCl (TYS cI cZ cJ) A 6 140)
    (hr311 : ∀ (H : Heap) (locs : List Loc) (ls : Array Slot) (v : Int32) (mo' : Mo), va_P (dC, dI) vwCl (wMo cI cZ cJ mo_a mo') H → va_D A (wMo cI cZ cJ mo_a mo') → va_S A s.heap H locs → some (v, mo') = some res → W p l e R s m args below meth c H locs cells slots Q (F0 m 311 ls [.int v]))
    {H : Heap} {locs : List Loc} {ls : Array Slot} (hP : va_P (dC, dI) vwCl (wMo cI cZ cJ mo_a mo) H) (hD : va_D A (wMo cI cZ cJ mo_a mo)) (hS : va_S A s.heap H locs) (hl : lv_has ls 5 [(0, .ref (mo_a 0))]) (hf : f_Model_write mo = some res) : W p l e R s m args below meth c H locs cells slots Q (F0 m 0 ls []) := by
  obtain ⟨hx, hb, hml, hown, hts, hK, hA, hRf, hRl, hN, hRc⟩ := id C0
  rw [f_Model_write] at hf
  refine lv_aload_n hx hb d_Model_write_0 rfl (lv_at hl 0 rfl) ?_
  refine lv_iconst (v := 0) hx hb d_Model_write_1 (by decide) ?_
  refine va_put (D := (dC, dI)) (ci := 7) (v := .int 0) (ty := .int) (C := R_Model) (T := T_Model) (N := 27) hx hb hts in_Model ty_Model tyok_Model nm_Model hown hK hP hD hS 0 rfl rfl 0 (by decide) (hts _ t_824) (fun _ h9 => h9) rfl (by decide +kernel) rfl rfl (Nat.le_of_ble_eq_true rfl) d_Model_write_2 (fun H locs hP hD hS => ?_)
  obtain ⟨mo_1, emo_1, hf⟩ := lt_ex hf
  try dsimp only at hf
  have hP : va_P (dC, dI) vwCl (wMo cI cZ cJ mo_a mo_1) H := by rw [emo_1]; exact hP
  have hD : va_D A (wMo cI cZ cJ mo_a mo_1) := by rw [emo_1]; exact hD
  refine lv_aload_n hx hb d_Model_write_5 rfl (lv_at hl 0 rfl) ?_
  refine lv_iconst (v := 0) hx hb d_Model_write_6 (by decide) ?_
  refine va_put (D := (dC, dI)) (ci := 7) (v := .int 0) (ty := .int) (C := R_Model) (T := T_Model) (N := 27) hx hb hts in_Model ty_Model tyok_Model nm_Model hown hK hP hD hS 0 rfl rfl 15 (by decide) (hts _ t_839) (fun _ h9 => h9) rfl (by decide +kernel) rfl rfl (Nat.le_of_ble_eq_true rfl) d_Model_write_7 (fun H locs hP hD hS => ?_)
  obtain ⟨mo_3, emo_3, hf⟩ := lt_ex hf
  try dsimp only at hf
  have hP : va_P (dC, dI) vwCl (wMo cI cZ cJ mo_a mo_3) H := by rw [emo_3]; exact hP
  have hD : va_D A (wMo cI cZ cJ mo_a mo_3) := by rw [emo_3]; exact hD
  refine lv_aload_n hx hb d_Model_write_10 rfl (lv_at hl 0 rfl) ?_
  refine lv_iconst (v := 0) hx hb d_Model_write_11 (by decide) ?_
  refine va_put (D := (dC, dI)) (ci := 7) (v := .int 0) (ty := .int) (C := R_Model) (T := T_Model) (N := 27) hx hb hts in_Model ty_Model tyok_Model nm_Model hown hK hP hD hS 0 rfl rfl 16 (by decide) (hts _ t_840) (fun _ h9 => h9) rfl (by decide +kernel) rfl rfl (Nat.le_of_ble_eq_true rfl) d_Model_write_12 (fun H locs hP hD hS => ?_)
  obtain ⟨mo_5, emo_5, hf⟩ := lt_ex hf
  try dsimp only at hf
  have hP : va_P (dC, dI) vwCl (wMo cI cZ cJ mo_a mo_5) H := by rw [emo_5]; exact hP
  have hD : va_D A (wMo cI cZ cJ mo_a mo_5) := by rw [emo_5]; exact hD
  refine lv_aload_n hx hb d_Model_write_15 rfl (lv_at hl 0 rfl) ?_
  obtain ⟨mo_7, hf1, hf⟩ := bd_ex hf
  try dsimp only at hf
  have hPc := hP.sub (ws' := (wMo cI cZ cJ mo_a mo_5)) [0, 1, 2, 3, 4, 5, 6, 7, 8, 9, 10, 11, 12, 13, 14, 15] rfl
  have hDc := hD.sub (ws' := (wMo cI cZ cJ mo_a mo_5)) [0, 1, 2, 3, 4, 5, 6, 7, 8, 9, 10, 11, 12, 13, 14, 15] (by decide) rfl
  have hFc := va_free (wc := (wMo cI cZ cJ mo_a mo_5)) hD hS hA [0, 1, 2, 3, 4, 5, 6, 7, 8, 9, 10, 11, 12, 13, 14, 15] rfl
  refine va_callv (va_runV (As := []) (rest := []) ⟨hx, hb, hml, hown, hts⟩ (k_Model_beginBits l dC dI cI cZ cJ mo_a H.size hf1) (cwV 0 hts (gV t_964 t_966 t_28 t_63 t_967) rfl rfl rfl hd_Model_beginBits ⟨Nat.le_trans (Nat.le_of_ble_eq_true rfl) hRf, Nat.le_trans (Nat.le_of_ble_eq_true rfl) hRl⟩) ⟨kP_blind, va_recv hK hP (ci := 7) (q0 := 0) rfl rfl, kP_at hPc hK hDc hN⟩ rfl rfl hl.1 rfl (lv_room (Nat.le_of_ble_eq_true rfl)) d_Model_write_16 hRc) hS (fun q _ h => hFc q h) hFc (fun u t H1 locs ht hvm hw hB hz1 hk1 hS => ?_)
  obtain ⟨hP, hD⟩ := kQ_join (wr := ([] : va_W)) (w1 := (wMo cI cZ cJ mo_a mo_7)) hP hD [0, 1, 2, 3, 4, 5, 6, 7, 8, 9, 10, 11, 12, 13, 14, 15] [] rfl rfl (by decide) (by decide) ht hk1 hFc hB
  generalize H1 = H at hP hS ⊢
  have hP : va_P (dC, dI) vwCl (wMo cI cZ cJ mo_a mo_7) H := hP.sub [0, 1, 2, 3, 4, 5, 6, 7, 8, 9, 10, 11, 12, 13, 14, 15] rfl
  have hD : va_D A (wMo cI cZ cJ mo_a mo_7) := hD.sub [0, 1, 2, 3, 4, 5, 6, 7, 8, 9, 10, 11, 12, 13, 14, 15] (by decide) rfl
  refine lv_iconst (v := 0) hx hb d_Model_write_19 (by decide) ?_
  refine lv_istore_n (lv' := [(1, .int 0), (0, .ref (mo_a 0))]) hx hb d_Model_write_20 rfl hl (by decide) rfl (fun ls hl => ?_)
  refine L_Model_write_21 C0 (fun H locs ls mo_19 hP hD hS hl hf => ?_) 100000 _ _ _ mo_7 0 hP hD hS (lv_sub hl [1, 0] rfl) hf
  try dsimp only at hf
  refine lv_aload_n hx hb d_Model_write_58 rfl (lv_at hl 0 rfl) ?_
  refine lv_aload_n hx hb d_Model_write_59 rfl (lv_at hl 0 rfl) ?_
  refine va_get (D := (dC, dI)) (ci := 7) (v := .int (Mo_n mo_19)) (C := R_Model) (T := T_Model) (N := 27) hx hb hts in_Model hown hK hP 0 rfl rfl 2 (by decide) (hts _ t_826) (fun _ h9 => h9) rfl d_Model_write_60 ?_
  obtain ⟨mo_20, hf1, hf⟩ := bd_ex hf
  try dsimp only at hf
  have hPc := hP.sub (ws' := (wMo cI cZ cJ mo_a mo_19)) [0, 1, 2, 3, 4, 5, 6, 7, 8, 9, 10, 11, 12, 13, 14, 15] rfl
  have hDc := hD.sub (ws' := (wMo cI cZ cJ mo_a mo_19)) [0, 1, 2, 3, 4, 5, 6, 7, 8, 9, 10, 11, 12, 13, 14, 15] (by decide) rfl
  have hFc := va_free (wc := (wMo cI cZ cJ mo_a mo_19)) hD hS hA [0, 1, 2, 3, 4, 5, 6, 7, 8, 9, 10, 11, 12, 13, 14, 15] rfl
  refine va_callv (va_runV (As := [.int (Mo_n mo_19)]) (rest := []) ⟨hx, hb, hml, hown, hts⟩ (k_Model_emitNumber l dC dI cI cZ cJ mo_a H.size hf1) (cwV 1 hts (gV t_974 t_976 t_30 t_63 t_977) rfl rfl rfl hd_Model_emitNumber ⟨Nat.le_trans (Nat.le_of_ble_eq_true rfl) hRf, Nat.le_trans (Nat.le_of_ble_eq_true rfl) hRl⟩) ⟨kP_blind, va_recv hK hP (ci := 7) (q0 := 0) rfl rfl, kP_at hPc hK hDc hN⟩ rfl rfl hl.1 rfl (lv_room (Nat.le_of_ble_eq_true rfl)) d_Model_write_63 hRc) hS (fun q _ h => hFc q h) hFc (fun u t H1 locs ht hvm hw hB hz1 hk1 hS => ?_)
  obtain ⟨hP, hD⟩ := kQ_join (wr := ([] : va_W)) (w1 := (wMo cI cZ cJ mo_a mo_20)) hP hD [0, 1, 2, 3, 4, 5, 6, 7, 8, 9, 10, 11, 12, 13, 14, 15] [] rfl rfl (by decide) (by decide) ht hk1 hFc hB
  generalize H1 = H at hP hS ⊢
  have hP : va_P (dC, dI) vwCl (wMo cI cZ cJ mo_a mo_20) H := hP.sub [0, 1, 2, 3, 4, 5, 6, 7, 8, 9, 10, 11, 12, 13, 14, 15] rfl
  have hD : va_D A (wMo cI cZ cJ mo_a mo_20) := hD.sub [0, 1, 2, 3, 4, 5, 6, 7, 8, 9, 10, 11, 12, 13, 14, 15] (by decide) rfl
  refine lv_iconst (v := 0) hx hb d_Model_write_66 (by decide) ?_
  refine lv_istore_n (lv' := [(1, .int 0), (0, .ref (mo_a 0))]) hx hb d_Model_write_67 rfl hl (by decide) rfl (fun ls hl => ?_)
  refine lv_iconst (v := 0) hx hb d_Model_write_68 (by decide) ?_
  refine lv_istore_n (lv' := [(2, .int 0), (1, .int 0), (0, .ref (mo_a 0))]) hx hb d_Model_write_69 rfl hl (by decide) rfl (fun ls hl => ?_)
  refine L_Model_write_70 C0 (fun H locs ls mo_51 hP hD hS hl hf => ?_) 100000 _ _ _ mo_20 0 0 hP hD hS (lv_sub hl [2, 1, 0] rfl) hf
  try dsimp only at hf
  refine lv_iconst (v := 0) hx hb d_Model_write_195 (by decide) ?_
  refine lv_istore_n (lv' := [(2, .int 0), (0, .ref (mo_a 0))]) hx hb d_Model_write_196 rfl hl (by decide) rfl (fun ls hl => ?_)
  refine lv_iconst (v := 0) hx hb d_Model_write_197 (by decide) ?_
  refine lv_istore_n (lv' := [(3, .int 0), (2, .int 0), (0, .ref (mo_a 0))]) hx hb d_Model_write_198 rfl hl (by decide) rfl (fun ls hl => ?_)
  refine L_Model_write_199 C0 (fun H locs ls mo_64 hP hD hS hl hf => ?_) 100000 _ _ _ mo_51 0 0 hP hD hS (lv_sub hl [2, 1, 0] rfl) hf
  try dsimp only at hf
  refine lv_aload_n hx hb d_Model_write_269 rfl (lv_at hl 0 rfl) ?_
  refine va_get (D := (dC, dI)) (ci := 7) (v := .int (Mo_kind mo_64)) (C := R_Model) (T := T_Model) (N := 27) hx hb hts in_Model hown hK hP 0 rfl rfl 1 (by decide) (hts _ t_825) (fun _ h9 => h9) rfl d_Model_write_270 ?_
  refine lv_iconst (v := 2) hx hb d_Model_write_273 (by decide) ?_
  refine lv_icmp_ne (tgt := 307) hx hb d_Model_write_274 (by decide) (fun c_65 => ?_) (fun c_65 => ?_)
  · rw [if_neg c_65] at hf
    refine lv_aload_n hx hb d_Model_write_307 rfl (lv_at hl 0 rfl) ?_
    refine va_get (D := (dC, dI)) (ci := 7) (v := .int (Mo_on mo_64)) (C := R_Model) (T := T_Model) (N := 27) hx hb hts in_Model hown hK hP 0 rfl rfl 15 (by decide) (hts _ t_839) (fun _ h9 => h9) rfl d_Model_write_308 ?_
    exact hr311 _ _ _ (Mo_on mo_64) mo_64 hP hD hS hf
  · rw [if_pos c_65] at hf
    refine lv_aload_n hx hb d_Model_write_277 rfl (lv_at hl 0 rfl) ?_
    refine lv_aload_n hx hb d_Model_write_278 rfl (lv_at hl 0 rfl) ?_
    refine va_get (D := (dC, dI)) (ci := 7) (v := .long (Mo_lo mo_64)) (C := R_Model) (T := T_Model) (N := 27) hx hb hts in_Model hown hK hP 0 rfl rfl 22 (by decide) (hts _ t_846) (fun _ h9 => h9) rfl d_Model_write_279 ?_
    refine lv_ldc2 (v := 65535) hx hb hown (hts (.constantLong R_Model 194 65535) (by decide +kernel)) d_Model_write_282 ?_
    refine lv_ladd hx hb d_Model_write_285 ?_
    refine lv_bipush (v := 24) hx hb d_Model_write_286 (by decide) ?_
    refine lv_lshr (v := ((Mo_lo mo_64) + 65535) >>> ((24 : Int32).toInt64 &&& 63)) hx hb d_Model_write_288 rfl ?_
    obtain ⟨mo_66, hf1, hf⟩ := bd_ex hf
    try dsimp only at hf
    have hPc := hP.sub (ws' := (wMo cI cZ cJ mo_a mo_64)) [0, 1, 2, 3, 4, 5, 6, 7, 8, 9, 10, 11, 12, 13, 14, 15] rfl
    have hDc := hD.sub (ws' := (wMo cI cZ cJ mo_a mo_64)) [0, 1, 2, 3, 4, 5, 6, 7, 8, 9, 10, 11, 12, 13, 14, 15] (by decide) rfl
    have hFc := va_free (wc := (wMo cI cZ cJ mo_a mo_64)) hD hS hA [0, 1, 2, 3, 4, 5, 6, 7, 8, 9, 10, 11, 12, 13, 14, 15] rfl
    refine va_callv (va_runV (As := [.long (((Mo_lo mo_64) + 65535) >>> ((24 : Int32).toInt64 &&& 63))]) (rest := []) ⟨hx, hb, hml, hown, hts⟩ (k_Model_outByte l dC dI cI cZ cJ mo_a H.size hf1) (cwV 1 hts (gV t_986 t_988 t_33 t_63 t_989) rfl rfl rfl hd_Model_outByte ⟨Nat.le_trans (Nat.le_of_ble_eq_true rfl) hRf, Nat.le_trans (Nat.le_of_ble_eq_true rfl) hRl⟩) ⟨kP_blind, va_recv hK hP (ci := 7) (q0 := 0) rfl rfl, kP_at hPc hK hDc hN⟩ rfl rfl hl.1 rfl (lv_room (Nat.le_of_ble_eq_true rfl)) d_Model_write_289 hRc) hS (fun q _ h => hFc q h) hFc (fun u t H1 locs ht hvm hw hB hz1 hk1 hS => ?_)
    obtain ⟨hP, hD⟩ := kQ_join (wr := ([] : va_W)) (w1 := (wMo cI cZ cJ mo_a mo_66)) hP hD [0, 1, 2, 3, 4, 5, 6, 7, 8, 9, 10, 11, 12, 13, 14, 15] [] rfl rfl (by decide) (by decide) ht hk1 hFc hB
    generalize H1 = H at hP hS ⊢
    have hP : va_P (dC, dI) vwCl (wMo cI cZ cJ mo_a mo_66) H := hP.sub [0, 1, 2, 3, 4, 5, 6, 7, 8, 9, 10, 11, 12, 13, 14, 15] rfl
    have hD : va_D A (wMo cI cZ cJ mo_a mo_66) := hD.sub [0, 1, 2, 3, 4, 5, 6, 7, 8, 9, 10, 11, 12, 13, 14, 15] (by decide) rfl
    refine lv_aload_n hx hb d_Model_write_292 rfl (lv_at hl 0 rfl) ?_
    refine lv_aload_n hx hb d_Model_write_293 rfl (lv_at hl 0 rfl) ?_
    refine va_get (D := (dC, dI)) (ci := 7) (v := .long (Mo_lo mo_66)) (C := R_Model) (T := T_Model) (N := 27) hx hb hts in_Model hown hK hP 0 rfl rfl 22 (by decide) (hts _ t_846) (fun _ h9 => h9) rfl d_Model_write_294 ?_
    refine lv_ldc2 (v := 65535) hx hb hown (hts (.constantLong R_Model 194 65535) (by decide +kernel)) d_Model_write_297 ?_
    refine lv_ladd hx hb d_Model_write_300 ?_
    refine lv_bipush (v := 16) hx hb d_Model_write_301 (by decide) ?_
    refine lv_lshr (v := ((Mo_lo mo_66) + 65535) >>> ((16 : Int32).toInt64 &&& 63)) hx hb d_Model_write_303 rfl ?_
    obtain ⟨mo_67, hf1, hf⟩ := bd_ex hf
    try dsimp only at hf
    have hPc := hP.sub (ws' := (wMo cI cZ cJ mo_a mo_66)) [0, 1, 2, 3, 4, 5, 6, 7, 8, 9, 10, 11, 12, 13, 14, 15] rfl
    have hDc := hD.sub (ws' := (wMo cI cZ cJ mo_a mo_66)) [0, 1, 2, 3, 4, 5, 6, 7, 8, 9, 10, 11, 12, 13, 14, 15] (by decide) rfl
    have hFc := va_free (wc := (wMo cI cZ cJ mo_a mo_66)) hD hS hA [0, 1, 2, 3, 4, 5, 6, 7, 8, 9, 10, 11, 12, 13, 14, 15] rfl
    refine va_callv (va_runV (As := [.long (((Mo_lo mo_66) + 65535) >>> ((16 : Int32).toInt64 &&& 63))]) (rest := []) ⟨hx, hb, hml, hown, hts⟩ (k_Model_outByte l dC dI cI cZ cJ mo_a H.size hf1) (cwV 1 hts (gV t_986 t_988 t_33 t_63 t_989) rfl rfl rfl hd_Model_outByte ⟨Nat.le_trans (Nat.le_of_ble_eq_true rfl) hRf, Nat.le_trans (Nat.le_of_ble_eq_true rfl) hRl⟩) ⟨kP_blind, va_recv hK hP (ci := 7) (q0 := 0) rfl rfl, kP_at hPc hK hDc hN⟩ rfl rfl hl.1 rfl (lv_room (Nat.le_of_ble_eq_true rfl)) d_Model_write_304 hRc) hS (fun q _ h => hFc q h) hFc (fun u t H1 locs ht hvm hw hB hz1 hk1 hS => ?_)
    obtain ⟨hP, hD⟩ := kQ_join (wr := ([] : va_W)) (w1 := (wMo cI cZ cJ mo_a mo_67)) hP hD [0, 1, 2, 3, 4, 5, 6, 7, 8, 9, 10, 11, 12, 13, 14, 15] [] rfl rfl (by decide) (by decide) ht hk1 hFc hB
    generalize H1 = H at hP hS ⊢
    have hP : va_P (dC, dI) vwCl (wMo cI cZ cJ mo_a mo_67) H := hP.sub [0, 1, 2, 3, 4, 5, 6, 7, 8, 9, 10, 11, 12, 13, 14, 15] rfl
    have hD : va_D A (wMo cI cZ cJ mo_a mo_67) := hD.sub [0, 1, 2, 3, 4, 5, 6, 7, 8, 9, 10, 11, 12, 13, 14, 15] (by decide) rfl
    refine lv_aload_n hx hb d_Model_write_307 rfl (lv_at hl 0 rfl) ?_
    refine va_get (D := (dC, dI)) (ci := 7) (v := .int (Mo_on mo_67)) (C := R_Model) (T := T_Model) (N := 27) hx hb hts in_Model hown hK hP 0 rfl rfl 15 (by decide) (hts _ t_839) (fun _ h9 => h9) rfl d_Model_write_308 ?_
    exact hr311 _ _ _ (Mo_on mo_67) mo_67 hP hD hS hf
end
set_option maxHeartbeats 4000000 in
set_option maxRecDepth 100000 in
theorem k_Model_write (l : Launch) (dC : Nat → ClassId) (dI : Nat → Nat → Nat) (cI cZ cJ : ClassId) (mo_a : Nat → Nat) (sz : Nat) {mo : Mo} {r : Int32} {mo' : Mo} (hf : f_Model_write mo = some (r, mo')) :
    Met l y_Model_write ws_Model_write ({ frames := 6, cells := 0, slots := 0, locals := 140 }) (va_Pc [.ref (mo_a 0)] (kP (dC, dI) vwCl (TYS cI cZ cJ) (wMo cI cZ cJ mo_a mo) sz)) (va_Qi (fun (q : Int32) (_ : Unit) => q = r) (fun _ t => kQ (dC, dI) vwCl (TYS cI cZ cJ) (wMo cI cZ cJ mo_a mo) sz (wMo cI cZ cJ mo_a mo') t) (va_A (wMo cI cZ cJ mo_a mo) sz)) 0 0 (va_A (wMo cI cZ cJ mo_a mo) sz) := by
  refine Met.ofW (cc := c_Model_write) (maxL := 5) (ret := (some .int)) (by decide) rfl ?_
  intro p e s m args below meth c s₁ B hml hv
  obtain ⟨rfl, hsz, hP, hK, hD0, hN⟩ := hv
  have hr := B.returns
  have hlocks := B.notSynchronized
  subst hsz
  have hD := hD0.self (sz := s.heap.size)
  have hl := lv_entry ([.ref (mo_a 0)]) (n := 5) (Nat.le_of_ble_eq_true rfl)
  rw [lg_entry_eq]
  generalize (lg_sl ([.ref (mo_a 0)]) ++ List.replicate (5 - (lg_sl ([.ref (mo_a 0)])).length) Slot.unset).toArray = ls at hl ⊢
  refine B_Model_write (A := va_A (wMo cI cZ cJ mo_a mo) s.heap.size) ⟨B.exec, B.bytes, hml, findClass_of_methodNamed B.named, fun w h => atoms_spec (ws := ws_Model_write) B.pre w (List.mem_cons_of_mem _ h), hK, fun q h => Or.inr h, Nat.le_of_ble_eq_true rfl, Nat.le_of_ble_eq_true rfl, hN, Nat.le_of_ble_eq_true rfl, Nat.le_of_ble_eq_true rfl⟩ (fun H locs ls v mo'1 hP hD hS hf => ?_) hP hD va_S.rf hl hf
  · cases hf
    exact W.iret B.exec B.bytes hr (fun t ht hW => ⟨⟨_, (), rfl, rfl, ⟨by rw [ht]; exact hP, va_K.moved hW.alike hK, hD⟩⟩, hS.F ht⟩) hS.2.2 d_Model_write_311

