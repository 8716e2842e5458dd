theorem t_1075 : (.methodLink R_Model 196 y_Model_readPlane : Cond) ∈ tb := List.mem_filter.mpr ⟨List.mem_of_getElem? (i := 1075) (by decide +kernel), by decide +kernel⟩
theorem t_1077 : (.instanceMethod y_Model_readPlane : Cond) ∈ tb := List.mem_filter.mpr ⟨List.mem_of_getElem? (i := 1077) (by decide +kernel), by decide +kernel⟩
theorem t_50 : (.selects R_Model y_Model_readPlane y_Model_readPlane : Cond) ∈ tb := List.mem_filter.mpr ⟨List.mem_of_getElem? (i := 50) (by decide +kernel), by decide +kernel⟩
theorem t_1078 : (.code y_Model_readPlane c_Model_readPlane 10 none : Cond) ∈ tb := List.mem_filter.mpr ⟨List.mem_of_getElem? (i := 1078) (by decide +kernel), by decide +kernel⟩
theorem t_1071 : (.methodLink R_Model 199 y_Model_readSymbol : Cond) ∈ tb := List.mem_filter.mpr ⟨List.mem_of_getElem? (i := 1071) (by decide +kernel), by decide +kernel⟩
theorem t_1073 : (.instanceMethod y_Model_readSymbol : Cond) ∈ tb := List.mem_filter.mpr ⟨List.mem_of_getElem? (i := 1073) (by decide +kernel), by decide +kernel⟩
theorem t_49 : (.selects R_Model y_Model_readSymbol y_Model_readSymbol : Cond) ∈ tb := List.mem_filter.mpr ⟨List.mem_of_getElem? (i := 49) (by decide +kernel), by decide +kernel⟩
theorem t_1074 : (.code y_Model_readSymbol c_Model_readSymbol 6 none : Cond) ∈ tb := List.mem_filter.mpr ⟨List.mem_of_getElem? (i := 1074) (by decide +kernel), by decide +kernel⟩
theorem t_1067 : (.methodLink R_Model 203 y_Model_readClasses : Cond) ∈ tb := List.mem_filter.mpr ⟨List.mem_of_getElem? (i := 1067) (by decide +kernel), by decide +kernel⟩
theorem t_1069 : (.instanceMethod y_Model_readClasses : Cond) ∈ tb := List.mem_filter.mpr ⟨List.mem_of_getElem? (i := 1069) (by decide +kernel), by decide +kernel⟩
theorem t_48 : (.selects R_Model y_Model_readClasses y_Model_readClasses : Cond) ∈ tb := List.mem_filter.mpr ⟨List.mem_of_getElem? (i := 48) (by decide +kernel), by decide +kernel⟩
theorem t_1070 : (.code y_Model_readClasses c_Model_readClasses 6 none : Cond) ∈ tb := List.mem_filter.mpr ⟨List.mem_of_getElem? (i := 1070) (by decide +kernel), by decide +kernel⟩
theorem t_1079 : (.methodLink R_Model 206 y_Model_readExports : Cond) ∈ tb := List.mem_filter.mpr ⟨List.mem_of_getElem? (i := 1079) (by decide +kernel), by decide +kernel⟩
theorem t_1081 : (.instanceMethod y_Model_readExports : Cond) ∈ tb := List.mem_filter.mpr ⟨List.mem_of_getElem? (i := 1081) (by decide +kernel), by decide +kernel⟩
theorem t_51 : (.selects R_Model y_Model_readExports y_Model_readExports : Cond) ∈ tb := List.mem_filter.mpr ⟨List.mem_of_getElem? (i := 51) (by decide +kernel), by decide +kernel⟩
theorem t_1082 : (.code y_Model_readExports c_Model_readExports 6 none : Cond) ∈ tb := List.mem_filter.mpr ⟨List.mem_of_getElem? (i := 1082) (by decide +kernel), by decide +kernel⟩
theorem t_836 : (.fieldLink R_Model 209 "SymbolDictionariesModel" "classed" "I" : Cond) ∈ tb := List.mem_filter.mpr ⟨List.mem_of_getElem? (i := 836) (by decide +kernel), by decide +kernel⟩
theorem t_1091 : (.methodLink R_Model 212 y_Model_differs : Cond) ∈ tb := List.mem_filter.mpr ⟨List.mem_of_getElem? (i := 1091) (by decide +kernel), by decide +kernel⟩
theorem t_1093 : (.instanceMethod y_Model_differs : Cond) ∈ tb := List.mem_filter.mpr ⟨List.mem_of_getElem? (i := 1093) (by decide +kernel), by decide +kernel⟩
theorem t_52 : (.selects R_Model y_Model_differs y_Model_differs : Cond) ∈ tb := List.mem_filter.mpr ⟨List.mem_of_getElem? (i := 52) (by decide +kernel), by decide +kernel⟩
theorem t_1094 : (.code y_Model_differs c_Model_differs 5 (some .int) : Cond) ∈ tb := List.mem_filter.mpr ⟨List.mem_of_getElem? (i := 1094) (by decide +kernel), by decide +kernel⟩
theorem t_838 : (.fieldLink R_Model 41 "SymbolDictionariesModel" "firsts" "[I" : Cond) ∈ tb := List.mem_filter.mpr ⟨List.mem_of_getElem? (i := 838) (by decide +kernel), by decide +kernel⟩
theorem t_837 : (.fieldLink R_Model 38 "SymbolDictionariesModel" "classOf" "[I" : Cond) ∈ tb := List.mem_filter.mpr ⟨List.mem_of_getElem? (i := 837) (by decide +kernel), by decide +kernel⟩
abbrev ws_Model_byteAt : List Cond := .code y_Model_byteAt c_Model_byteAt 2 (some .int) :: tb
theorem hd_Model_byteAt : y_Model_byteAt.cls = R_Model ∧ y_Model_byteAt.cls ≠ "java/lang/invoke/MethodHandle" ∧ y_Model_byteAt.cls ≠ "java/lang/invoke/VarHandle" ∧ (parseMethodDescriptor y_Model_byteAt.desc).map (fun d => d.parameters.length) = some 1 := by decide +kernel
theorem d_Model_byteAt_0 : decode c_Model_byteAt 0 = .ok (.aload_n 0, 1) := by decide +kernel
theorem d_Model_byteAt_1 : decode c_Model_byteAt 1 = .ok (.iload_n 1, 1) := by decide +kernel
theorem d_Model_byteAt_2 : decode c_Model_byteAt 2 = .ok (.ifCond .lt 15, 3) := by decide +kernel
theorem d_Model_byteAt_5 : decode c_Model_byteAt 5 = .ok (.iload_n 1, 1) := by decide +kernel
theorem d_Model_byteAt_6 : decode c_Model_byteAt 6 = .ok (.aload_n 0, 1) := by decide +kernel
theorem d_Model_byteAt_7 : decode c_Model_byteAt 7 = .ok (.getfield 102, 3) := by decide +kernel
theorem d_Model_byteAt_10 : decode c_Model_byteAt 10 = .ok (.if_icmp .ge 7, 3) := by decide +kernel
theorem d_Model_byteAt_13 : decode c_Model_byteAt 13 = .ok (.iconst 0, 1) := by decide +kernel
theorem d_Model_byteAt_14 : decode c_Model_byteAt 14 = .ok (.goto 4, 3) := by decide +kernel
theorem d_Model_byteAt_17 : decode c_Model_byteAt 17 = .ok (.iconst 1, 1) := by decide +kernel
theorem d_Model_byteAt_18 : decode c_Model_byteAt 18 = .ok (.invokevirtual 66, 3) := by decide +kernel
theorem d_Model_byteAt_21 : decode c_Model_byteAt 21 = .ok (.ifCond .eq 7, 3) := by decide +kernel
theorem d_Model_byteAt_24 : decode c_Model_byteAt 24 = .ok (.iconst 0, 1) := by decide +kernel
theorem d_Model_byteAt_25 : decode c_Model_byteAt 25 = .ok (.goto 9, 3) := by decide +kernel
theorem d_Model_byteAt_28 : decode c_Model_byteAt 28 = .ok (.aload_n 0, 1) := by decide +kernel
theorem d_Model_byteAt_29 : decode c_Model_byteAt 29 = .ok (.getfield 44, 3) := by decide +kernel
theorem d_Model_byteAt_32 : decode c_Model_byteAt 32 = .ok (.iload_n 1, 1) := by decide +kernel
theorem d_Model_byteAt_33 : decode c_Model_byteAt 33 = .ok (.iaload, 1) := by decide +kernel
theorem d_Model_byteAt_34 : decode c_Model_byteAt 34 = .ok (.ireturn, 1) := by decide +kernel
abbrev ws_Model_feed : List Cond := .code y_Model_feed c_Model_feed 2 (some .int) :: tb
theorem hd_Model_feed : y_Model_feed.cls = R_Model ∧ y_Model_feed.cls ≠ "java/lang/invoke/MethodHandle" ∧ y_Model_feed.cls ≠ "java/lang/invoke/VarHandle" ∧ (parseMethodDescriptor y_Model_feed.desc).map (fun d => d.parameters.length) = some 1 := by decide +kernel
theorem d_Model_feed_0 : decode c_Model_feed 0 = .ok (.aload_n 0, 1) := by decide +kernel
theorem d_Model_feed_1 : decode c_Model_feed 1 = .ok (.iload_n 1, 1) := by decide +kernel
theorem d_Model_feed_2 : decode c_Model_feed 2 = .ok (.ifCond .lt 10, 3) := by decide +kernel
theorem d_Model_feed_5 : decode c_Model_feed 5 = .ok (.iload_n 1, 1) := by decide +kernel
theorem d_Model_feed_6 : decode c_Model_feed 6 = .ok (.sipush 255, 3) := by decide +kernel
theorem d_Model_feed_9 : decode c_Model_feed 9 = .ok (.if_icmp .le 7, 3) := by decide +kernel
theorem d_Model_feed_12 : decode c_Model_feed 12 = .ok (.iconst 1, 1) := by decide +kernel
theorem d_Model_feed_13 : decode c_Model_feed 13 = .ok (.goto 18, 3) := by decide +kernel
theorem d_Model_feed_16 : decode c_Model_feed 16 = .ok (.aload_n 0, 1) := by decide +kernel
theorem d_Model_feed_17 : decode c_Model_feed 17 = .ok (.getfield 130, 3) := by decide +kernel
theorem d_Model_feed_20 : decode c_Model_feed 20 = .ok (.sipush 3000, 3) := by decide +kernel
theorem d_Model_feed_23 : decode c_Model_feed 23 = .ok (.if_icmp .ne 7, 3) := by decide +kernel
theorem d_Model_feed_26 : decode c_Model_feed 26 = .ok (.iconst 2, 1) := by decide +kernel
theorem d_Model_feed_27 : decode c_Model_feed 27 = .ok (.goto 4, 3) := by decide +kernel
theorem d_Model_feed_30 : decode c_Model_feed 30 = .ok (.iconst 0, 1) := by decide +kernel
theorem d_Model_feed_31 : decode c_Model_feed 31 = .ok (.invokevirtual 66, 3) := by decide +kernel
theorem d_Model_feed_34 : decode c_Model_feed 34 = .ok (.ifCond .eq 5, 3) := by decide +kernel
theorem d_Model_feed_37 : decode c_Model_feed 37 = .ok (.iconst 0, 1) := by decide +kernel
theorem d_Model_feed_38 : decode c_Model_feed 38 = .ok (.ireturn, 1) := by decide +kernel
theorem d_Model_feed_39 : decode c_Model_feed 39 = .ok (.aload_n 0, 1) := by decide +kernel
theorem d_Model_feed_40 : decode c_Model_feed 40 = .ok (.getfield 47, 3) := by decide +kernel
theorem d_Model_feed_43 : decode c_Model_feed 43 = .ok (.aload_n 0, 1) := by decide +kernel
theorem d_Model_feed_44 : decode c_Model_feed 44 = .ok (.getfield 130, 3) := by decide +kernel
theorem d_Model_feed_47 : decode c_Model_feed 47 = .ok (.iload_n 1, 1) := by decide +kernel
theorem d_Model_feed_48 : decode c_Model_feed 48 = .ok (.iastore, 1) := by decide +kernel
theorem d_Model_feed_49 : decode c_Model_feed 49 = .ok (.aload_n 0, 1) := by decide +kernel
theorem d_Model_feed_50 : decode c_Model_feed 50 = .ok (.dup, 1) := by decide +kernel
theorem d_Model_feed_51 : decode c_Model_feed 51 = .ok (.getfield 130, 3) := by decide +kernel
theorem d_Model_feed_54 : decode c_Model_feed 54 = .ok (.iconst 1, 1) := by decide +kernel
theorem d_Model_feed_55 : decode c_Model_feed 55 = .ok (.iadd, 1) := by decide +kernel
theorem d_Model_feed_56 : decode c_Model_feed 56 = .ok (.putfield 130, 3) := by decide +kernel
theorem d_Model_feed_59 : decode c_Model_feed 59 = .ok (.aload_n 0, 1) := by decide +kernel
theorem d_Model_feed_60 : decode c_Model_feed 60 = .ok (.getfield 130, 3) := by decide +kernel
theorem d_Model_feed_63 : decode c_Model_feed 63 = .ok (.ireturn, 1) := by decide +kernel
abbrev ws_Model_pass : List Cond := .code y_Model_pass c_Model_pass 2 (some .int) :: tb
theorem hd_Model_pass : y_Model_pass.cls = R_Model ∧ y_Model_pass.cls ≠ "java/lang/invoke/MethodHandle" ∧ y_Model_pass.cls ≠ "java/lang/invoke/VarHandle" ∧ (parseMethodDescriptor y_Model_pass.desc).map (fun d => d.parameters.length) = some 0 := by decide +kernel
theorem d_Model_pass_0 : decode c_Model_pass 0 = .ok (.aload_n 0, 1) := by decide +kernel
theorem d_Model_pass_1 : decode c_Model_pass 1 = .ok (.aload_n 0, 1) := by decide +kernel
theorem d_Model_pass_2 : decode c_Model_pass 2 = .ok (.getfield 130, 3) := by decide +kernel
theorem d_Model_pass_5 : decode c_Model_pass 5 = .ok (.aload_n 0, 1) := by decide +kernel
theorem d_Model_pass_6 : decode c_Model_pass 6 = .ok (.getfield 102, 3) := by decide +kernel
theorem d_Model_pass_9 : decode c_Model_pass 9 = .ok (.iadd, 1) := by decide +kernel
theorem d_Model_pass_10 : decode c_Model_pass 10 = .ok (.sipush 3000, 3) := by decide +kernel
theorem d_Model_pass_13 : decode c_Model_pass 13 = .ok (.if_icmp .le 7, 3) := by decide +kernel
theorem d_Model_pass_16 : decode c_Model_pass 16 = .ok (.iconst 1, 1) := by decide +kernel
theorem d_Model_pass_17 : decode c_Model_pass 17 = .ok (.goto 4, 3) := by decide +kernel
theorem d_Model_pass_20 : decode c_Model_pass 20 = .ok (.iconst 0, 1) := by decide +kernel
theorem d_Model_pass_21 : decode c_Model_pass 21 = .ok (.invokevirtual 66, 3) := by decide +kernel
theorem d_Model_pass_24 : decode c_Model_pass 24 = .ok (.ifCond .eq 5, 3) := by decide +kernel
theorem d_Model_pass_27 : decode c_Model_pass 27 = .ok (.iconst 0, 1) := by decide +kernel
theorem d_Model_pass_28 : decode c_Model_pass 28 = .ok (.ireturn, 1) := by decide +kernel
theorem d_Model_pass_29 : decode c_Model_pass 29 = .ok (.iconst 0, 1) := by decide +kernel
theorem d_Model_pass_30 : decode c_Model_pass 30 = .ok (.istore_n 1, 1) := by decide +kernel
theorem d_Model_pass_31 : decode c_Model_pass 31 = .ok (.iload_n 1, 1) := by decide +kernel
theorem d_Model_pass_32 : decode c_Model_pass 32 = .ok (.aload_n 0, 1) := by decide +kernel
theorem d_Model_pass_33 : decode c_Model_pass 33 = .ok (.getfield 102, 3) := by decide +kernel
theorem d_Model_pass_36 : decode c_Model_pass 36 = .ok (.if_icmp .ge 34, 3) := by decide +kernel
theorem d_Model_pass_39 : decode c_Model_pass 39 = .ok (.aload_n 0, 1) := by decide +kernel
theorem d_Model_pass_40 : decode c_Model_pass 40 = .ok (.getfield 47, 3) := by decide +kernel
theorem d_Model_pass_43 : decode c_Model_pass 43 = .ok (.aload_n 0, 1) := by decide +kernel
theorem d_Model_pass_44 : decode c_Model_pass 44 = .ok (.getfield 130, 3) := by decide +kernel
theorem d_Model_pass_47 : decode c_Model_pass 47 = .ok (.aload_n 0, 1) := by decide +kernel
theorem d_Model_pass_48 : decode c_Model_pass 48 = .ok (.getfield 44, 3) := by decide +kernel
theorem d_Model_pass_51 : decode c_Model_pass 51 = .ok (.iload_n 1, 1) := by decide +kernel
theorem d_Model_pass_52 : decode c_Model_pass 52 = .ok (.iaload, 1) := by decide +kernel
theorem d_Model_pass_53 : decode c_Model_pass 53 = .ok (.iastore, 1) := by decide +kernel
theorem d_Model_pass_54 : decode c_Model_pass 54 = .ok (.aload_n 0, 1) := by decide +kernel
theorem d_Model_pass_55 : decode c_Model_pass 55 = .ok (.dup, 1) := by decide +kernel
theorem d_Model_pass_56 : decode c_Model_pass 56 = .ok (.getfield 130, 3) := by decide +kernel
theorem d_Model_pass_59 : decode c_Model_pass 59 = .ok (.iconst 1, 1) := by decide +kernel
theorem d_Model_pass_60 : decode c_Model_pass 60 = .ok (.iadd, 1) := by decide +kernel
theorem d_Model_pass_61 : decode c_Model_pass 61 = .ok (.putfield 130, 3) := by decide +kernel
theorem d_Model_pass_64 : decode c_Model_pass 64 = .ok (.iinc 1 1, 3) := by decide +kernel
theorem d_Model_pass_67 : decode c_Model_pass 67 = .ok (.goto (-36), 3) := by decide +kernel
theorem d_Model_pass_70 : decode c_Model_pass 70 = .ok (.aload_n 0, 1) := by decide +kernel
theorem d_Model_pass_71 : decode c_Model_pass 71 = .ok (.getfield 130, 3) := by decide +kernel
theorem d_Model_pass_74 : decode c_Model_pass 74 = .ok (.ireturn, 1) := by decide +kernel
abbrev ws_Model_readSymbol : List Cond := .code y_Model_readSymbol c_Model_readSymbol 6 none :: tb
theorem hd_Model_readSymbol : y_Model_readSymbol.cls = R_Model ∧ y_Model_readSymbol.cls ≠ "java/lang/invoke/MethodHandle" ∧ y_Model_readSymbol.cls ≠ "java/lang/invoke/VarHandle" ∧ (parseMethodDescriptor y_Model_readSymbol.desc).map (fun d => d.parameters.length) = some 3 := by decide +kernel
theorem d_Model_readSymbol_0 : decode c_Model_readSymbol 0 = .ok (.bipush 40, 2) := by decide +kernel
theorem d_Model_readSymbol_2 : decode c_Model_readSymbol 2 = .ok (.iload_n 1, 1) := by decide +kernel
theorem d_Model_readSymbol_3 : decode c_Model_readSymbol 3 = .ok (.iadd, 1) := by decide +kernel
theorem d_Model_readSymbol_4 : decode c_Model_readSymbol 4 = .ok (.istore 4, 2) := by decide +kernel
theorem d_Model_readSymbol_6 : decode c_Model_readSymbol 6 = .ok (.aload_n 0, 1) := by decide +kernel
theorem d_Model_readSymbol_7 : decode c_Model_readSymbol 7 = .ok (.getfield 7, 3) := by decide +kernel
theorem d_Model_readSymbol_10 : decode c_Model_readSymbol 10 = .ok (.iload 4, 2) := by decide +kernel
theorem d_Model_readSymbol_12 : decode c_Model_readSymbol 12 = .ok (.iload_n 3, 1) := by decide +kernel
theorem d_Model_readSymbol_13 : decode c_Model_readSymbol 13 = .ok (.aload_n 0, 1) := by decide +kernel
theorem d_Model_readSymbol_14 : decode c_Model_readSymbol 14 = .ok (.invokevirtual 179, 3) := by decide +kernel
theorem d_Model_readSymbol_17 : decode c_Model_readSymbol 17 = .ok (.iadd, 1) := by decide +kernel
theorem d_Model_readSymbol_18 : decode c_Model_readSymbol 18 = .ok (.iastore, 1) := by decide +kernel
theorem d_Model_readSymbol_19 : decode c_Model_readSymbol 19 = .ok (.aload_n 0, 1) := by decide +kernel
theorem d_Model_readSymbol_20 : decode c_Model_readSymbol 20 = .ok (.getfield 150, 3) := by decide +kernel
theorem d_Model_readSymbol_23 : decode c_Model_readSymbol 23 = .ok (.ifCond .ge 30, 3) := by decide +kernel
theorem d_Model_readSymbol_26 : decode c_Model_readSymbol 26 = .ok (.aload_n 0, 1) := by decide +kernel
theorem d_Model_readSymbol_27 : decode c_Model_readSymbol 27 = .ok (.getfield 7, 3) := by decide +kernel
theorem d_Model_readSymbol_30 : decode c_Model_readSymbol 30 = .ok (.iload 4, 2) := by decide +kernel
theorem d_Model_readSymbol_32 : decode c_Model_readSymbol 32 = .ok (.iaload, 1) := by decide +kernel
theorem d_Model_readSymbol_33 : decode c_Model_readSymbol 33 = .ok (.bipush 16, 2) := by decide +kernel
theorem d_Model_readSymbol_35 : decode c_Model_readSymbol 35 = .ok (.if_icmp .gt 13, 3) := by decide +kernel
theorem d_Model_readSymbol_38 : decode c_Model_readSymbol 38 = .ok (.aload_n 0, 1) := by decide +kernel
theorem d_Model_readSymbol_39 : decode c_Model_readSymbol 39 = .ok (.getfield 7, 3) := by decide +kernel
theorem d_Model_readSymbol_42 : decode c_Model_readSymbol 42 = .ok (.iload 4, 2) := by decide +kernel
theorem d_Model_readSymbol_44 : decode c_Model_readSymbol 44 = .ok (.iaload, 1) := by decide +kernel
theorem d_Model_readSymbol_45 : decode c_Model_readSymbol 45 = .ok (.ifCond .ne 8, 3) := by decide +kernel
theorem d_Model_readSymbol_48 : decode c_Model_readSymbol 48 = .ok (.aload_n 0, 1) := by decide +kernel
theorem d_Model_readSymbol_49 : decode c_Model_readSymbol 49 = .ok (.iconst 2, 1) := by decide +kernel
theorem d_Model_readSymbol_50 : decode c_Model_readSymbol 50 = .ok (.putfield 150, 3) := by decide +kernel
theorem d_Model_readSymbol_53 : decode c_Model_readSymbol 53 = .ok (.aload_n 0, 1) := by decide +kernel
theorem d_Model_readSymbol_54 : decode c_Model_readSymbol 54 = .ok (.getfield 150, 3) := by decide +kernel
theorem d_Model_readSymbol_57 : decode c_Model_readSymbol 57 = .ok (.ifCond .lt 4, 3) := by decide +kernel
theorem d_Model_readSymbol_60 : decode c_Model_readSymbol 60 = .ok (.return_, 1) := by decide +kernel
theorem d_Model_readSymbol_61 : decode c_Model_readSymbol 61 = .ok (.aload_n 0, 1) := by decide +kernel
theorem d_Model_readSymbol_62 : decode c_Model_readSymbol 62 = .ok (.getfield 13, 3) := by decide +kernel
theorem d_Model_readSymbol_65 : decode c_Model_readSymbol 65 = .ok (.iload 4, 2) := by decide +kernel
theorem d_Model_readSymbol_67 : decode c_Model_readSymbol 67 = .ok (.iload_n 2, 1) := by decide +kernel
theorem d_Model_readSymbol_68 : decode c_Model_readSymbol 68 = .ok (.iastore, 1) := by decide +kernel
theorem d_Model_readSymbol_69 : decode c_Model_readSymbol 69 = .ok (.aload_n 0, 1) := by decide +kernel
theorem d_Model_readSymbol_70 : decode c_Model_readSymbol 70 = .ok (.getfield 19, 3) := by decide +kernel
theorem d_Model_readSymbol_73 : decode c_Model_readSymbol 73 = .ok (.iload 4, 2) := by decide +kernel
theorem d_Model_readSymbol_75 : decode c_Model_readSymbol 75 = .ok (.iconst 0, 1) := by decide +kernel
theorem d_Model_readSymbol_76 : decode c_Model_readSymbol 76 = .ok (.bastore, 1) := by decide +kernel
theorem d_Model_readSymbol_77 : decode c_Model_readSymbol 77 = .ok (.aload_n 0, 1) := by decide +kernel
theorem d_Model_readSymbol_78 : decode c_Model_readSymbol 78 = .ok (.getfield 23, 3) := by decide +kernel
theorem d_Model_readSymbol_81 : decode c_Model_readSymbol 81 = .ok (.iload 4, 2) := by decide +kernel
theorem d_Model_readSymbol_83 : decode c_Model_readSymbol 83 = .ok (.iconst (-1), 1) := by decide +kernel
theorem d_Model_readSymbol_84 : decode c_Model_readSymbol 84 = .ok (.iastore, 1) := by decide +kernel
theorem d_Model_readSymbol_85 : decode c_Model_readSymbol 85 = .ok (.aload_n 0, 1) := by decide +kernel
theorem d_Model_readSymbol_86 : decode c_Model_readSymbol 86 = .ok (.getfield 26, 3) := by decide +kernel
theorem d_Model_readSymbol_89 : decode c_Model_readSymbol 89 = .ok (.iload 4, 2) := by decide +kernel
theorem d_Model_readSymbol_91 : decode c_Model_readSymbol 91 = .ok (.iconst 0, 1) := by decide +kernel
theorem d_Model_readSymbol_92 : decode c_Model_readSymbol 92 = .ok (.iastore, 1) := by decide +kernel
theorem d_Model_readSymbol_93 : decode c_Model_readSymbol 93 = .ok (.aload_n 0, 1) := by decide +kernel
theorem d_Model_readSymbol_94 : decode c_Model_readSymbol 94 = .ok (.getfield 29, 3) := by decide +kernel
theorem d_Model_readSymbol_97 : decode c_Model_readSymbol 97 = .ok (.iload 4, 2) := by decide +kernel
theorem d_Model_readSymbol_99 : decode c_Model_readSymbol 99 = .ok (.iconst 0, 1) := by decide +kernel
theorem d_Model_readSymbol_100 : decode c_Model_readSymbol 100 = .ok (.iastore, 1) := by decide +kernel
theorem d_Model_readSymbol_101 : decode c_Model_readSymbol 101 = .ok (.aload_n 0, 1) := by decide +kernel
theorem d_Model_readSymbol_102 : decode c_Model_readSymbol 102 = .ok (.ldc 101, 2) := by decide +kernel
theorem d_Model_readSymbol_104 : decode c_Model_readSymbol 104 = .ok (.invokevirtual 144, 3) := by decide +kernel
theorem d_Model_readSymbol_107 : decode c_Model_readSymbol 107 = .ok (.iconst 1, 1) := by decide +kernel
theorem d_Model_readSymbol_108 : decode c_Model_readSymbol 108 = .ok (.if_icmp .ne 119, 3) := by decide +kernel
theorem d_Model_readSymbol_111 : decode c_Model_readSymbol 111 = .ok (.aload_n 0, 1) := by decide +kernel
theorem d_Model_readSymbol_112 : decode c_Model_readSymbol 112 = .ok (.invokevirtual 179, 3) := by decide +kernel
theorem d_Model_readSymbol_115 : decode c_Model_readSymbol 115 = .ok (.istore 5, 2) := by decide +kernel
theorem d_Model_readSymbol_117 : decode c_Model_readSymbol 117 = .ok (.aload_n 0, 1) := by decide +kernel
theorem d_Model_readSymbol_118 : decode c_Model_readSymbol 118 = .ok (.getfield 150, 3) := by decide +kernel
theorem d_Model_readSymbol_121 : decode c_Model_readSymbol 121 = .ok (.ifCond .ge 14, 3) := by decide +kernel
theorem d_Model_readSymbol_124 : decode c_Model_readSymbol 124 = .ok (.iload 5, 2) := by decide +kernel
theorem d_Model_readSymbol_126 : decode c_Model_readSymbol 126 = .ok (.iload_n 1, 1) := by decide +kernel
theorem d_Model_readSymbol_127 : decode c_Model_readSymbol 127 = .ok (.if_icmp .lt 8, 3) := by decide +kernel
theorem d_Model_readSymbol_130 : decode c_Model_readSymbol 130 = .ok (.aload_n 0, 1) := by decide +kernel
theorem d_Model_readSymbol_131 : decode c_Model_readSymbol 131 = .ok (.iconst 3, 1) := by decide +kernel
theorem d_Model_readSymbol_132 : decode c_Model_readSymbol 132 = .ok (.putfield 150, 3) := by decide +kernel
theorem d_Model_readSymbol_135 : decode c_Model_readSymbol 135 = .ok (.aload_n 0, 1) := by decide +kernel
theorem d_Model_readSymbol_136 : decode c_Model_readSymbol 136 = .ok (.getfield 150, 3) := by decide +kernel
theorem d_Model_readSymbol_139 : decode c_Model_readSymbol 139 = .ok (.ifCond .lt 4, 3) := by decide +kernel
theorem d_Model_readSymbol_142 : decode c_Model_readSymbol 142 = .ok (.return_, 1) := by decide +kernel
theorem d_Model_readSymbol_143 : decode c_Model_readSymbol 143 = .ok (.aload_n 0, 1) := by decide +kernel
theorem d_Model_readSymbol_144 : decode c_Model_readSymbol 144 = .ok (.getfield 23, 3) := by decide +kernel
theorem d_Model_readSymbol_147 : decode c_Model_readSymbol 147 = .ok (.iload 4, 2) := by decide +kernel
theorem d_Model_readSymbol_149 : decode c_Model_readSymbol 149 = .ok (.iload_n 1, 1) := by decide +kernel
theorem d_Model_readSymbol_150 : decode c_Model_readSymbol 150 = .ok (.iconst 1, 1) := by decide +kernel
theorem d_Model_readSymbol_151 : decode c_Model_readSymbol 151 = .ok (.isub, 1) := by decide +kernel
theorem d_Model_readSymbol_152 : decode c_Model_readSymbol 152 = .ok (.iload 5, 2) := by decide +kernel
theorem d_Model_readSymbol_154 : decode c_Model_readSymbol 154 = .ok (.isub, 1) := by decide +kernel
theorem d_Model_readSymbol_155 : decode c_Model_readSymbol 155 = .ok (.iastore, 1) := by decide +kernel
theorem d_Model_readSymbol_156 : decode c_Model_readSymbol 156 = .ok (.aload_n 0, 1) := by decide +kernel
theorem d_Model_readSymbol_157 : decode c_Model_readSymbol 157 = .ok (.getfield 26, 3) := by decide +kernel
theorem d_Model_readSymbol_160 : decode c_Model_readSymbol 160 = .ok (.iload 4, 2) := by decide +kernel
theorem d_Model_readSymbol_162 : decode c_Model_readSymbol 162 = .ok (.aload_n 0, 1) := by decide +kernel
theorem d_Model_readSymbol_163 : decode c_Model_readSymbol 163 = .ok (.iconst 4, 1) := by decide +kernel
theorem d_Model_readSymbol_164 : decode c_Model_readSymbol 164 = .ok (.invokevirtual 153, 3) := by decide +kernel
theorem d_Model_readSymbol_167 : decode c_Model_readSymbol 167 = .ok (.iconst 4, 1) := by decide +kernel
theorem d_Model_readSymbol_168 : decode c_Model_readSymbol 168 = .ok (.isub, 1) := by decide +kernel
theorem d_Model_readSymbol_169 : decode c_Model_readSymbol 169 = .ok (.iastore, 1) := by decide +kernel
theorem d_Model_readSymbol_170 : decode c_Model_readSymbol 170 = .ok (.aload_n 0, 1) := by decide +kernel
theorem d_Model_readSymbol_171 : decode c_Model_readSymbol 171 = .ok (.getfield 29, 3) := by decide +kernel
theorem d_Model_readSymbol_174 : decode c_Model_readSymbol 174 = .ok (.iload 4, 2) := by decide +kernel
theorem d_Model_readSymbol_176 : decode c_Model_readSymbol 176 = .ok (.aload_n 0, 1) := by decide +kernel
theorem d_Model_readSymbol_177 : decode c_Model_readSymbol 177 = .ok (.getfield 26, 3) := by decide +kernel
theorem d_Model_readSymbol_180 : decode c_Model_readSymbol 180 = .ok (.iload 4, 2) := by decide +kernel
theorem d_Model_readSymbol_182 : decode c_Model_readSymbol 182 = .ok (.iaload, 1) := by decide +kernel
theorem d_Model_readSymbol_183 : decode c_Model_readSymbol 183 = .ok (.iconst 4, 1) := by decide +kernel
theorem d_Model_readSymbol_184 : decode c_Model_readSymbol 184 = .ok (.if_icmp .le 7, 3) := by decide +kernel
theorem d_Model_readSymbol_187 : decode c_Model_readSymbol 187 = .ok (.iconst 5, 1) := by decide +kernel
theorem d_Model_readSymbol_188 : decode c_Model_readSymbol 188 = .ok (.goto 10, 3) := by decide +kernel
theorem d_Model_readSymbol_191 : decode c_Model_readSymbol 191 = .ok (.aload_n 0, 1) := by decide +kernel
theorem d_Model_readSymbol_192 : decode c_Model_readSymbol 192 = .ok (.iconst 4, 1) := by decide +kernel
theorem d_Model_readSymbol_193 : decode c_Model_readSymbol 193 = .ok (.invokevirtual 153, 3) := by decide +kernel
theorem d_Model_readSymbol_196 : decode c_Model_readSymbol 196 = .ok (.iconst 4, 1) := by decide +kernel
theorem d_Model_readSymbol_197 : decode c_Model_readSymbol 197 = .ok (.isub, 1) := by decide +kernel
theorem d_Model_readSymbol_198 : decode c_Model_readSymbol 198 = .ok (.iastore, 1) := by decide +kernel
theorem d_Model_readSymbol_199 : decode c_Model_readSymbol 199 = .ok (.aload_n 0, 1) := by decide +kernel
theorem d_Model_readSymbol_200 : decode c_Model_readSymbol 200 = .ok (.getfield 26, 3) := by decide +kernel
theorem d_Model_readSymbol_203 : decode c_Model_readSymbol 203 = .ok (.iload 4, 2) := by decide +kernel
theorem d_Model_readSymbol_205 : decode c_Model_readSymbol 205 = .ok (.iaload, 1) := by decide +kernel
theorem d_Model_readSymbol_206 : decode c_Model_readSymbol 206 = .ok (.iconst 4, 1) := by decide +kernel
theorem d_Model_readSymbol_207 : decode c_Model_readSymbol 207 = .ok (.if_icmp .gt 14, 3) := by decide +kernel
theorem d_Model_readSymbol_210 : decode c_Model_readSymbol 210 = .ok (.aload_n 0, 1) := by decide +kernel
theorem d_Model_readSymbol_211 : decode c_Model_readSymbol 211 = .ok (.getfield 29, 3) := by decide +kernel
theorem d_Model_readSymbol_214 : decode c_Model_readSymbol 214 = .ok (.iload 4, 2) := by decide +kernel
theorem d_Model_readSymbol_216 : decode c_Model_readSymbol 216 = .ok (.iaload, 1) := by decide +kernel
theorem d_Model_readSymbol_217 : decode c_Model_readSymbol 217 = .ok (.iconst 4, 1) := by decide +kernel
theorem d_Model_readSymbol_218 : decode c_Model_readSymbol 218 = .ok (.if_icmp .le 9, 3) := by decide +kernel
theorem d_Model_readSymbol_221 : decode c_Model_readSymbol 221 = .ok (.aload_n 0, 1) := by decide +kernel
theorem d_Model_readSymbol_222 : decode c_Model_readSymbol 222 = .ok (.iconst 4, 1) := by decide +kernel
theorem d_Model_readSymbol_223 : decode c_Model_readSymbol 223 = .ok (.putfield 150, 3) := by decide +kernel
theorem d_Model_readSymbol_226 : decode c_Model_readSymbol 226 = .ok (.return_, 1) := by decide +kernel
theorem d_Model_readSymbol_227 : decode c_Model_readSymbol 227 = .ok (.aload_n 0, 1) := by decide +kernel
theorem d_Model_readSymbol_228 : decode c_Model_readSymbol 228 = .ok (.iload 4, 2) := by decide +kernel
theorem d_Model_readSymbol_230 : decode c_Model_readSymbol 230 = .ok (.aload_n 0, 1) := by decide +kernel
theorem d_Model_readSymbol_231 : decode c_Model_readSymbol 231 = .ok (.getfield 23, 3) := by decide +kernel
theorem d_Model_readSymbol_234 : decode c_Model_readSymbol 234 = .ok (.iload 4, 2) := by decide +kernel
theorem d_Model_readSymbol_236 : decode c_Model_readSymbol 236 = .ok (.iaload, 1) := by decide +kernel
theorem d_Model_readSymbol_237 : decode c_Model_readSymbol 237 = .ok (.ifCond .ge 7, 3) := by decide +kernel
theorem d_Model_readSymbol_240 : decode c_Model_readSymbol 240 = .ok (.iconst (-1), 1) := by decide +kernel
theorem d_Model_readSymbol_241 : decode c_Model_readSymbol 241 = .ok (.goto 13, 3) := by decide +kernel
theorem d_Model_readSymbol_244 : decode c_Model_readSymbol 244 = .ok (.bipush 40, 2) := by decide +kernel
theorem d_Model_readSymbol_246 : decode c_Model_readSymbol 246 = .ok (.aload_n 0, 1) := by decide +kernel
theorem d_Model_readSymbol_247 : decode c_Model_readSymbol 247 = .ok (.getfield 23, 3) := by decide +kernel
theorem d_Model_readSymbol_250 : decode c_Model_readSymbol 250 = .ok (.iload 4, 2) := by decide +kernel
theorem d_Model_readSymbol_252 : decode c_Model_readSymbol 252 = .ok (.iaload, 1) := by decide +kernel
theorem d_Model_readSymbol_253 : decode c_Model_readSymbol 253 = .ok (.iadd, 1) := by decide +kernel
theorem d_Model_readSymbol_254 : decode c_Model_readSymbol 254 = .ok (.invokevirtual 196, 3) := by decide +kernel
theorem d_Model_readSymbol_257 : decode c_Model_readSymbol 257 = .ok (.return_, 1) := by decide +kernel
abbrev ws_Model_readClasses : List Cond := .code y_Model_readClasses c_Model_readClasses 6 none :: tb
theorem hd_Model_readClasses : y_Model_readClasses.cls = R_Model ∧ y_Model_readClasses.cls ≠ "java/lang/invoke/MethodHandle" ∧ y_Model_readClasses.cls ≠ "java/lang/invoke/VarHandle" ∧ (parseMethodDescriptor y_Model_readClasses.desc).map (fun d => d.parameters.length) = some 1 := by decide +kernel
theorem d_Model_readClasses_0 : decode c_Model_readClasses 0 = .ok (.iconst 0, 1) := by decide +kernel
theorem d_Model_readClasses_1 : decode c_Model_readClasses 1 = .ok (.istore_n 2, 1) := by decide +kernel
theorem d_Model_readClasses_2 : decode c_Model_readClasses 2 = .ok (.iconst 0, 1) := by decide +kernel
theorem d_Model_readClasses_3 : decode c_Model_readClasses 3 = .ok (.istore_n 3, 1) := by decide +kernel
theorem d_Model_readClasses_4 : decode c_Model_readClasses 4 = .ok (.iload_n 2, 1) := by decide +kernel
theorem d_Model_readClasses_5 : decode c_Model_readClasses 5 = .ok (.iload_n 1, 1) := by decide +kernel
theorem d_Model_readClasses_6 : decode c_Model_readClasses 6 = .ok (.if_icmp .ge 169, 3) := by decide +kernel
theorem d_Model_readClasses_9 : decode c_Model_readClasses 9 = .ok (.iload_n 3, 1) := by decide +kernel
theorem d_Model_readClasses_10 : decode c_Model_readClasses 10 = .ok (.aload_n 0, 1) := by decide +kernel
theorem d_Model_readClasses_11 : decode c_Model_readClasses 11 = .ok (.invokevirtual 179, 3) := by decide +kernel
theorem d_Model_readClasses_14 : decode c_Model_readClasses 14 = .ok (.iconst 1, 1) := by decide +kernel
theorem d_Model_readClasses_15 : decode c_Model_readClasses 15 = .ok (.iadd, 1) := by decide +kernel
theorem d_Model_readClasses_16 : decode c_Model_readClasses 16 = .ok (.iadd, 1) := by decide +kernel
theorem d_Model_readClasses_17 : decode c_Model_readClasses 17 = .ok (.istore_n 3, 1) := by decide +kernel
theorem d_Model_readClasses_18 : decode c_Model_readClasses 18 = .ok (.aload_n 0, 1) := by decide +kernel
theorem d_Model_readClasses_19 : decode c_Model_readClasses 19 = .ok (.getfield 150, 3) := by decide +kernel
theorem d_Model_readClasses_22 : decode c_Model_readClasses 22 = .ok (.ifCond .ge 14, 3) := by decide +kernel
theorem d_Model_readClasses_25 : decode c_Model_readClasses 25 = .ok (.iload_n 3, 1) := by decide +kernel
theorem d_Model_readClasses_26 : decode c_Model_readClasses 26 = .ok (.bipush 16, 2) := by decide +kernel
theorem d_Model_readClasses_28 : decode c_Model_readClasses 28 = .ok (.if_icmp .le 8, 3) := by decide +kernel
theorem d_Model_readClasses_31 : decode c_Model_readClasses 31 = .ok (.aload_n 0, 1) := by decide +kernel
theorem d_Model_readClasses_32 : decode c_Model_readClasses 32 = .ok (.iconst 1, 1) := by decide +kernel
theorem d_Model_readClasses_33 : decode c_Model_readClasses 33 = .ok (.putfield 150, 3) := by decide +kernel
theorem d_Model_readClasses_36 : decode c_Model_readClasses 36 = .ok (.iload_n 2, 1) := by decide +kernel
theorem d_Model_readClasses_37 : decode c_Model_readClasses 37 = .ok (.istore 4, 2) := by decide +kernel
theorem d_Model_readClasses_39 : decode c_Model_readClasses 39 = .ok (.aload_n 0, 1) := by decide +kernel
theorem d_Model_readClasses_40 : decode c_Model_readClasses 40 = .ok (.getfield 150, 3) := by decide +kernel
theorem d_Model_readClasses_43 : decode c_Model_readClasses 43 = .ok (.ifCond .ge 7, 3) := by decide +kernel
theorem d_Model_readClasses_46 : decode c_Model_readClasses 46 = .ok (.iconst 1, 1) := by decide +kernel
theorem d_Model_readClasses_47 : decode c_Model_readClasses 47 = .ok (.goto 4, 3) := by decide +kernel
theorem d_Model_readClasses_50 : decode c_Model_readClasses 50 = .ok (.iconst 0, 1) := by decide +kernel
theorem d_Model_readClasses_51 : decode c_Model_readClasses 51 = .ok (.istore 5, 2) := by decide +kernel
theorem d_Model_readClasses_53 : decode c_Model_readClasses 53 = .ok (.iload 5, 2) := by decide +kernel
theorem d_Model_readClasses_55 : decode c_Model_readClasses 55 = .ok (.ifCond .eq 109, 3) := by decide +kernel
theorem d_Model_readClasses_58 : decode c_Model_readClasses 58 = .ok (.aload_n 0, 1) := by decide +kernel
theorem d_Model_readClasses_59 : decode c_Model_readClasses 59 = .ok (.ldc 101, 2) := by decide +kernel
theorem d_Model_readClasses_61 : decode c_Model_readClasses 61 = .ok (.invokevirtual 144, 3) := by decide +kernel
theorem d_Model_readClasses_64 : decode c_Model_readClasses 64 = .ok (.iconst 1, 1) := by decide +kernel
theorem d_Model_readClasses_65 : decode c_Model_readClasses 65 = .ok (.if_icmp .ne 7, 3) := by decide +kernel
theorem d_Model_readClasses_68 : decode c_Model_readClasses 68 = .ok (.iconst 1, 1) := by decide +kernel
theorem d_Model_readClasses_69 : decode c_Model_readClasses 69 = .ok (.goto 4, 3) := by decide +kernel
theorem d_Model_readClasses_72 : decode c_Model_readClasses 72 = .ok (.iconst 0, 1) := by decide +kernel
theorem d_Model_readClasses_73 : decode c_Model_readClasses 73 = .ok (.istore 5, 2) := by decide +kernel
theorem d_Model_readClasses_75 : decode c_Model_readClasses 75 = .ok (.iload 5, 2) := by decide +kernel
theorem d_Model_readClasses_77 : decode c_Model_readClasses 77 = .ok (.ifCond .eq 16, 3) := by decide +kernel
theorem d_Model_readClasses_80 : decode c_Model_readClasses 80 = .ok (.iload_n 2, 1) := by decide +kernel
theorem d_Model_readClasses_81 : decode c_Model_readClasses 81 = .ok (.iload_n 1, 1) := by decide +kernel
theorem d_Model_readClasses_82 : decode c_Model_readClasses 82 = .ok (.if_icmp .ne 11, 3) := by decide +kernel
theorem d_Model_readClasses_85 : decode c_Model_readClasses 85 = .ok (.aload_n 0, 1) := by decide +kernel
theorem d_Model_readClasses_86 : decode c_Model_readClasses 86 = .ok (.iconst 0, 1) := by decide +kernel
theorem d_Model_readClasses_87 : decode c_Model_readClasses 87 = .ok (.putfield 150, 3) := by decide +kernel
theorem d_Model_readClasses_90 : decode c_Model_readClasses 90 = .ok (.goto 52, 3) := by decide +kernel
theorem d_Model_readClasses_93 : decode c_Model_readClasses 93 = .ok (.iload 5, 2) := by decide +kernel
theorem d_Model_readClasses_95 : decode c_Model_readClasses 95 = .ok (.ifCond .eq 36, 3) := by decide +kernel
theorem d_Model_readClasses_98 : decode c_Model_readClasses 98 = .ok (.aload_n 0, 1) := by decide +kernel
theorem d_Model_readClasses_99 : decode c_Model_readClasses 99 = .ok (.iload_n 2, 1) := by decide +kernel
theorem d_Model_readClasses_100 : decode c_Model_readClasses 100 = .ok (.iload_n 3, 1) := by decide +kernel
theorem d_Model_readClasses_101 : decode c_Model_readClasses 101 = .ok (.iload_n 2, 1) := by decide +kernel
theorem d_Model_readClasses_102 : decode c_Model_readClasses 102 = .ok (.iload 4, 2) := by decide +kernel
theorem d_Model_readClasses_104 : decode c_Model_readClasses 104 = .ok (.if_icmp .ne 7, 3) := by decide +kernel
theorem d_Model_readClasses_107 : decode c_Model_readClasses 107 = .ok (.iconst 0, 1) := by decide +kernel
theorem d_Model_readClasses_108 : decode c_Model_readClasses 108 = .ok (.goto 14, 3) := by decide +kernel
theorem d_Model_readClasses_111 : decode c_Model_readClasses 111 = .ok (.aload_n 0, 1) := by decide +kernel
theorem d_Model_readClasses_112 : decode c_Model_readClasses 112 = .ok (.getfield 7, 3) := by decide +kernel
theorem d_Model_readClasses_115 : decode c_Model_readClasses 115 = .ok (.bipush 40, 2) := by decide +kernel
theorem d_Model_readClasses_117 : decode c_Model_readClasses 117 = .ok (.iload_n 2, 1) := by decide +kernel
theorem d_Model_readClasses_118 : decode c_Model_readClasses 118 = .ok (.iadd, 1) := by decide +kernel
theorem d_Model_readClasses_119 : decode c_Model_readClasses 119 = .ok (.iconst 1, 1) := by decide +kernel
theorem d_Model_readClasses_120 : decode c_Model_readClasses 120 = .ok (.isub, 1) := by decide +kernel
theorem d_Model_readClasses_121 : decode c_Model_readClasses 121 = .ok (.iaload, 1) := by decide +kernel
theorem d_Model_readClasses_122 : decode c_Model_readClasses 122 = .ok (.invokevirtual 199, 3) := by decide +kernel
theorem d_Model_readClasses_125 : decode c_Model_readClasses 125 = .ok (.iinc 2 1, 3) := by decide +kernel
theorem d_Model_readClasses_128 : decode c_Model_readClasses 128 = .ok (.goto 14, 3) := by decide +kernel
theorem d_Model_readClasses_131 : decode c_Model_readClasses 131 = .ok (.iload_n 2, 1) := by decide +kernel
theorem d_Model_readClasses_132 : decode c_Model_readClasses 132 = .ok (.iload 4, 2) := by decide +kernel
theorem d_Model_readClasses_134 : decode c_Model_readClasses 134 = .ok (.if_icmp .ne 8, 3) := by decide +kernel
theorem d_Model_readClasses_137 : decode c_Model_readClasses 137 = .ok (.aload_n 0, 1) := by decide +kernel
theorem d_Model_readClasses_138 : decode c_Model_readClasses 138 = .ok (.iconst 1, 1) := by decide +kernel
theorem d_Model_readClasses_139 : decode c_Model_readClasses 139 = .ok (.putfield 150, 3) := by decide +kernel
theorem d_Model_readClasses_142 : decode c_Model_readClasses 142 = .ok (.iload 5, 2) := by decide +kernel
theorem d_Model_readClasses_144 : decode c_Model_readClasses 144 = .ok (.ifCond .eq 14, 3) := by decide +kernel
theorem d_Model_readClasses_147 : decode c_Model_readClasses 147 = .ok (.aload_n 0, 1) := by decide +kernel
theorem d_Model_readClasses_148 : decode c_Model_readClasses 148 = .ok (.getfield 150, 3) := by decide +kernel
theorem d_Model_readClasses_151 : decode c_Model_readClasses 151 = .ok (.ifCond .ge 7, 3) := by decide +kernel
theorem d_Model_readClasses_154 : decode c_Model_readClasses 154 = .ok (.iconst 1, 1) := by decide +kernel
theorem d_Model_readClasses_155 : decode c_Model_readClasses 155 = .ok (.goto 4, 3) := by decide +kernel
theorem d_Model_readClasses_158 : decode c_Model_readClasses 158 = .ok (.iconst 0, 1) := by decide +kernel
theorem d_Model_readClasses_159 : decode c_Model_readClasses 159 = .ok (.istore 5, 2) := by decide +kernel
theorem d_Model_readClasses_161 : decode c_Model_readClasses 161 = .ok (.goto (-108), 3) := by decide +kernel
theorem d_Model_readClasses_164 : decode c_Model_readClasses 164 = .ok (.aload_n 0, 1) := by decide +kernel
theorem d_Model_readClasses_165 : decode c_Model_readClasses 165 = .ok (.getfield 150, 3) := by decide +kernel
theorem d_Model_readClasses_168 : decode c_Model_readClasses 168 = .ok (.ifCond .lt 4, 3) := by decide +kernel
theorem d_Model_readClasses_171 : decode c_Model_readClasses 171 = .ok (.return_, 1) := by decide +kernel
theorem d_Model_readClasses_172 : decode c_Model_readClasses 172 = .ok (.goto (-168), 3) := by decide +kernel
theorem d_Model_readClasses_175 : decode c_Model_readClasses 175 = .ok (.return_, 1) := by decide +kernel
abbrev ws_Model_readExports : List Cond := .code y_Model_readExports c_Model_readExports 6 none :: tb
theorem hd_Model_readExports : y_Model_readExports.cls = R_Model ∧ y_Model_readExports.cls ≠ "java/lang/invoke/MethodHandle" ∧ y_Model_readExports.cls ≠ "java/lang/invoke/VarHandle" ∧ (parseMethodDescriptor y_Model_readExports.desc).map (fun d => d.parameters.length) = some 1 := by decide +kernel
theorem d_Model_readExports_0 : decode c_Model_readExports 0 = .ok (.iconst 0, 1) := by decide +kernel
theorem d_Model_readExports_1 : decode c_Model_readExports 1 = .ok (.istore_n 2, 1) := by decide +kernel
theorem d_Model_readExports_2 : decode c_Model_readExports 2 = .ok (.iconst 0, 1) := by decide +kernel
theorem d_Model_readExports_3 : decode c_Model_readExports 3 = .ok (.istore_n 3, 1) := by decide +kernel
theorem d_Model_readExports_4 : decode c_Model_readExports 4 = .ok (.iload_n 2, 1) := by decide +kernel
theorem d_Model_readExports_5 : decode c_Model_readExports 5 = .ok (.iload_n 1, 1) := by decide +kernel
theorem d_Model_readExports_6 : decode c_Model_readExports 6 = .ok (.if_icmp .ge 98, 3) := by decide +kernel
theorem d_Model_readExports_9 : decode c_Model_readExports 9 = .ok (.aload_n 0, 1) := by decide +kernel
theorem d_Model_readExports_10 : decode c_Model_readExports 10 = .ok (.invokevirtual 179, 3) := by decide +kernel
theorem d_Model_readExports_13 : decode c_Model_readExports 13 = .ok (.istore 4, 2) := by decide +kernel
theorem d_Model_readExports_15 : decode c_Model_readExports 15 = .ok (.aload_n 0, 1) := by decide +kernel
theorem d_Model_readExports_16 : decode c_Model_readExports 16 = .ok (.getfield 150, 3) := by decide +kernel
theorem d_Model_readExports_19 : decode c_Model_readExports 19 = .ok (.ifCond .ge 30, 3) := by decide +kernel
theorem d_Model_readExports_22 : decode c_Model_readExports 22 = .ok (.iload 4, 2) := by decide +kernel
theorem d_Model_readExports_24 : decode c_Model_readExports 24 = .ok (.iload_n 1, 1) := by decide +kernel
theorem d_Model_readExports_25 : decode c_Model_readExports 25 = .ok (.iload_n 2, 1) := by decide +kernel
theorem d_Model_readExports_26 : decode c_Model_readExports 26 = .ok (.isub, 1) := by decide +kernel
theorem d_Model_readExports_27 : decode c_Model_readExports 27 = .ok (.if_icmp .gt 16, 3) := by decide +kernel
theorem d_Model_readExports_30 : decode c_Model_readExports 30 = .ok (.iload 4, 2) := by decide +kernel
theorem d_Model_readExports_32 : decode c_Model_readExports 32 = .ok (.ifCond .ne 17, 3) := by decide +kernel
theorem d_Model_readExports_35 : decode c_Model_readExports 35 = .ok (.iload_n 3, 1) := by decide +kernel
theorem d_Model_readExports_36 : decode c_Model_readExports 36 = .ok (.ifCond .ne 7, 3) := by decide +kernel
theorem d_Model_readExports_39 : decode c_Model_readExports 39 = .ok (.iload_n 2, 1) := by decide +kernel
theorem d_Model_readExports_40 : decode c_Model_readExports 40 = .ok (.ifCond .le 9, 3) := by decide +kernel
theorem d_Model_readExports_43 : decode c_Model_readExports 43 = .ok (.aload_n 0, 1) := by decide +kernel
theorem d_Model_readExports_44 : decode c_Model_readExports 44 = .ok (.bipush 6, 2) := by decide +kernel
theorem d_Model_readExports_46 : decode c_Model_readExports 46 = .ok (.putfield 150, 3) := by decide +kernel
theorem d_Model_readExports_49 : decode c_Model_readExports 49 = .ok (.aload_n 0, 1) := by decide +kernel
theorem d_Model_readExports_50 : decode c_Model_readExports 50 = .ok (.getfield 150, 3) := by decide +kernel
theorem d_Model_readExports_53 : decode c_Model_readExports 53 = .ok (.ifCond .lt 4, 3) := by decide +kernel
theorem d_Model_readExports_56 : decode c_Model_readExports 56 = .ok (.return_, 1) := by decide +kernel
theorem d_Model_readExports_57 : decode c_Model_readExports 57 = .ok (.iload_n 2, 1) := by decide +kernel
theorem d_Model_readExports_58 : decode c_Model_readExports 58 = .ok (.istore 5, 2) := by decide +kernel
theorem d_Model_readExports_60 : decode c_Model_readExports 60 = .ok (.iload 5, 2) := by decide +kernel
theorem d_Model_readExports_62 : decode c_Model_readExports 62 = .ok (.iload_n 2, 1) := by decide +kernel
theorem d_Model_readExports_63 : decode c_Model_readExports 63 = .ok (.iload 4, 2) := by decide +kernel
theorem d_Model_readExports_65 : decode c_Model_readExports 65 = .ok (.iadd, 1) := by decide +kernel
theorem d_Model_readExports_66 : decode c_Model_readExports 66 = .ok (.if_icmp .ge 20, 3) := by decide +kernel
theorem d_Model_readExports_69 : decode c_Model_readExports 69 = .ok (.aload_n 0, 1) := by decide +kernel
theorem d_Model_readExports_70 : decode c_Model_readExports 70 = .ok (.getfield 19, 3) := by decide +kernel
theorem d_Model_readExports_73 : decode c_Model_readExports 73 = .ok (.bipush 40, 2) := by decide +kernel
theorem d_Model_readExports_75 : decode c_Model_readExports 75 = .ok (.iload 5, 2) := by decide +kernel
theorem d_Model_readExports_77 : decode c_Model_readExports 77 = .ok (.iadd, 1) := by decide +kernel
theorem d_Model_readExports_78 : decode c_Model_readExports 78 = .ok (.iload_n 3, 1) := by decide +kernel
theorem d_Model_readExports_79 : decode c_Model_readExports 79 = .ok (.bastore, 1) := by decide +kernel
theorem d_Model_readExports_80 : decode c_Model_readExports 80 = .ok (.iinc 5 1, 3) := by decide +kernel
theorem d_Model_readExports_83 : decode c_Model_readExports 83 = .ok (.goto (-23), 3) := by decide +kernel
theorem d_Model_readExports_86 : decode c_Model_readExports 86 = .ok (.iload_n 2, 1) := by decide +kernel
theorem d_Model_readExports_87 : decode c_Model_readExports 87 = .ok (.iload 4, 2) := by decide +kernel
theorem d_Model_readExports_89 : decode c_Model_readExports 89 = .ok (.iadd, 1) := by decide +kernel
theorem d_Model_readExports_90 : decode c_Model_readExports 90 = .ok (.istore_n 2, 1) := by decide +kernel
theorem d_Model_readExports_91 : decode c_Model_readExports 91 = .ok (.iload_n 3, 1) := by decide +kernel
theorem d_Model_readExports_92 : decode c_Model_readExports 92 = .ok (.ifCond .ne 7, 3) := by decide +kernel
theorem d_Model_readExports_95 : decode c_Model_readExports 95 = .ok (.iconst 1, 1) := by decide +kernel
theorem d_Model_readExports_96 : decode c_Model_readExports 96 = .ok (.goto 4, 3) := by decide +kernel
theorem d_Model_readExports_99 : decode c_Model_readExports 99 = .ok (.iconst 0, 1) := by decide +kernel
theorem d_Model_readExports_100 : decode c_Model_readExports 100 = .ok (.istore_n 3, 1) := by decide +kernel
theorem d_Model_readExports_101 : decode c_Model_readExports 101 = .ok (.goto (-97), 3) := by decide +kernel
theorem d_Model_readExports_104 : decode c_Model_readExports 104 = .ok (.return_, 1) := by decide +kernel
abbrev ws_Model_read : List Cond := .code y_Model_read c_Model_read 5 (some .int) :: tb
theorem hd_Model_read : y_Model_read.cls = R_Model ∧ y_Model_read.cls ≠ "java/lang/invoke/MethodHandle" ∧ y_Model_read.cls ≠ "java/lang/invoke/VarHandle" ∧ (parseMethodDescriptor y_Model_read.desc).map (fun d => d.parameters.length) = some 0 := by decide +kernel
theorem d_Model_read_0 : decode c_Model_read 0 = .ok (.aload_n 0, 1) := by decide +kernel
theorem d_Model_read_1 : decode c_Model_read 1 = .ok (.iconst 0, 1) := by decide +kernel
theorem d_Model_read_2 : decode c_Model_read 2 = .ok (.putfield 60, 3) := by decide +kernel
theorem d_Model_read_5 : decode c_Model_read 5 = .ok (.aload_n 0, 1) := by decide +kernel
theorem d_Model_read_6 : decode c_Model_read 6 = .ok (.iconst (-1), 1) := by decide +kernel
theorem d_Model_read_7 : decode c_Model_read 7 = .ok (.putfield 150, 3) := by decide +kernel
theorem d_Model_read_10 : decode c_Model_read 10 = .ok (.aload_n 0, 1) := by decide +kernel
theorem d_Model_read_11 : decode c_Model_read 11 = .ok (.iconst 0, 1) := by decide +kernel
theorem d_Model_read_12 : decode c_Model_read 12 = .ok (.putfield 127, 3) := by decide +kernel
theorem d_Model_read_15 : decode c_Model_read 15 = .ok (.aload_n 0, 1) := by decide +kernel
theorem d_Model_read_16 : decode c_Model_read 16 = .ok (.invokevirtual 185, 3) := by decide +kernel
theorem d_Model_read_19 : decode c_Model_read 19 = .ok (.aload_n 0, 1) := by decide +kernel
theorem d_Model_read_20 : decode c_Model_read 20 = .ok (.lconst 0, 1) := by decide +kernel
theorem d_Model_read_21 : decode c_Model_read 21 = .ok (.putfield 133, 3) := by decide +kernel
theorem d_Model_read_24 : decode c_Model_read 24 = .ok (.iconst 0, 1) := by decide +kernel
theorem d_Model_read_25 : decode c_Model_read 25 = .ok (.istore_n 1, 1) := by decide +kernel
theorem d_Model_read_26 : decode c_Model_read 26 = .ok (.iload_n 1, 1) := by decide +kernel
theorem d_Model_read_27 : decode c_Model_read 27 = .ok (.iconst 4, 1) := by decide +kernel
theorem d_Model_read_28 : decode c_Model_read 28 = .ok (.if_icmp .ge 34, 3) := by decide +kernel
theorem d_Model_read_31 : decode c_Model_read 31 = .ok (.aload_n 0, 1) := by decide +kernel
theorem d_Model_read_32 : decode c_Model_read 32 = .ok (.getfield 56, 3) := by decide +kernel
theorem d_Model_read_35 : decode c_Model_read 35 = .ok (.iconst 2, 1) := by decide +kernel
theorem d_Model_read_36 : decode c_Model_read 36 = .ok (.if_icmp .ne 26, 3) := by decide +kernel
theorem d_Model_read_39 : decode c_Model_read 39 = .ok (.aload_n 0, 1) := by decide +kernel
theorem d_Model_read_40 : decode c_Model_read 40 = .ok (.aload_n 0, 1) := by decide +kernel
theorem d_Model_read_41 : decode c_Model_read 41 = .ok (.getfield 133, 3) := by decide +kernel
theorem d_Model_read_44 : decode c_Model_read 44 = .ok (.bipush 8, 2) := by decide +kernel
theorem d_Model_read_46 : decode c_Model_read 46 = .ok (.lshl, 1) := by decide +kernel
theorem d_Model_read_47 : decode c_Model_read 47 = .ok (.aload_n 0, 1) := by decide +kernel
theorem d_Model_read_48 : decode c_Model_read 48 = .ok (.invokevirtual 136, 3) := by decide +kernel
theorem d_Model_read_51 : decode c_Model_read 51 = .ok (.i2l, 1) := by decide +kernel
theorem d_Model_read_52 : decode c_Model_read 52 = .ok (.lor, 1) := by decide +kernel
theorem d_Model_read_53 : decode c_Model_read 53 = .ok (.putfield 133, 3) := by decide +kernel
theorem d_Model_read_56 : decode c_Model_read 56 = .ok (.iinc 1 1, 3) := by decide +kernel
theorem d_Model_read_59 : decode c_Model_read 59 = .ok (.goto (-33), 3) := by decide +kernel
theorem d_Model_read_62 : decode c_Model_read 62 = .ok (.aload_n 0, 1) := by decide +kernel
theorem d_Model_read_63 : decode c_Model_read 63 = .ok (.invokevirtual 179, 3) := by decide +kernel
theorem d_Model_read_66 : decode c_Model_read 66 = .ok (.istore_n 1, 1) := by decide +kernel
theorem d_Model_read_67 : decode c_Model_read 67 = .ok (.aload_n 0, 1) := by decide +kernel
theorem d_Model_read_68 : decode c_Model_read 68 = .ok (.getfield 150, 3) := by decide +kernel
theorem d_Model_read_71 : decode c_Model_read 71 = .ok (.ifCond .ge 14, 3) := by decide +kernel
theorem d_Model_read_74 : decode c_Model_read 74 = .ok (.iload_n 1, 1) := by decide +kernel
theorem d_Model_read_75 : decode c_Model_read 75 = .ok (.bipush 40, 2) := by decide +kernel
theorem d_Model_read_77 : decode c_Model_read 77 = .ok (.if_icmp .le 8, 3) := by decide +kernel
theorem d_Model_read_80 : decode c_Model_read 80 = .ok (.aload_n 0, 1) := by decide +kernel
theorem d_Model_read_81 : decode c_Model_read 81 = .ok (.iconst 0, 1) := by decide +kernel
theorem d_Model_read_82 : decode c_Model_read 82 = .ok (.putfield 150, 3) := by decide +kernel
theorem d_Model_read_85 : decode c_Model_read 85 = .ok (.aload_n 0, 1) := by decide +kernel
theorem d_Model_read_86 : decode c_Model_read 86 = .ok (.getfield 150, 3) := by decide +kernel
theorem d_Model_read_89 : decode c_Model_read 89 = .ok (.ifCond .ge 8, 3) := by decide +kernel
theorem d_Model_read_92 : decode c_Model_read 92 = .ok (.aload_n 0, 1) := by decide +kernel
theorem d_Model_read_93 : decode c_Model_read 93 = .ok (.iload_n 1, 1) := by decide +kernel
theorem d_Model_read_94 : decode c_Model_read 94 = .ok (.invokevirtual 203, 3) := by decide +kernel
theorem d_Model_read_97 : decode c_Model_read 97 = .ok (.aload_n 0, 1) := by decide +kernel
theorem d_Model_read_98 : decode c_Model_read 98 = .ok (.getfield 150, 3) := by decide +kernel
theorem d_Model_read_101 : decode c_Model_read 101 = .ok (.ifCond .ge 8, 3) := by decide +kernel
theorem d_Model_read_104 : decode c_Model_read 104 = .ok (.aload_n 0, 1) := by decide +kernel
theorem d_Model_read_105 : decode c_Model_read 105 = .ok (.iload_n 1, 1) := by decide +kernel
theorem d_Model_read_106 : decode c_Model_read 106 = .ok (.invokevirtual 206, 3) := by decide +kernel
theorem d_Model_read_109 : decode c_Model_read 109 = .ok (.aload_n 0, 1) := by decide +kernel
theorem d_Model_read_110 : decode c_Model_read 110 = .ok (.iconst 0, 1) := by decide +kernel
theorem d_Model_read_111 : decode c_Model_read 111 = .ok (.putfield 130, 3) := by decide +kernel
theorem d_Model_read_114 : decode c_Model_read 114 = .ok (.aload_n 0, 1) := by decide +kernel
theorem d_Model_read_115 : decode c_Model_read 115 = .ok (.getfield 150, 3) := by decide +kernel
theorem d_Model_read_118 : decode c_Model_read 118 = .ok (.ifCond .lt 10, 3) := by decide +kernel
theorem d_Model_read_121 : decode c_Model_read 121 = .ok (.iconst (-1), 1) := by decide +kernel
theorem d_Model_read_122 : decode c_Model_read 122 = .ok (.aload_n 0, 1) := by decide +kernel
theorem d_Model_read_123 : decode c_Model_read 123 = .ok (.getfield 150, 3) := by decide +kernel
theorem d_Model_read_126 : decode c_Model_read 126 = .ok (.isub, 1) := by decide +kernel
theorem d_Model_read_127 : decode c_Model_read 127 = .ok (.ireturn, 1) := by decide +kernel
theorem d_Model_read_128 : decode c_Model_read 128 = .ok (.aload_n 0, 1) := by decide +kernel
theorem d_Model_read_129 : decode c_Model_read 129 = .ok (.iload_n 1, 1) := by decide +kernel
theorem d_Model_read_130 : decode c_Model_read 130 = .ok (.putfield 63, 3) := by decide +kernel
theorem d_Model_read_133 : decode c_Model_read 133 = .ok (.aload_n 0, 1) := by decide +kernel
theorem d_Model_read_134 : decode c_Model_read 134 = .ok (.iconst 0, 1) := by decide +kernel
theorem d_Model_read_135 : decode c_Model_read 135 = .ok (.putfield 209, 3) := by decide +kernel
theorem d_Model_read_138 : decode c_Model_read 138 = .ok (.iconst 0, 1) := by decide +kernel
theorem d_Model_read_139 : decode c_Model_read 139 = .ok (.istore_n 2, 1) := by decide +kernel
theorem d_Model_read_140 : decode c_Model_read 140 = .ok (.iload_n 2, 1) := by decide +kernel
theorem d_Model_read_141 : decode c_Model_read 141 = .ok (.aload_n 0, 1) := by decide +kernel
theorem d_Model_read_142 : decode c_Model_read 142 = .ok (.getfield 63, 3) := by decide +kernel
theorem d_Model_read_145 : decode c_Model_read 145 = .ok (.if_icmp .ge 126, 3) := by decide +kernel
theorem d_Model_read_148 : decode c_Model_read 148 = .ok (.bipush 40, 2) := by decide +kernel
theorem d_Model_read_150 : decode c_Model_read 150 = .ok (.iload_n 2, 1) := by decide +kernel
theorem d_Model_read_151 : decode c_Model_read 151 = .ok (.iadd, 1) := by decide +kernel
theorem d_Model_read_152 : decode c_Model_read 152 = .ok (.istore_n 3, 1) := by decide +kernel
theorem d_Model_read_153 : decode c_Model_read 153 = .ok (.aload_n 0, 1) := by decide +kernel
theorem d_Model_read_154 : decode c_Model_read 154 = .ok (.getfield 7, 3) := by decide +kernel
theorem d_Model_read_157 : decode c_Model_read 157 = .ok (.iload_n 2, 1) := by decide +kernel
theorem d_Model_read_158 : decode c_Model_read 158 = .ok (.aload_n 0, 1) := by decide +kernel
theorem d_Model_read_159 : decode c_Model_read 159 = .ok (.getfield 7, 3) := by decide +kernel
theorem d_Model_read_162 : decode c_Model_read 162 = .ok (.iload_n 3, 1) := by decide +kernel
theorem d_Model_read_163 : decode c_Model_read 163 = .ok (.iaload, 1) := by decide +kernel
theorem d_Model_read_164 : decode c_Model_read 164 = .ok (.iastore, 1) := by decide +kernel
theorem d_Model_read_165 : decode c_Model_read 165 = .ok (.aload_n 0, 1) := by decide +kernel
theorem d_Model_read_166 : decode c_Model_read 166 = .ok (.getfield 13, 3) := by decide +kernel
theorem d_Model_read_169 : decode c_Model_read 169 = .ok (.iload_n 2, 1) := by decide +kernel
theorem d_Model_read_170 : decode c_Model_read 170 = .ok (.aload_n 0, 1) := by decide +kernel
theorem d_Model_read_171 : decode c_Model_read 171 = .ok (.getfield 13, 3) := by decide +kernel
theorem d_Model_read_174 : decode c_Model_read 174 = .ok (.iload_n 3, 1) := by decide +kernel
theorem d_Model_read_175 : decode c_Model_read 175 = .ok (.iaload, 1) := by decide +kernel
theorem d_Model_read_176 : decode c_Model_read 176 = .ok (.iastore, 1) := by decide +kernel
theorem d_Model_read_177 : decode c_Model_read 177 = .ok (.aload_n 0, 1) := by decide +kernel
theorem d_Model_read_178 : decode c_Model_read 178 = .ok (.getfield 19, 3) := by decide +kernel
theorem d_Model_read_181 : decode c_Model_read 181 = .ok (.iload_n 2, 1) := by decide +kernel
theorem d_Model_read_182 : decode c_Model_read 182 = .ok (.aload_n 0, 1) := by decide +kernel
theorem d_Model_read_183 : decode c_Model_read 183 = .ok (.getfield 19, 3) := by decide +kernel
theorem d_Model_read_186 : decode c_Model_read 186 = .ok (.iload_n 3, 1) := by decide +kernel
theorem d_Model_read_187 : decode c_Model_read 187 = .ok (.baload, 1) := by decide +kernel
theorem d_Model_read_188 : decode c_Model_read 188 = .ok (.bastore, 1) := by decide +kernel
theorem d_Model_read_189 : decode c_Model_read 189 = .ok (.aload_n 0, 1) := by decide +kernel
theorem d_Model_read_190 : decode c_Model_read 190 = .ok (.getfield 23, 3) := by decide +kernel
theorem d_Model_read_193 : decode c_Model_read 193 = .ok (.iload_n 2, 1) := by decide +kernel
theorem d_Model_read_194 : decode c_Model_read 194 = .ok (.aload_n 0, 1) := by decide +kernel
theorem d_Model_read_195 : decode c_Model_read 195 = .ok (.getfield 23, 3) := by decide +kernel
theorem d_Model_read_198 : decode c_Model_read 198 = .ok (.iload_n 3, 1) := by decide +kernel
theorem d_Model_read_199 : decode c_Model_read 199 = .ok (.iaload, 1) := by decide +kernel
theorem d_Model_read_200 : decode c_Model_read 200 = .ok (.iastore, 1) := by decide +kernel
theorem d_Model_read_201 : decode c_Model_read 201 = .ok (.aload_n 0, 1) := by decide +kernel
theorem d_Model_read_202 : decode c_Model_read 202 = .ok (.getfield 26, 3) := by decide +kernel
theorem d_Model_read_205 : decode c_Model_read 205 = .ok (.iload_n 2, 1) := by decide +kernel
theorem d_Model_read_206 : decode c_Model_read 206 = .ok (.aload_n 0, 1) := by decide +kernel
theorem d_Model_read_207 : decode c_Model_read 207 = .ok (.getfield 26, 3) := by decide +kernel
theorem d_Model_read_210 : decode c_Model_read 210 = .ok (.iload_n 3, 1) := by decide +kernel
theorem d_Model_read_211 : decode c_Model_read 211 = .ok (.iaload, 1) := by decide +kernel
theorem d_Model_read_212 : decode c_Model_read 212 = .ok (.iastore, 1) := by decide +kernel
theorem d_Model_read_213 : decode c_Model_read 213 = .ok (.aload_n 0, 1) := by decide +kernel
theorem d_Model_read_214 : decode c_Model_read 214 = .ok (.getfield 29, 3) := by decide +kernel
theorem d_Model_read_217 : decode c_Model_read 217 = .ok (.iload_n 2, 1) := by decide +kernel
theorem d_Model_read_218 : decode c_Model_read 218 = .ok (.aload_n 0, 1) := by decide +kernel
theorem d_Model_read_219 : decode c_Model_read 219 = .ok (.getfield 29, 3) := by decide +kernel
theorem d_Model_read_222 : decode c_Model_read 222 = .ok (.iload_n 3, 1) := by decide +kernel
theorem d_Model_read_223 : decode c_Model_read 223 = .ok (.iaload, 1) := by decide +kernel
theorem d_Model_read_224 : decode c_Model_read 224 = .ok (.iastore, 1) := by decide +kernel
theorem d_Model_read_225 : decode c_Model_read 225 = .ok (.iconst 0, 1) := by decide +kernel
theorem d_Model_read_226 : decode c_Model_read 226 = .ok (.istore 4, 2) := by decide +kernel
theorem d_Model_read_228 : decode c_Model_read 228 = .ok (.iload 4, 2) := by decide +kernel
theorem d_Model_read_230 : decode c_Model_read 230 = .ok (.bipush 16, 2) := by decide +kernel
theorem d_Model_read_232 : decode c_Model_read 232 = .ok (.if_icmp .ge 33, 3) := by decide +kernel
theorem d_Model_read_235 : decode c_Model_read 235 = .ok (.aload_n 0, 1) := by decide +kernel
theorem d_Model_read_236 : decode c_Model_read 236 = .ok (.getfield 16, 3) := by decide +kernel
theorem d_Model_read_239 : decode c_Model_read 239 = .ok (.bipush 16, 2) := by decide +kernel
theorem d_Model_read_241 : decode c_Model_read 241 = .ok (.iload_n 2, 1) := by decide +kernel
theorem d_Model_read_242 : decode c_Model_read 242 = .ok (.imul, 1) := by decide +kernel
theorem d_Model_read_243 : decode c_Model_read 243 = .ok (.iload 4, 2) := by decide +kernel
theorem d_Model_read_245 : decode c_Model_read 245 = .ok (.iadd, 1) := by decide +kernel
theorem d_Model_read_246 : decode c_Model_read 246 = .ok (.aload_n 0, 1) := by decide +kernel
theorem d_Model_read_247 : decode c_Model_read 247 = .ok (.getfield 16, 3) := by decide +kernel
theorem d_Model_read_250 : decode c_Model_read 250 = .ok (.bipush 16, 2) := by decide +kernel
theorem d_Model_read_252 : decode c_Model_read 252 = .ok (.iload_n 3, 1) := by decide +kernel
theorem d_Model_read_253 : decode c_Model_read 253 = .ok (.imul, 1) := by decide +kernel
theorem d_Model_read_254 : decode c_Model_read 254 = .ok (.iload 4, 2) := by decide +kernel
theorem d_Model_read_256 : decode c_Model_read 256 = .ok (.iadd, 1) := by decide +kernel
theorem d_Model_read_257 : decode c_Model_read 257 = .ok (.iaload, 1) := by decide +kernel
theorem d_Model_read_258 : decode c_Model_read 258 = .ok (.iastore, 1) := by decide +kernel
theorem d_Model_read_259 : decode c_Model_read 259 = .ok (.iinc 4 1, 3) := by decide +kernel
theorem d_Model_read_262 : decode c_Model_read 262 = .ok (.goto (-34), 3) := by decide +kernel
theorem d_Model_read_265 : decode c_Model_read 265 = .ok (.iinc 2 1, 3) := by decide +kernel
theorem d_Model_read_268 : decode c_Model_read 268 = .ok (.goto (-128), 3) := by decide +kernel
theorem d_Model_read_271 : decode c_Model_read 271 = .ok (.aload_n 0, 1) := by decide +kernel
theorem d_Model_read_272 : decode c_Model_read 272 = .ok (.getfield 63, 3) := by decide +kernel
theorem d_Model_read_275 : decode c_Model_read 275 = .ok (.ireturn, 1) := by decide +kernel
abbrev ws_Model_told : List Cond := .code y_Model_told c_Model_told 5 (some .int) :: tb
theorem hd_Model_told : y_Model_told.cls = R_Model ∧ y_Model_told.cls ≠ "java/lang/invoke/MethodHandle" ∧ y_Model_told.cls ≠ "java/lang/invoke/VarHandle" ∧ (parseMethodDescriptor y_Model_told.desc).map (fun d => d.parameters.length) = some 2 := by decide +kernel
theorem d_Model_told_0 : decode c_Model_told 0 = .ok (.aload_n 0, 1) := by decide +kernel
theorem d_Model_told_1 : decode c_Model_told 1 = .ok (.aload_n 0, 1) := by decide +kernel
theorem d_Model_told_2 : decode c_Model_told 2 = .ok (.iload_n 1, 1) := by decide +kernel
theorem d_Model_told_3 : decode c_Model_told 3 = .ok (.invokevirtual 70, 3) := by decide +kernel
theorem d_Model_told_6 : decode c_Model_told 6 = .ok (.ifCond .ne 7, 3) := by decide +kernel
theorem d_Model_told_9 : decode c_Model_told 9 = .ok (.iconst 1, 1) := by decide +kernel
theorem d_Model_told_10 : decode c_Model_told 10 = .ok (.goto 18, 3) := by decide +kernel
theorem d_Model_told_13 : decode c_Model_told 13 = .ok (.iload_n 2, 1) := by decide +kernel
theorem d_Model_told_14 : decode c_Model_told 14 = .ok (.ifCond .lt 9, 3) := by decide +kernel
theorem d_Model_told_17 : decode c_Model_told 17 = .ok (.iload_n 2, 1) := by decide +kernel
theorem d_Model_told_18 : decode c_Model_told 18 = .ok (.bipush 7, 2) := by decide +kernel
theorem d_Model_told_20 : decode c_Model_told 20 = .ok (.if_icmp .le 7, 3) := by decide +kernel
theorem d_Model_told_23 : decode c_Model_told 23 = .ok (.iconst 2, 1) := by decide +kernel
theorem d_Model_told_24 : decode c_Model_told 24 = .ok (.goto 4, 3) := by decide +kernel
theorem d_Model_told_27 : decode c_Model_told 27 = .ok (.iconst 0, 1) := by decide +kernel
theorem d_Model_told_28 : decode c_Model_told 28 = .ok (.invokevirtual 66, 3) := by decide +kernel
theorem d_Model_told_31 : decode c_Model_told 31 = .ok (.ifCond .eq 5, 3) := by decide +kernel
theorem d_Model_told_34 : decode c_Model_told 34 = .ok (.iconst 0, 1) := by decide +kernel
theorem d_Model_told_35 : decode c_Model_told 35 = .ok (.ireturn, 1) := by decide +kernel
theorem d_Model_told_36 : decode c_Model_told 36 = .ok (.iconst 0, 1) := by decide +kernel
theorem d_Model_told_37 : decode c_Model_told 37 = .ok (.istore_n 3, 1) := by decide +kernel
theorem d_Model_told_38 : decode c_Model_told 38 = .ok (.iconst 0, 1) := by decide +kernel
theorem d_Model_told_39 : decode c_Model_told 39 = .ok (.istore 4, 2) := by decide +kernel
theorem d_Model_told_41 : decode c_Model_told 41 = .ok (.iload 4, 2) := by decide +kernel
theorem d_Model_told_43 : decode c_Model_told 43 = .ok (.bipush 16, 2) := by decide +kernel
theorem d_Model_told_45 : decode c_Model_told 45 = .ok (.if_icmp .ge 27, 3) := by decide +kernel
theorem d_Model_told_48 : decode c_Model_told 48 = .ok (.iload_n 3, 1) := by decide +kernel
theorem d_Model_told_49 : decode c_Model_told 49 = .ok (.aload_n 0, 1) := by decide +kernel
theorem d_Model_told_50 : decode c_Model_told 50 = .ok (.getfield 16, 3) := by decide +kernel
theorem d_Model_told_53 : decode c_Model_told 53 = .ok (.bipush 16, 2) := by decide +kernel
theorem d_Model_told_55 : decode c_Model_told 55 = .ok (.iload_n 1, 1) := by decide +kernel
theorem d_Model_told_56 : decode c_Model_told 56 = .ok (.imul, 1) := by decide +kernel
theorem d_Model_told_57 : decode c_Model_told 57 = .ok (.iload 4, 2) := by decide +kernel
theorem d_Model_told_59 : decode c_Model_told 59 = .ok (.iadd, 1) := by decide +kernel
theorem d_Model_told_60 : decode c_Model_told 60 = .ok (.iaload, 1) := by decide +kernel
theorem d_Model_told_61 : decode c_Model_told 61 = .ok (.invokestatic 81, 3) := by decide +kernel
theorem d_Model_told_64 : decode c_Model_told 64 = .ok (.iadd, 1) := by decide +kernel
theorem d_Model_told_65 : decode c_Model_told 65 = .ok (.istore_n 3, 1) := by decide +kernel
theorem d_Model_told_66 : decode c_Model_told 66 = .ok (.iinc 4 1, 3) := by decide +kernel
theorem d_Model_told_69 : decode c_Model_told 69 = .ok (.goto (-28), 3) := by decide +kernel
theorem d_Model_told_72 : decode c_Model_told 72 = .ok (.iload_n 2, 1) := by decide +kernel
theorem d_Model_told_73 : decode c_Model_told 73 = .ok (.tableswitch 95 0 6 #[43, 50, 57, 59, 74, 81, 88], 43) := by decide +kernel
theorem d_Model_told_116 : decode c_Model_told 116 = .ok (.aload_n 0, 1) := by decide +kernel
theorem d_Model_told_117 : decode c_Model_told 117 = .ok (.getfield 7, 3) := by decide +kernel
theorem d_Model_told_120 : decode c_Model_told 120 = .ok (.iload_n 1, 1) := by decide +kernel
theorem d_Model_told_121 : decode c_Model_told 121 = .ok (.iaload, 1) := by decide +kernel
theorem d_Model_told_122 : decode c_Model_told 122 = .ok (.ireturn, 1) := by decide +kernel
theorem d_Model_told_123 : decode c_Model_told 123 = .ok (.aload_n 0, 1) := by decide +kernel
theorem d_Model_told_124 : decode c_Model_told 124 = .ok (.getfield 13, 3) := by decide +kernel
theorem d_Model_told_127 : decode c_Model_told 127 = .ok (.iload_n 1, 1) := by decide +kernel
theorem d_Model_told_128 : decode c_Model_told 128 = .ok (.iaload, 1) := by decide +kernel
theorem d_Model_told_129 : decode c_Model_told 129 = .ok (.ireturn, 1) := by decide +kernel
theorem d_Model_told_130 : decode c_Model_told 130 = .ok (.iload_n 3, 1) := by decide +kernel
theorem d_Model_told_131 : decode c_Model_told 131 = .ok (.ireturn, 1) := by decide +kernel
theorem d_Model_told_132 : decode c_Model_told 132 = .ok (.aload_n 0, 1) := by decide +kernel
theorem d_Model_told_133 : decode c_Model_told 133 = .ok (.getfield 19, 3) := by decide +kernel
theorem d_Model_told_136 : decode c_Model_told 136 = .ok (.iload_n 1, 1) := by decide +kernel
theorem d_Model_told_137 : decode c_Model_told 137 = .ok (.baload, 1) := by decide +kernel
theorem d_Model_told_138 : decode c_Model_told 138 = .ok (.ifCond .eq 7, 3) := by decide +kernel
theorem d_Model_told_141 : decode c_Model_told 141 = .ok (.iconst 1, 1) := by decide +kernel
theorem d_Model_told_142 : decode c_Model_told 142 = .ok (.goto 4, 3) := by decide +kernel
theorem d_Model_told_145 : decode c_Model_told 145 = .ok (.iconst 0, 1) := by decide +kernel
theorem d_Model_told_146 : decode c_Model_told 146 = .ok (.ireturn, 1) := by decide +kernel
theorem d_Model_told_147 : decode c_Model_told 147 = .ok (.aload_n 0, 1) := by decide +kernel
theorem d_Model_told_148 : decode c_Model_told 148 = .ok (.getfield 23, 3) := by decide +kernel
theorem d_Model_told_151 : decode c_Model_told 151 = .ok (.iload_n 1, 1) := by decide +kernel
theorem d_Model_told_152 : decode c_Model_told 152 = .ok (.iaload, 1) := by decide +kernel
theorem d_Model_told_153 : decode c_Model_told 153 = .ok (.ireturn, 1) := by decide +kernel
theorem d_Model_told_154 : decode c_Model_told 154 = .ok (.aload_n 0, 1) := by decide +kernel
theorem d_Model_told_155 : decode c_Model_told 155 = .ok (.getfield 26, 3) := by decide +kernel
theorem d_Model_told_158 : decode c_Model_told 158 = .ok (.iload_n 1, 1) := by decide +kernel
theorem d_Model_told_159 : decode c_Model_told 159 = .ok (.iaload, 1) := by decide +kernel
theorem d_Model_told_160 : decode c_Model_told 160 = .ok (.ireturn, 1) := by decide +kernel
theorem d_Model_told_161 : decode c_Model_told 161 = .ok (.aload_n 0, 1) := by decide +kernel
theorem d_Model_told_162 : decode c_Model_told 162 = .ok (.getfield 29, 3) := by decide +kernel
theorem d_Model_told_165 : decode c_Model_told 165 = .ok (.iload_n 1, 1) := by decide +kernel
theorem d_Model_told_166 : decode c_Model_told 166 = .ok (.iaload, 1) := by decide +kernel
theorem d_Model_told_167 : decode c_Model_told 167 = .ok (.ireturn, 1) := by decide +kernel
theorem d_Model_told_168 : decode c_Model_told 168 = .ok (.aload_n 0, 1) := by decide +kernel
theorem d_Model_told_169 : decode c_Model_told 169 = .ok (.iload_n 1, 1) := by decide +kernel
theorem d_Model_told_170 : decode c_Model_told 170 = .ok (.invokevirtual 188, 3) := by decide +kernel
theorem d_Model_told_173 : decode c_Model_told 173 = .ok (.ireturn, 1) := by decide +kernel
abbrev ws_Model_differs : List Cond := .code y_Model_differs c_Model_differs 5 (some .int) :: tb
theorem hd_Model_differs : y_Model_differs.cls = R_Model ∧ y_Model_differs.cls ≠ "java/lang/invoke/MethodHandle" ∧ y_Model_differs.cls ≠ "java/lang/invoke/VarHandle" ∧ (parseMethodDescriptor y_Model_differs.desc).map (fun d => d.parameters.length) = some 2 := by decide +kernel
theorem d_Model_differs_0 : decode c_Model_differs 0 = .ok (.aload_n 0, 1) := by decide +kernel
theorem d_Model_differs_1 : decode c_Model_differs 1 = .ok (.getfield 7, 3) := by decide +kernel
theorem d_Model_differs_4 : decode c_Model_differs 4 = .ok (.iload_n 1, 1) := by decide +kernel
theorem d_Model_differs_5 : decode c_Model_differs 5 = .ok (.iaload, 1) := by decide +kernel
theorem d_Model_differs_6 : decode c_Model_differs 6 = .ok (.aload_n 0, 1) := by decide +kernel
theorem d_Model_differs_7 : decode c_Model_differs 7 = .ok (.getfield 7, 3) := by decide +kernel
theorem d_Model_differs_10 : decode c_Model_differs 10 = .ok (.iload_n 2, 1) := by decide +kernel
theorem d_Model_differs_11 : decode c_Model_differs 11 = .ok (.iaload, 1) := by decide +kernel
theorem d_Model_differs_12 : decode c_Model_differs 12 = .ok (.if_icmp .ne 18, 3) := by decide +kernel
theorem d_Model_differs_15 : decode c_Model_differs 15 = .ok (.aload_n 0, 1) := by decide +kernel
theorem d_Model_differs_16 : decode c_Model_differs 16 = .ok (.getfield 13, 3) := by decide +kernel
theorem d_Model_differs_19 : decode c_Model_differs 19 = .ok (.iload_n 1, 1) := by decide +kernel
theorem d_Model_differs_20 : decode c_Model_differs 20 = .ok (.iaload, 1) := by decide +kernel
theorem d_Model_differs_21 : decode c_Model_differs 21 = .ok (.aload_n 0, 1) := by decide +kernel
theorem d_Model_differs_22 : decode c_Model_differs 22 = .ok (.getfield 13, 3) := by decide +kernel
theorem d_Model_differs_25 : decode c_Model_differs 25 = .ok (.iload_n 2, 1) := by decide +kernel
theorem d_Model_differs_26 : decode c_Model_differs 26 = .ok (.iaload, 1) := by decide +kernel
theorem d_Model_differs_27 : decode c_Model_differs 27 = .ok (.if_icmp .eq 5, 3) := by decide +kernel
theorem d_Model_differs_30 : decode c_Model_differs 30 = .ok (.iconst (-1), 1) := by decide +kernel
theorem d_Model_differs_31 : decode c_Model_differs 31 = .ok (.ireturn, 1) := by decide +kernel
theorem d_Model_differs_32 : decode c_Model_differs 32 = .ok (.iconst 0, 1) := by decide +kernel
theorem d_Model_differs_33 : decode c_Model_differs 33 = .ok (.istore_n 3, 1) := by decide +kernel
theorem d_Model_differs_34 : decode c_Model_differs 34 = .ok (.iconst 0, 1) := by decide +kernel
theorem d_Model_differs_35 : decode c_Model_differs 35 = .ok (.istore 4, 2) := by decide +kernel
theorem d_Model_differs_37 : decode c_Model_differs 37 = .ok (.iload 4, 2) := by decide +kernel
theorem d_Model_differs_39 : decode c_Model_differs 39 = .ok (.bipush 16, 2) := by decide +kernel
theorem d_Model_differs_41 : decode c_Model_differs 41 = .ok (.if_icmp .ge 40, 3) := by decide +kernel
theorem d_Model_differs_44 : decode c_Model_differs 44 = .ok (.iload_n 3, 1) := by decide +kernel
theorem d_Model_differs_45 : decode c_Model_differs 45 = .ok (.aload_n 0, 1) := by decide +kernel
theorem d_Model_differs_46 : decode c_Model_differs 46 = .ok (.getfield 16, 3) := by decide +kernel
theorem d_Model_differs_49 : decode c_Model_differs 49 = .ok (.bipush 16, 2) := by decide +kernel
theorem d_Model_differs_51 : decode c_Model_differs 51 = .ok (.iload_n 1, 1) := by decide +kernel
theorem d_Model_differs_52 : decode c_Model_differs 52 = .ok (.imul, 1) := by decide +kernel
theorem d_Model_differs_53 : decode c_Model_differs 53 = .ok (.iload 4, 2) := by decide +kernel
theorem d_Model_differs_55 : decode c_Model_differs 55 = .ok (.iadd, 1) := by decide +kernel
theorem d_Model_differs_56 : decode c_Model_differs 56 = .ok (.iaload, 1) := by decide +kernel
theorem d_Model_differs_57 : decode c_Model_differs 57 = .ok (.aload_n 0, 1) := by decide +kernel
theorem d_Model_differs_58 : decode c_Model_differs 58 = .ok (.getfield 16, 3) := by decide +kernel
theorem d_Model_differs_61 : decode c_Model_differs 61 = .ok (.bipush 16, 2) := by decide +kernel
theorem d_Model_differs_63 : decode c_Model_differs 63 = .ok (.iload_n 2, 1) := by decide +kernel
theorem d_Model_differs_64 : decode c_Model_differs 64 = .ok (.imul, 1) := by decide +kernel
theorem d_Model_differs_65 : decode c_Model_differs 65 = .ok (.iload 4, 2) := by decide +kernel
theorem d_Model_differs_67 : decode c_Model_differs 67 = .ok (.iadd, 1) := by decide +kernel
theorem d_Model_differs_68 : decode c_Model_differs 68 = .ok (.iaload, 1) := by decide +kernel
theorem d_Model_differs_69 : decode c_Model_differs 69 = .ok (.ixor, 1) := by decide +kernel
theorem d_Model_differs_70 : decode c_Model_differs 70 = .ok (.invokestatic 81, 3) := by decide +kernel
theorem d_Model_differs_73 : decode c_Model_differs 73 = .ok (.iadd, 1) := by decide +kernel
theorem d_Model_differs_74 : decode c_Model_differs 74 = .ok (.istore_n 3, 1) := by decide +kernel
theorem d_Model_differs_75 : decode c_Model_differs 75 = .ok (.iinc 4 1, 3) := by decide +kernel
theorem d_Model_differs_78 : decode c_Model_differs 78 = .ok (.goto (-41), 3) := by decide +kernel
theorem d_Model_differs_81 : decode c_Model_differs 81 = .ok (.iload_n 3, 1) := by decide +kernel
theorem d_Model_differs_82 : decode c_Model_differs 82 = .ok (.ireturn, 1) := by decide +kernel
abbrev ws_Model_likeness : List Cond := .code y_Model_likeness c_Model_likeness 3 (some .int) :: tb
theorem hd_Model_likeness : y_Model_likeness.cls = R_Model ∧ y_Model_likeness.cls ≠ "java/lang/invoke/MethodHandle" ∧ y_Model_likeness.cls ≠ "java/lang/invoke/VarHandle" ∧ (parseMethodDescriptor y_Model_likeness.desc).map (fun d => d.parameters.length) = some 2 := by decide +kernel
theorem d_Model_likeness_0 : decode c_Model_likeness 0 = .ok (.aload_n 0, 1) := by decide +kernel
theorem d_Model_likeness_1 : decode c_Model_likeness 1 = .ok (.aload_n 0, 1) := by decide +kernel
theorem d_Model_likeness_2 : decode c_Model_likeness 2 = .ok (.iload_n 1, 1) := by decide +kernel
theorem d_Model_likeness_3 : decode c_Model_likeness 3 = .ok (.invokevirtual 70, 3) := by decide +kernel
theorem d_Model_likeness_6 : decode c_Model_likeness 6 = .ok (.ifCond .eq 15, 3) := by decide +kernel
theorem d_Model_likeness_9 : decode c_Model_likeness 9 = .ok (.aload_n 0, 1) := by decide +kernel
theorem d_Model_likeness_10 : decode c_Model_likeness 10 = .ok (.iload_n 2, 1) := by decide +kernel
theorem d_Model_likeness_11 : decode c_Model_likeness 11 = .ok (.invokevirtual 70, 3) := by decide +kernel
theorem d_Model_likeness_14 : decode c_Model_likeness 14 = .ok (.ifCond .eq 7, 3) := by decide +kernel
theorem d_Model_likeness_17 : decode c_Model_likeness 17 = .ok (.iconst 0, 1) := by decide +kernel
theorem d_Model_likeness_18 : decode c_Model_likeness 18 = .ok (.goto 4, 3) := by decide +kernel
theorem d_Model_likeness_21 : decode c_Model_likeness 21 = .ok (.iconst 1, 1) := by decide +kernel
theorem d_Model_likeness_22 : decode c_Model_likeness 22 = .ok (.invokevirtual 66, 3) := by decide +kernel
theorem d_Model_likeness_25 : decode c_Model_likeness 25 = .ok (.ifCond .eq 7, 3) := by decide +kernel
theorem d_Model_likeness_28 : decode c_Model_likeness 28 = .ok (.iconst 0, 1) := by decide +kernel
theorem d_Model_likeness_29 : decode c_Model_likeness 29 = .ok (.goto 9, 3) := by decide +kernel
theorem d_Model_likeness_32 : decode c_Model_likeness 32 = .ok (.aload_n 0, 1) := by decide +kernel
theorem d_Model_likeness_33 : decode c_Model_likeness 33 = .ok (.iload_n 1, 1) := by decide +kernel
theorem d_Model_likeness_34 : decode c_Model_likeness 34 = .ok (.iload_n 2, 1) := by decide +kernel
theorem d_Model_likeness_35 : decode c_Model_likeness 35 = .ok (.invokevirtual 212, 3) := by decide +kernel
theorem d_Model_likeness_38 : decode c_Model_likeness 38 = .ok (.ireturn, 1) := by decide +kernel
abbrev ws_Model_classes : List Cond := .code y_Model_classes c_Model_classes 5 (some .int) :: tb
theorem hd_Model_classes : y_Model_classes.cls = R_Model ∧ y_Model_classes.cls ≠ "java/lang/invoke/MethodHandle" ∧ y_Model_classes.cls ≠ "java/lang/invoke/VarHandle" ∧ (parseMethodDescriptor y_Model_classes.desc).map (fun d => d.parameters.length) = some 1 := by decide +kernel
theorem d_Model_classes_0 : decode c_Model_classes 0 = .ok (.aload_n 0, 1) := by decide +kernel
theorem d_Model_classes_1 : decode c_Model_classes 1 = .ok (.iload_n 1, 1) := by decide +kernel
theorem d_Model_classes_2 : decode c_Model_classes 2 = .ok (.ifCond .ge 7, 3) := by decide +kernel
theorem d_Model_classes_5 : decode c_Model_classes 5 = .ok (.iconst 1, 1) := by decide +kernel
theorem d_Model_classes_6 : decode c_Model_classes 6 = .ok (.goto 4, 3) := by decide +kernel
theorem d_Model_classes_9 : decode c_Model_classes 9 = .ok (.iconst 0, 1) := by decide +kernel
theorem d_Model_classes_10 : decode c_Model_classes 10 = .ok (.invokevirtual 66, 3) := by decide +kernel
theorem d_Model_classes_13 : decode c_Model_classes 13 = .ok (.ifCond .eq 5, 3) := by decide +kernel
theorem d_Model_classes_16 : decode c_Model_classes 16 = .ok (.iconst 0, 1) := by decide +kernel
theorem d_Model_classes_17 : decode c_Model_classes 17 = .ok (.ireturn, 1) := by decide +kernel
theorem d_Model_classes_18 : decode c_Model_classes 18 = .ok (.iconst 0, 1) := by decide +kernel
theorem d_Model_classes_19 : decode c_Model_classes 19 = .ok (.istore_n 2, 1) := by decide +kernel
theorem d_Model_classes_20 : decode c_Model_classes 20 = .ok (.iconst 0, 1) := by decide +kernel
theorem d_Model_classes_21 : decode c_Model_classes 21 = .ok (.istore_n 3, 1) := by decide +kernel
theorem d_Model_classes_22 : decode c_Model_classes 22 = .ok (.iload_n 3, 1) := by decide +kernel
theorem d_Model_classes_23 : decode c_Model_classes 23 = .ok (.aload_n 0, 1) := by decide +kernel
theorem d_Model_classes_24 : decode c_Model_classes 24 = .ok (.getfield 63, 3) := by decide +kernel
theorem d_Model_classes_27 : decode c_Model_classes 27 = .ok (.if_icmp .ge 80, 3) := by decide +kernel
theorem d_Model_classes_30 : decode c_Model_classes 30 = .ok (.iconst 0, 1) := by decide +kernel
theorem d_Model_classes_31 : decode c_Model_classes 31 = .ok (.istore 4, 2) := by decide +kernel
theorem d_Model_classes_33 : decode c_Model_classes 33 = .ok (.iload 4, 2) := by decide +kernel
theorem d_Model_classes_35 : decode c_Model_classes 35 = .ok (.iload_n 2, 1) := by decide +kernel
theorem d_Model_classes_36 : decode c_Model_classes 36 = .ok (.if_icmp .ge 40, 3) := by decide +kernel
theorem d_Model_classes_39 : decode c_Model_classes 39 = .ok (.aload_n 0, 1) := by decide +kernel
theorem d_Model_classes_40 : decode c_Model_classes 40 = .ok (.aload_n 0, 1) := by decide +kernel
theorem d_Model_classes_41 : decode c_Model_classes 41 = .ok (.getfield 41, 3) := by decide +kernel
theorem d_Model_classes_44 : decode c_Model_classes 44 = .ok (.iload 4, 2) := by decide +kernel
theorem d_Model_classes_46 : decode c_Model_classes 46 = .ok (.iaload, 1) := by decide +kernel
theorem d_Model_classes_47 : decode c_Model_classes 47 = .ok (.iload_n 3, 1) := by decide +kernel
theorem d_Model_classes_48 : decode c_Model_classes 48 = .ok (.invokevirtual 212, 3) := by decide +kernel
theorem d_Model_classes_51 : decode c_Model_classes 51 = .ok (.ifCond .lt 19, 3) := by decide +kernel
theorem d_Model_classes_54 : decode c_Model_classes 54 = .ok (.aload_n 0, 1) := by decide +kernel
theorem d_Model_classes_55 : decode c_Model_classes 55 = .ok (.aload_n 0, 1) := by decide +kernel
theorem d_Model_classes_56 : decode c_Model_classes 56 = .ok (.getfield 41, 3) := by decide +kernel
theorem d_Model_classes_59 : decode c_Model_classes 59 = .ok (.iload 4, 2) := by decide +kernel
theorem d_Model_classes_61 : decode c_Model_classes 61 = .ok (.iaload, 1) := by decide +kernel
theorem d_Model_classes_62 : decode c_Model_classes 62 = .ok (.iload_n 3, 1) := by decide +kernel
theorem d_Model_classes_63 : decode c_Model_classes 63 = .ok (.invokevirtual 212, 3) := by decide +kernel
theorem d_Model_classes_66 : decode c_Model_classes 66 = .ok (.iload_n 1, 1) := by decide +kernel
theorem d_Model_classes_67 : decode c_Model_classes 67 = .ok (.if_icmp .le 9, 3) := by decide +kernel
theorem d_Model_classes_70 : decode c_Model_classes 70 = .ok (.iinc 4 1, 3) := by decide +kernel
theorem d_Model_classes_73 : decode c_Model_classes 73 = .ok (.goto (-40), 3) := by decide +kernel
theorem d_Model_classes_76 : decode c_Model_classes 76 = .ok (.aload_n 0, 1) := by decide +kernel
theorem d_Model_classes_77 : decode c_Model_classes 77 = .ok (.getfield 38, 3) := by decide +kernel
theorem d_Model_classes_80 : decode c_Model_classes 80 = .ok (.iload_n 3, 1) := by decide +kernel
theorem d_Model_classes_81 : decode c_Model_classes 81 = .ok (.iload 4, 2) := by decide +kernel
theorem d_Model_classes_83 : decode c_Model_classes 83 = .ok (.iastore, 1) := by decide +kernel
theorem d_Model_classes_84 : decode c_Model_classes 84 = .ok (.iload 4, 2) := by decide +kernel
theorem d_Model_classes_86 : decode c_Model_classes 86 = .ok (.iload_n 2, 1) := by decide +kernel
theorem d_Model_classes_87 : decode c_Model_classes 87 = .ok (.if_icmp .ne 14, 3) := by decide +kernel
theorem d_Model_classes_90 : decode c_Model_classes 90 = .ok (.aload_n 0, 1) := by decide +kernel
theorem d_Model_classes_91 : decode c_Model_classes 91 = .ok (.getfield 41, 3) := by decide +kernel
theorem d_Model_classes_94 : decode c_Model_classes 94 = .ok (.iload 4, 2) := by decide +kernel
theorem d_Model_classes_96 : decode c_Model_classes 96 = .ok (.iload_n 3, 1) := by decide +kernel
theorem d_Model_classes_97 : decode c_Model_classes 97 = .ok (.iastore, 1) := by decide +kernel
theorem d_Model_classes_98 : decode c_Model_classes 98 = .ok (.iinc 2 1, 3) := by decide +kernel
theorem d_Model_classes_101 : decode c_Model_classes 101 = .ok (.iinc 3 1, 3) := by decide +kernel
theorem d_Model_classes_104 : decode c_Model_classes 104 = .ok (.goto (-82), 3) := by decide +kernel
theorem d_Model_classes_107 : decode c_Model_classes 107 = .ok (.aload_n 0, 1) := by decide +kernel
theorem d_Model_classes_108 : decode c_Model_classes 108 = .ok (.aload_n 0, 1) := by decide +kernel
theorem d_Model_classes_109 : decode c_Model_classes 109 = .ok (.getfield 63, 3) := by decide +kernel
theorem d_Model_classes_112 : decode c_Model_classes 112 = .ok (.putfield 209, 3) := by decide +kernel
theorem d_Model_classes_115 : decode c_Model_classes 115 = .ok (.iload_n 2, 1) := by decide +kernel
theorem d_Model_classes_116 : decode c_Model_classes 116 = .ok (.ireturn, 1) := by decide +kernel
abbrev ws_Model_cls : List Cond := .code y_Model_cls c_Model_cls 2 (some .int) :: tb
theorem hd_Model_cls : y_Model_cls.cls = R_Model ∧ y_Model_cls.cls ≠ "java/lang/invoke/MethodHandle" ∧ y_Model_cls.cls ≠ "java/lang/invoke/VarHandle" ∧ (parseMethodDescriptor y_Model_cls.desc).map (fun d => d.parameters.length) = some 1 := by decide +kernel
theorem d_Model_cls_0 : decode c_Model_cls 0 = .ok (.aload_n 0, 1) := by decide +kernel
theorem d_Model_cls_1 : decode c_Model_cls 1 = .ok (.aload_n 0, 1) := by decide +kernel
theorem d_Model_cls_2 : decode c_Model_cls 2 = .ok (.iload_n 1, 1) := by decide +kernel
theorem d_Model_cls_3 : decode c_Model_cls 3 = .ok (.invokevirtual 70, 3) := by decide +kernel
theorem d_Model_cls_6 : decode c_Model_cls 6 = .ok (.ifCond .eq 7, 3) := by decide +kernel
theorem d_Model_cls_9 : decode c_Model_cls 9 = .ok (.iconst 0, 1) := by decide +kernel
theorem d_Model_cls_10 : decode c_Model_cls 10 = .ok (.goto 4, 3) := by decide +kernel
theorem d_Model_cls_13 : decode c_Model_cls 13 = .ok (.iconst 1, 1) := by decide +kernel
theorem d_Model_cls_14 : decode c_Model_cls 14 = .ok (.invokevirtual 66, 3) := by decide +kernel
theorem d_Model_cls_17 : decode c_Model_cls 17 = .ok (.ifCond .eq 5, 3) := by decide +kernel
theorem d_Model_cls_20 : decode c_Model_cls 20 = .ok (.iconst 0, 1) := by decide +kernel
theorem d_Model_cls_21 : decode c_Model_cls 21 = .ok (.ireturn, 1) := by decide +kernel
theorem d_Model_cls_22 : decode c_Model_cls 22 = .ok (.iload_n 1, 1) := by decide +kernel
theorem d_Model_cls_23 : decode c_Model_cls 23 = .ok (.aload_n 0, 1) := by decide +kernel
theorem d_Model_cls_24 : decode c_Model_cls 24 = .ok (.getfield 209, 3) := by decide +kernel
theorem d_Model_cls_27 : decode c_Model_cls 27 = .ok (.if_icmp .ge 12, 3) := by decide +kernel
theorem d_Model_cls_30 : decode c_Model_cls 30 = .ok (.aload_n 0, 1) := by decide +kernel
theorem d_Model_cls_31 : decode c_Model_cls 31 = .ok (.getfield 38, 3) := by decide +kernel
theorem d_Model_cls_34 : decode c_Model_cls 34 = .ok (.iload_n 1, 1) := by decide +kernel
theorem d_Model_cls_35 : decode c_Model_cls 35 = .ok (.iaload, 1) := by decide +kernel
theorem d_Model_cls_36 : decode c_Model_cls 36 = .ok (.goto 4, 3) := by decide +kernel
theorem d_Model_cls_39 : decode c_Model_cls 39 = .ok (.iconst (-1), 1) := by decide +kernel
theorem d_Model_cls_40 : decode c_Model_cls 40 = .ok (.ireturn, 1) := by decide +kernel
abbrev ws_Model_count : List Cond := .code y_Model_count c_Model_count 2 (some .int) :: tb
theorem hd_Model_count : y_Model_count.cls = R_Model ∧ y_Model_count.cls ≠ "java/lang/invoke/MethodHandle" ∧ y_Model_count.cls ≠ "java/lang/invoke/VarHandle" ∧ (parseMethodDescriptor y_Model_count.desc).map (fun d => d.parameters.length) = some 1 := by decide +kernel
theorem d_Model_count_0 : decode c_Model_count 0 = .ok (.aload_n 0, 1) := by decide +kernel
theorem d_Model_count_1 : decode c_Model_count 1 = .ok (.iconst 0, 1) := by decide +kernel
theorem d_Model_count_2 : decode c_Model_count 2 = .ok (.putfield 60, 3) := by decide +kernel
theorem d_Model_count_5 : decode c_Model_count 5 = .ok (.iload_n 1, 1) := by decide +kernel
theorem d_Model_count_6 : decode c_Model_count 6 = .ok (.ifCond .ne 10, 3) := by decide +kernel
theorem d_Model_count_9 : decode c_Model_count 9 = .ok (.aload_n 0, 1) := by decide +kernel
theorem d_Model_count_10 : decode c_Model_count 10 = .ok (.getfield 63, 3) := by decide +kernel
theorem d_Model_count_13 : decode c_Model_count 13 = .ok (.goto 40, 3) := by decide +kernel
theorem d_Model_count_16 : decode c_Model_count 16 = .ok (.iload_n 1, 1) := by decide +kernel
theorem d_Model_count_17 : decode c_Model_count 17 = .ok (.iconst 1, 1) := by decide +kernel
theorem d_Model_count_18 : decode c_Model_count 18 = .ok (.if_icmp .ne 10, 3) := by decide +kernel
theorem d_Model_count_21 : decode c_Model_count 21 = .ok (.aload_n 0, 1) := by decide +kernel
theorem d_Model_count_22 : decode c_Model_count 22 = .ok (.getfield 102, 3) := by decide +kernel
theorem d_Model_count_25 : decode c_Model_count 25 = .ok (.goto 28, 3) := by decide +kernel
theorem d_Model_count_28 : decode c_Model_count 28 = .ok (.iload_n 1, 1) := by decide +kernel
theorem d_Model_count_29 : decode c_Model_count 29 = .ok (.iconst 2, 1) := by decide +kernel
theorem d_Model_count_30 : decode c_Model_count 30 = .ok (.if_icmp .ne 10, 3) := by decide +kernel
theorem d_Model_count_33 : decode c_Model_count 33 = .ok (.aload_n 0, 1) := by decide +kernel
theorem d_Model_count_34 : decode c_Model_count 34 = .ok (.getfield 130, 3) := by decide +kernel
theorem d_Model_count_37 : decode c_Model_count 37 = .ok (.goto 16, 3) := by decide +kernel
theorem d_Model_count_40 : decode c_Model_count 40 = .ok (.iload_n 1, 1) := by decide +kernel
theorem d_Model_count_41 : decode c_Model_count 41 = .ok (.iconst 3, 1) := by decide +kernel
theorem d_Model_count_42 : decode c_Model_count 42 = .ok (.if_icmp .ne 10, 3) := by decide +kernel
theorem d_Model_count_45 : decode c_Model_count 45 = .ok (.aload_n 0, 1) := by decide +kernel
theorem d_Model_count_46 : decode c_Model_count 46 = .ok (.getfield 56, 3) := by decide +kernel
theorem d_Model_count_49 : decode c_Model_count 49 = .ok (.goto 4, 3) := by decide +kernel
theorem d_Model_count_52 : decode c_Model_count 52 = .ok (.iconst (-1), 1) := by decide +kernel
theorem d_Model_count_53 : decode c_Model_count 53 = .ok (.ireturn, 1) := by decide +kernel
abbrev ws_Model_clear : List Cond := .code y_Model_clear c_Model_clear 1 none :: tb
theorem hd_Model_clear : y_Model_clear.cls = R_Model ∧ y_Model_clear.cls ≠ "java/lang/invoke/MethodHandle" ∧ y_Model_clear.cls ≠ "java/lang/invoke/VarHandle" ∧ (parseMethodDescriptor y_Model_clear.desc).map (fun d => d.parameters.length) = some 0 := by decide +kernel
theorem d_Model_clear_0 : decode c_Model_clear 0 = .ok (.aload_n 0, 1) := by decide +kernel
theorem d_Model_clear_1 : decode c_Model_clear 1 = .ok (.iconst 0, 1) := by decide +kernel
theorem d_Model_clear_2 : decode c_Model_clear 2 = .ok (.putfield 60, 3) := by decide +kernel
theorem d_Model_clear_5 : decode c_Model_clear 5 = .ok (.aload_n 0, 1) := by decide +kernel
theorem d_Model_clear_6 : decode c_Model_clear 6 = .ok (.iconst 0, 1) := by decide +kernel
theorem d_Model_clear_7 : decode c_Model_clear 7 = .ok (.putfield 63, 3) := by decide +kernel
theorem d_Model_clear_10 : decode c_Model_clear 10 = .ok (.aload_n 0, 1) := by decide +kernel
theorem d_Model_clear_11 : decode c_Model_clear 11 = .ok (.iconst 0, 1) := by decide +kernel
theorem d_Model_clear_12 : decode c_Model_clear 12 = .ok (.putfield 209, 3) := by decide +kernel
theorem d_Model_clear_15 : decode c_Model_clear 15 = .ok (.aload_n 0, 1) := by decide +kernel
theorem d_Model_clear_16 : decode c_Model_clear 16 = .ok (.iconst 0, 1) := by decide +kernel
theorem d_Model_clear_17 : decode c_Model_clear 17 = .ok (.putfield 102, 3) := by decide +kernel
theorem d_Model_clear_20 : decode c_Model_clear 20 = .ok (.aload_n 0, 1) := by decide +kernel
theorem d_Model_clear_21 : decode c_Model_clear 21 = .ok (.iconst 0, 1) := by decide +kernel
theorem d_Model_clear_22 : decode c_Model_clear 22 = .ok (.putfield 130, 3) := by decide +kernel
theorem d_Model_clear_25 : decode c_Model_clear 25 = .ok (.return_, 1) := by decide +kernel
/-! Model_byteAt -/
def j_Model_byteAt_18_2 (mo : Mo) (x1 : Int32) (z0_1 : Int32) : Option (Int32 × Mo) := bd (f_Model_refuses mo z0_1) <| fun (r_3, mo_4) => (if r_3 = 0 then gd (inb x1 16000) <| some (Mo_out mo_4 x1.toNatClampNeg, mo_4) else some (0, mo_4))
def f_Model_byteAt (mo : Mo) (x1 : Int32) : Option (Int32 × Mo) := (if x1 < 0 then j_Model_byteAt_18_2 mo x1 1 else (if (Mo_on mo) ≤ x1 then j_Model_byteAt_18_2 mo x1 1 else j_Model_byteAt_18_2 mo x1 0))
section
variable {p : Program} {l : Launch} {e : Env} {R : Room} {s : State} {m : MethodId} {args : Array Value} {below : List Frame} {meth : Method} {c : Code} {Q : State → Prop} {A : Nat → Prop}
set_option maxHeartbeats 4000000 in
set_option maxRecDepth 100000 in
theorem B_Model_byteAt {cells slots : Nat} {dC : Nat → ClassId} {dI : Nat → Nat → Nat} {cI cZ cJ : ClassId} {mo_a : Nat → Nat} {mo : Mo} {x1 : Int32} {res : Int32 × Mo} (C0 : cxt p c m s args R cells slots R_Model c_Model_byteAt tb 2 (dC, dI) vwCl (TYS cI cZ cJ) A 1 21)
    (hr34 : ∀ (H : Heap) (locs : List Loc) (ls : Array Slot) (v : Int32) (mo' : Mo), va_P (dC, dI) vwCl (wMo cI cZ cJ mo_a mo') H → va_D A (wMo cI cZ cJ mo_a mo') → va_S A s.heap H locs → some (v, mo') = some res → W p l e R s m args below meth c H locs cells slots Q (F0 m 34 ls [.int v]))
    {H : Heap} {locs : List Loc} {ls : Array Slot} (hP : va_P (dC, dI) vwCl (wMo cI cZ cJ mo_a mo) H) (hD : va_D A (wMo cI cZ cJ mo_a mo)) (hS : va_S A s.heap H locs) (hl : lv_has ls 2 [(0, .ref (mo_a 0)), (1, .int x1)]) (hf : f_Model_byteAt mo x1 = some res) : W p l e R s m args below meth c H locs cells slots Q (F0 m 0 ls []) := by
  obtain ⟨hx, hb, hml, hown, hts, hK, hA, hRf, hRl, hN, hRc⟩ := id C0
  rw [f_Model_byteAt] at hf
  refine lv_aload_n hx hb d_Model_byteAt_0 rfl (lv_at hl 0 rfl) ?_
  refine lv_iload_n hx hb d_Model_byteAt_1 rfl (lv_at hl 1 rfl) ?_
  have J18_1 : ∀ (H : Heap) (locs : List Loc) (ls : Array Slot) (z0_1 : Int32), va_P (dC, dI) vwCl (wMo cI cZ cJ mo_a mo) H → va_D A (wMo cI cZ cJ mo_a mo) → va_S A s.heap H locs → lv_has ls 2 [(0, .ref (mo_a 0)), (1, .int x1)] → j_Model_byteAt_18_2 mo x1 z0_1 = some res → W p l e R s m args below meth c H locs cells slots Q (F0 m 18 ls [.int z0_1, .ref (mo_a 0)]) := by
    intro H locs ls z0_1 hP hD hS hl hf
    rw [j_Model_byteAt_18_2] at hf
    obtain ⟨⟨r_3, mo_4⟩, hf1, hf⟩ := bd_ex hf
    try dsimp only at hf
    have hPc := hP.sub (ws' := (wMo cI cZ cJ mo_a mo)) [0, 1, 2, 3, 4, 5, 6, 7, 8, 9, 10, 11, 12, 13, 14, 15] rfl
    have hDc := hD.sub (ws' := (wMo cI cZ cJ mo_a mo)) [0, 1, 2, 3, 4, 5, 6, 7, 8, 9, 10, 11, 12, 13, 14, 15] (by decide) rfl
    have hFc := va_free (wc := (wMo cI cZ cJ mo_a mo)) hD hS hA [0, 1, 2, 3, 4, 5, 6, 7, 8, 9, 10, 11, 12, 13, 14, 15] rfl
    refine va_calli (va_runV (As := [.int z0_1]) (rest := []) ⟨hx, hb, hml, hown, hts⟩ (k_Model_refuses l dC dI cI cZ cJ mo_a H.size hf1) (cwV 1 hts (gV t_914 t_916 t_23 t_63 t_917) rfl rfl rfl hd_Model_refuses ⟨Nat.le_trans (Nat.le_of_ble_eq_true rfl) hRf, Nat.le_trans (Nat.le_of_ble_eq_true rfl) hRl⟩) ⟨kP_blind, va_recv hK hP (ci := 7) (q0 := 0) rfl rfl, kP_at hPc hK hDc hN⟩ rfl rfl hl.1 rfl (lv_room (Nat.le_of_ble_eq_true rfl)) d_Model_byteAt_18 hRc) hS (fun q _ h => hFc q h) hFc (fun r9 u t H1 locs ht hvm hw hB hz1 hk1 hS => ?_)
    rw [hw.1]
    obtain ⟨hP, hD⟩ := kQ_join (wr := ([] : va_W)) (w1 := (wMo cI cZ cJ mo_a mo_4)) hP hD [0, 1, 2, 3, 4, 5, 6, 7, 8, 9, 10, 11, 12, 13, 14, 15] [] rfl rfl (by decide) (by decide) ht hk1 hFc hB
    generalize H1 = H at hP hS ⊢
    have hP : va_P (dC, dI) vwCl (wMo cI cZ cJ mo_a mo_4) H := hP.sub [0, 1, 2, 3, 4, 5, 6, 7, 8, 9, 10, 11, 12, 13, 14, 15] rfl
    have hD : va_D A (wMo cI cZ cJ mo_a mo_4) := hD.sub [0, 1, 2, 3, 4, 5, 6, 7, 8, 9, 10, 11, 12, 13, 14, 15] (by decide) rfl
    refine lv_if_eq (tgt := 28) hx hb d_Model_byteAt_21 (by decide) (fun c_5 => ?_) (fun c_5 => ?_)
    · rw [if_pos c_5] at hf
      refine lv_aload_n hx hb d_Model_byteAt_28 rfl (lv_at hl 0 rfl) ?_
      refine va_get (D := (dC, dI)) (ci := 7) (v := .ref (mo_a 12)) (C := R_Model) (T := T_Model) (N := 27) hx hb hts in_Model hown hK hP 0 rfl rfl 17 (by decide) (hts _ t_841) (fun _ h9 => h9) rfl d_Model_byteAt_29 ?_
      refine lv_iload_n hx hb d_Model_byteAt_32 rfl (lv_at hl 1 rfl) ?_
      obtain ⟨h_6, hf⟩ := gd_ex hf
      refine va_iald (f := Mo_out mo_4) hx hb hK hP 12 0 rfl rfl (inb_in h_6) d_Model_byteAt_33 ?_
      exact hr34 _ _ _ (Mo_out mo_4 x1.toNatClampNeg) mo_4 hP hD hS hf
    · rw [if_neg c_5] at hf
      refine lv_iconst (v := 0) hx hb d_Model_byteAt_24 (by decide) ?_
      refine lv_goto (tgt := 34) hx hb d_Model_byteAt_25 (by decide) ?_
      exact hr34 _ _ _ 0 mo_4 hP hD hS hf
  refine lv_if_lt (tgt := 17) hx hb d_Model_byteAt_2 (by decide) (fun c_7 => ?_) (fun c_7 => ?_)
  · rw [if_pos c_7] at hf
    refine lv_iconst (v := 1) hx hb d_Model_byteAt_17 (by decide) ?_
    exact J18_1 _ _ _ 1 hP hD hS (lv_sub hl [0, 1] rfl) hf
  · rw [if_neg c_7] at hf
    refine lv_iload_n hx hb d_Model_byteAt_5 rfl (lv_at hl 1 rfl) ?_
    refine lv_aload_n hx hb d_Model_byteAt_6 rfl (lv_at hl 0 rfl) ?_
    refine va_get (D := (dC, dI)) (ci := 7) (v := .int (Mo_on mo)) (C := R_Model) (T := T_Model) (N := 27) hx hb hts in_Model hown hK hP 0 rfl rfl 15 (by decide) (hts _ t_839) (fun _ h9 => h9) rfl d_Model_byteAt_7 ?_
    refine lv_icmp_ge (tgt := 17) hx hb d_Model_byteAt_10 (by decide) (fun c_8 => ?_) (fun c_8 => ?_)
    · rw [if_pos c_8] at hf
      refine lv_iconst (v := 1) hx hb d_Model_byteAt_17 (by decide) ?_
      exact J18_1 _ _ _ 1 hP hD hS (lv_sub hl [0, 1] rfl) hf
    · rw [if_neg c_8] at hf
      refine lv_iconst (v := 0) hx hb d_Model_byteAt_13 (by decide) ?_
      refine lv_goto (tgt := 18) hx hb d_Model_byteAt_14 (by decide) ?_
      exact J18_1 _ _ _ 0 hP hD hS (lv_sub hl [0, 1] rfl) hf
end
set_option maxHeartbeats 4000000 in
set_option maxRecDepth 100000 in
theorem k_Model_byteAt (l : Launch) (dC : Nat → ClassId) (dI : Nat → Nat → Nat) (cI cZ cJ : ClassId) (mo_a : Nat → Nat) (sz : Nat) {mo : Mo} {x1 : Int32} {r : Int32} {mo' : Mo} (hf : f_Model_byteAt mo x1 = some (r, mo')) :
    Met l y_Model_byteAt ws_Model_byteAt ({ frames := 1, cells := 0, slots := 0, locals := 21 }) (va_Pc [.ref (mo_a 0), .int x1] (kP (dC, dI) vwCl (TYS cI cZ cJ) (wMo cI cZ cJ mo_a mo) sz)) (va_Qi (fun (q : Int32) (_ : Unit) => q = r) (fun _ t => kQ (dC, dI) vwCl (TYS cI cZ cJ) (wMo cI cZ cJ mo_a mo) sz (wMo cI cZ cJ mo_a mo') t) (va_A (wMo cI cZ cJ mo_a mo) sz)) 0 0 (va_A (wMo cI cZ cJ mo_a mo) sz) := by
  refine Met.ofW (cc := c_Model_byteAt) (maxL := 2) (ret := (some .int)) (by decide) rfl ?_
  intro p e s m args below meth c s₁ B hml hv
  obtain ⟨rfl, hsz, hP, hK, hD0, hN⟩ := hv
  have hr := B.returns
  have hlocks := B.notSynchronized
  subst hsz
  have hD := hD0.self (sz := s.heap.size)
  have hl := lv_entry ([.ref (mo_a 0), .int x1]) (n := 2) (Nat.le_of_ble_eq_true rfl)
  rw [lg_entry_eq]
  generalize (lg_sl ([.ref (mo_a 0), .int x1]) ++ List.replicate (2 - (lg_sl ([.ref (mo_a 0), .int x1])).length) Slot.unset).toArray = ls at hl ⊢
  refine B_Model_byteAt (A := va_A (wMo cI cZ cJ mo_a mo) s.heap.size) ⟨B.exec, B.bytes, hml, findClass_of_methodNamed B.named, fun w h => atoms_spec (ws := ws_Model_byteAt) B.pre w (List.mem_cons_of_mem _ h), hK, fun q h => Or.inr h, Nat.le_of_ble_eq_true rfl, Nat.le_of_ble_eq_true rfl, hN, Nat.le_of_ble_eq_true rfl, Nat.le_of_ble_eq_true rfl⟩ (fun H locs ls v mo'1 hP hD hS hf => ?_) hP hD va_S.rf hl hf
  · cases hf
    exact W.iret B.exec B.bytes hr (fun t ht hW => ⟨⟨_, (), rfl, rfl, ⟨by rw [ht]; exact hP, va_K.moved hW.alike hK, hD⟩⟩, hS.F ht⟩) hS.2.2 d_Model_byteAt_34

/-! Model_feed -/
def j_Model_feed_31_2 (mo : Mo) (x1 : Int32) (z0_1 : Int32) : Option (Int32 × Mo) := bd (f_Model_refuses mo z0_1) <| fun (r_3, mo_4) => (if r_3 = 0 then gd (inb (Mo_inn mo_4) 3000) <| lt' (Mo_s_inp mo_4 (upd (Mo_inp mo_4) (Mo_inn mo_4).toNatClampNeg x1)) <| fun mo_7 => lt' (Mo_s_inn mo_7 ((Mo_inn mo_7) + 1)) <| fun mo_9 => some (Mo_inn mo_9, mo_9) else some (0, mo_4))
def f_Model_feed (mo : Mo) (x1 : Int32) : Option (Int32 × Mo) := (if x1 < 0 then j_Model_feed_31_2 mo x1 1 else (if x1 ≤ 255 then (if (Mo_inn mo) = 3000 then j_Model_feed_31_2 mo x1 2 else j_Model_feed_31_2 mo x1 0) else j_Model_feed_31_2 mo x1 1))
section
variable {p : Program} {l : Launch} {e : Env} {R : Room} {s : State} {m : MethodId} {args : Array Value} {below : List Frame} {meth : Method} {c : Code} {Q : State → Prop} {A : Nat → Prop}
set_option maxHeartbeats 4000000 in
set_option maxRecDepth 100000 in
theorem B_Model_feed {cells slots : Nat} {dC : Nat → ClassId} {dI : Nat → Nat → Nat} {cI cZ cJ : ClassId} {mo_a : Nat → Nat} {mo : Mo} {x1 : Int32} {res : Int32 × Mo} (C0 : cxt p c m s args R cells slots R_Model c_Model_feed tb 2 (dC, dI) vwCl (TYS cI cZ cJ) A 1 21)
    (hr38 : ∀ (H : Heap) (locs : List Loc) (ls : Array Slot) (v : Int32) (mo' : Mo), va_P (dC, dI) vwCl (wMo cI cZ cJ mo_a mo') H → va_D A (wMo cI cZ cJ mo_a mo') → va_S A s.heap H locs → some (v, mo') = some res → W p l e R s m args below meth c H locs cells slots Q (F0 m 38 ls [.int v]))
    (hr63 : ∀ (H : Heap) (locs : List Loc) (ls : Array Slot) (v : Int32) (mo' : Mo), va_P (dC, dI) vwCl (wMo cI cZ cJ mo_a mo') H → va_D A (wMo cI cZ cJ mo_a mo') → va_S A s.heap H locs → some (v, mo') = some res → W p l e R s m args below meth c H locs cells slots Q (F0 m 63 ls [.int v]))
    {H : Heap} {locs : List Loc} {ls : Array Slot} (hP : va_P (dC, dI) vwCl (wMo cI cZ cJ mo_a mo) H) (hD : va_D A (wMo cI cZ cJ mo_a mo)) (hS : va_S A s.heap H locs) (hl : lv_has ls 2 [(0, .ref (mo_a 0)), (1, .int x1)]) (hf : f_Model_feed mo x1 = some res) : W p l e R s m args below meth c H locs cells slots Q (F0 m 0 ls []) := by
  obtain ⟨hx, hb, hml, hown, hts, hK, hA, hRf, hRl, hN, hRc⟩ := id C0
  rw [f_Model_feed] at hf
  refine lv_aload_n hx hb d_Model_feed_0 rfl (lv_at hl 0 rfl) ?_
  refine lv_iload_n hx hb d_Model_feed_1 rfl (lv_at hl 1 rfl) ?_
  have J31_1 : ∀ (H : Heap) (locs : List Loc) (ls : Array Slot) (z0_1 : Int32), va_P (dC, dI) vwCl (wMo cI cZ cJ mo_a mo) H → va_D A (wMo cI cZ cJ mo_a mo) → va_S A s.heap H locs → lv_has ls 2 [(0, .ref (mo_a 0)), (1, .int x1)] → j_Model_feed_31_2 mo x1 z0_1 = some res → W p l e R s m args below meth c H locs cells slots Q (F0 m 31 ls [.int z0_1, .ref (mo_a 0)]) := by
    intro H locs ls z0_1 hP hD hS hl hf
    rw [j_Model_feed_31_2] at hf
    obtain ⟨⟨r_3, mo_4⟩, hf1, hf⟩ := bd_ex hf
    try dsimp only at hf
    have hPc := hP.sub (ws' := (wMo cI cZ cJ mo_a mo)) [0, 1, 2, 3, 4, 5, 6, 7, 8, 9, 10, 11, 12, 13, 14, 15] rfl
    have hDc := hD.sub (ws' := (wMo cI cZ cJ mo_a mo)) [0, 1, 2, 3, 4, 5, 6, 7, 8, 9, 10, 11, 12, 13, 14, 15] (by decide) rfl
    have hFc := va_free (wc := (wMo cI cZ cJ mo_a mo)) hD hS hA [0, 1, 2, 3, 4, 5, 6, 7, 8, 9, 10, 11, 12, 13, 14, 15] rfl
    refine va_calli (va_runV (As := [.int z0_1]) (rest := []) ⟨hx, hb, hml, hown, hts⟩ (k_Model_refuses l dC dI cI cZ cJ mo_a H.size hf1) (cwV 1 hts (gV t_914 t_916 t_23 t_63 t_917) rfl rfl rfl hd_Model_refuses ⟨Nat.le_trans (Nat.le_of_ble_eq_true rfl) hRf, Nat.le_trans (Nat.le_of_ble_eq_true rfl) hRl⟩) ⟨kP_blind, va_recv hK hP (ci := 7) (q0 := 0) rfl rfl, kP_at hPc hK hDc hN⟩ rfl rfl hl.1 rfl (lv_room (Nat.le_of_ble_eq_true rfl)) d_Model_feed_31 hRc) hS (fun q _ h => hFc q h) hFc (fun r9 u t H1 locs ht hvm hw hB hz1 hk1 hS => ?_)
    rw [hw.1]
    obtain ⟨hP, hD⟩ := kQ_join (wr := ([] : va_W)) (w1 := (wMo cI cZ cJ mo_a mo_4)) hP hD [0, 1, 2, 3, 4, 5, 6, 7, 8, 9, 10, 11, 12, 13, 14, 15] [] rfl rfl (by decide) (by decide) ht hk1 hFc hB
    generalize H1 = H at hP hS ⊢
    have hP : va_P (dC, dI) vwCl (wMo cI cZ cJ mo_a mo_4) H := hP.sub [0, 1, 2, 3, 4, 5, 6, 7, 8, 9, 10, 11, 12, 13, 14, 15] rfl
    have hD : va_D A (wMo cI cZ cJ mo_a mo_4) := hD.sub [0, 1, 2, 3, 4, 5, 6, 7, 8, 9, 10, 11, 12, 13, 14, 15] (by decide) rfl
    refine lv_if_eq (tgt := 39) hx hb d_Model_feed_34 (by decide) (fun c_5 => ?_) (fun c_5 => ?_)
    · rw [if_pos c_5] at hf
      refine lv_aload_n hx hb d_Model_feed_39 rfl (lv_at hl 0 rfl) ?_
      refine va_get (D := (dC, dI)) (ci := 7) (v := .ref (mo_a 13)) (C := R_Model) (T := T_Model) (N := 27) hx hb hts in_Model hown hK hP 0 rfl rfl 20 (by decide) (hts _ t_844) (fun _ h9 => h9) rfl d_Model_feed_40 ?_
      refine lv_aload_n hx hb d_Model_feed_43 rfl (lv_at hl 0 rfl) ?_
      refine va_get (D := (dC, dI)) (ci := 7) (v := .int (Mo_inn mo_4)) (C := R_Model) (T := T_Model) (N := 27) hx hb hts in_Model hown hK hP 0 rfl rfl 18 (by decide) (hts _ t_842) (fun _ h9 => h9) rfl d_Model_feed_44 ?_
      refine lv_iload_n hx hb d_Model_feed_47 rfl (lv_at hl 1 rfl) ?_
      obtain ⟨h_6, hf⟩ := gd_ex hf
      refine va_iast (f := Mo_inp mo_4) hx hb hK hP hD hS 13 0 rfl rfl (inb_in h_6) d_Model_feed_48 (fun H locs hP hD hS => ?_)
      obtain ⟨mo_7, emo_7, hf⟩ := lt_ex hf
      try dsimp only at hf
      have hP : va_P (dC, dI) vwCl (wMo cI cZ cJ mo_a mo_7) H := by rw [emo_7]; exact hP
      have hD : va_D A (wMo cI cZ cJ mo_a mo_7) := by rw [emo_7]; exact hD
      refine lv_aload_n hx hb d_Model_feed_49 rfl (lv_at hl 0 rfl) ?_
      refine lv_dup hx hb d_Model_feed_50 rfl ?_
      refine va_get (D := (dC, dI)) (ci := 7) (v := .int (Mo_inn mo_7)) (C := R_Model) (T := T_Model) (N := 27) hx hb hts in_Model hown hK hP 0 rfl rfl 18 (by decide) (hts _ t_842) (fun _ h9 => h9) rfl d_Model_feed_51 ?_
      refine lv_iconst (v := 1) hx hb d_Model_feed_54 (by decide) ?_
      refine lv_iadd hx hb d_Model_feed_55 ?_
      refine va_put (D := (dC, dI)) (ci := 7) (v := .int ((Mo_inn mo_7) + 1)) (ty := .int) (C := R_Model) (T := T_Model) (N := 27) hx hb hts in_Model ty_Model tyok_Model nm_Model hown hK hP hD hS 0 rfl rfl 18 (by decide) (hts _ t_842) (fun _ h9 => h9) rfl (by decide +kernel) rfl rfl (Nat.le_of_ble_eq_true rfl) d_Model_feed_56 (fun H locs hP hD hS => ?_)
      obtain ⟨mo_9, emo_9, hf⟩ := lt_ex hf
      try dsimp only at hf
      have hP : va_P (dC, dI) vwCl (wMo cI cZ cJ mo_a mo_9) H := by rw [emo_9]; exact hP
      have hD : va_D A (wMo cI cZ cJ mo_a mo_9) := by rw [emo_9]; exact hD
      refine lv_aload_n hx hb d_Model_feed_59 rfl (lv_at hl 0 rfl) ?_
      refine va_get (D := (dC, dI)) (ci := 7) (v := .int (Mo_inn mo_9)) (C := R_Model) (T := T_Model) (N := 27) hx hb hts in_Model hown hK hP 0 rfl rfl 18 (by decide) (hts _ t_842) (fun _ h9 => h9) rfl d_Model_feed_60 ?_
      exact hr63 _ _ _ (Mo_inn mo_9) mo_9 hP hD hS hf
    · rw [if_neg c_5] at hf
      refine lv_iconst (v := 0) hx hb d_Model_feed_37 (by decide) ?_
      exact hr38 _ _ _ 0 mo_4 hP hD hS hf
  refine lv_if_lt (tgt := 12) hx hb d_Model_feed_2 (by decide) (fun c_11 => ?_) (fun c_11 => ?_)
  · rw [if_pos c_11] at hf
    refine lv_iconst (v := 1) hx hb d_Model_feed_12 (by decide) ?_
    refine lv_goto (tgt := 31) hx hb d_Model_feed_13 (by decide) ?_
    exact J31_1 _ _ _ 1 hP hD hS (lv_sub hl [0, 1] rfl) hf
  · rw [if_neg c_11] at hf
    refine lv_iload_n hx hb d_Model_feed_5 rfl (lv_at hl 1 rfl) ?_
    refine lv_sipush (v := 255) hx hb d_Model_feed_6 (by decide) ?_
    refine lv_icmp_le (tgt := 16) hx hb d_Model_feed_9 (by decide) (fun c_12 => ?_) (fun c_12 => ?_)
    · rw [if_pos c_12] at hf
      refine lv_aload_n hx hb d_Model_feed_16 rfl (lv_at hl 0 rfl) ?_
      refine va_get (D := (dC, dI)) (ci := 7) (v := .int (Mo_inn mo)) (C := R_Model) (T := T_Model) (N := 27) hx hb hts in_Model hown hK hP 0 rfl rfl 18 (by decide) (hts _ t_842) (fun _ h9 => h9) rfl d_Model_feed_17 ?_
      refine lv_sipush (v := 3000) hx hb d_Model_feed_20 (by decide) ?_
      refine lv_icmp_ne (tgt := 30) hx hb d_Model_feed_23 (by decide) (fun c_13 => ?_) (fun c_13 => ?_)
      · rw [if_neg c_13] at hf
        refine lv_iconst (v := 0) hx hb d_Model_feed_30 (by decide) ?_
        exact J31_1 _ _ _ 0 hP hD hS (lv_sub hl [0, 1] rfl) hf
      · rw [if_pos c_13] at hf
        refine lv_iconst (v := 2) hx hb d_Model_feed_26 (by decide) ?_
        refine lv_goto (tgt := 31) hx hb d_Model_feed_27 (by decide) ?_
        exact J31_1 _ _ _ 2 hP hD hS (lv_sub hl [0, 1] rfl) hf
    · rw [if_neg c_12] at hf
      refine lv_iconst (v := 1) hx hb d_Model_feed_12 (by decide) ?_
      refine lv_goto (tgt := 31) hx hb d_Model_feed_13 (by decide) ?_
      exact J31_1 _ _ _ 1 hP hD hS (lv_sub hl [0, 1] rfl) hf
end
set_option maxHeartbeats 4000000 in
set_option maxRecDepth 100000 in
theorem k_Model_feed (l : Launch) (dC : Nat → ClassId) (dI : Nat → Nat → Nat) (cI cZ cJ : ClassId) (mo_a : Nat → Nat) (sz : Nat) {mo : Mo} {x1 : Int32} {r : Int32} {mo' : Mo} (hf : f_Model_feed mo x1 = some (r, mo')) :
    Met l y_Model_feed ws_Model_feed ({ frames := 1, cells := 0, slots := 0, locals := 21 }) (va_Pc [.ref (mo_a 0), .int x1] (kP (dC, dI) vwCl (TYS cI cZ cJ) (wMo cI cZ cJ mo_a mo) sz)) (va_Qi (fun (q : Int32) (_ : Unit) => q = r) (fun _ t => kQ (dC, dI) vwCl (TYS cI cZ cJ) (wMo cI cZ cJ mo_a mo) sz (wMo cI cZ cJ mo_a mo') t) (va_A (wMo cI cZ cJ mo_a mo) sz)) 0 0 (va_A (wMo cI cZ cJ mo_a mo) sz) := by
  refine Met.ofW (cc := c_Model_feed) (maxL := 2) (ret := (some .int)) (by decide) rfl ?_
  intro p e s m args below meth c s₁ B hml hv
  obtain ⟨rfl, hsz, hP, hK, hD0, hN⟩ := hv
  have hr := B.returns
  have hlocks := B.notSynchronized
  subst hsz
  have hD := hD0.self (sz := s.heap.size)
  have hl := lv_entry ([.ref (mo_a 0), .int x1]) (n := 2) (Nat.le_of_ble_eq_true rfl)
  rw [lg_entry_eq]
  generalize (lg_sl ([.ref (mo_a 0), .int x1]) ++ List.replicate (2 - (lg_sl ([.ref (mo_a 0), .int x1])).length) Slot.unset).toArray = ls at hl ⊢
  refine B_Model_feed (A := va_A (wMo cI cZ cJ mo_a mo) s.heap.size) ⟨B.exec, B.bytes, hml, findClass_of_methodNamed B.named, fun w h => atoms_spec (ws := ws_Model_feed) B.pre w (List.mem_cons_of_mem _ h), hK, fun q h => Or.inr h, Nat.le_of_ble_eq_true rfl, Nat.le_of_ble_eq_true rfl, hN, Nat.le_of_ble_eq_true rfl, Nat.le_of_ble_eq_true rfl⟩ (fun H locs ls v mo'1 hP hD hS hf => ?_) (fun H locs ls v mo'1 hP hD hS hf => ?_) hP hD va_S.rf hl hf
  · cases hf
    exact W.iret B.exec B.bytes hr (fun t ht hW => ⟨⟨_, (), rfl, rfl, ⟨by rw [ht]; exact hP, va_K.moved hW.alike hK, hD⟩⟩, hS.F ht⟩) hS.2.2 d_Model_feed_38
  · cases hf
    exact W.iret B.exec B.bytes hr (fun t ht hW => ⟨⟨_, (), rfl, rfl, ⟨by rw [ht]; exact hP, va_K.moved hW.alike hK, hD⟩⟩, hS.F ht⟩) hS.2.2 d_Model_feed_63

/-! Model_pass -/
def l_Model_pass_31 (k70 : Mo → Option (Int32 × Mo)) : Nat → Mo → Int32 → Option (Int32 × Mo)
  | 0, _, _ => none
  | n + 1, mo, x1 => (if (Mo_on mo) ≤ x1 then k70 mo else gd (inb x1 16000) <| gd (inb (Mo_inn mo) 3000) <| lt' (Mo_s_inp mo (upd (Mo_inp mo) (Mo_inn mo).toNatClampNeg (Mo_out mo x1.toNatClampNeg))) <| fun mo_10 => lt' (Mo_s_inn mo_10 ((Mo_inn mo_10) + 1)) <| fun mo_12 => lt' (x1 + 1) <| fun x1_14 => (l_Model_pass_31 k70 n) mo_12 x1_14)
def j_Model_pass_21_2 (mo : Mo) (z0_1 : Int32) : Option (Int32 × Mo) := bd (f_Model_refuses mo z0_1) <| fun (r_3, mo_4) => (if r_3 = 0 then l_Model_pass_31 (fun mo_15 => some (Mo_inn mo_15, mo_15)) 100000 mo_4 0 else some (0, mo_4))
def f_Model_pass (mo : Mo) : Option (Int32 × Mo) := (if ((Mo_inn mo) + (Mo_on mo)) ≤ 3000 then j_Model_pass_21_2 mo 0 else j_Model_pass_21_2 mo 1)
section
variable {p : Program} {l : Launch} {e : Env} {R : Room} {s : State} {m : MethodId} {args : Array Value} {below : List Frame} {meth : Method} {c : Code} {Q : State → Prop} {A : Nat → Prop}
set_option maxHeartbeats 4000000 in
set_option maxRecDepth 100000 in
theorem L_Model_pass_31 {cells slots : Nat} {dC : Nat → ClassId} {dI : Nat → Nat → Nat} {cI cZ cJ : ClassId} {mo_a : Nat → Nat} {k70 : Mo → Option (Int32 × Mo)} {res : Int32 × Mo} (C0 : cxt p c m s args R cells slots R_Model c_Model_pass tb 2 (dC, dI) vwCl (TYS cI cZ cJ) A 1 21)
    (hk70 : ∀ (H : Heap) (locs : List Loc) (ls : Array Slot) (mo_6 : Mo), va_P (dC, dI) vwCl (wMo cI cZ cJ mo_a mo_6) H → va_D A (wMo cI cZ cJ mo_a mo_6) → va_S A s.heap H locs → lv_has ls 2 [(0, .ref (mo_a 0))] → k70 mo_6 = some res → W p l e R s m args below meth c H locs cells slots Q (F0 m 70 ls [])) :
    ∀ (n : Nat) (H : Heap) (locs : List Loc) (ls : Array Slot) (mo : Mo) (x1 : Int32), va_P (dC, dI) vwCl (wMo cI cZ cJ mo_a mo) H → va_D A (wMo cI cZ cJ mo_a mo) → va_S A s.heap H locs → lv_has ls 2 [(0, .ref (mo_a 0)), (1, .int x1)] → l_Model_pass_31 k70 n mo x1 = some res → W p l e R s m args below meth c H locs cells slots Q (F0 m 31 ls []) := by
  obtain ⟨hx, hb, hml, hown, hts, hK, hA, hRf, hRl, hN, hRc⟩ := id C0
  intro n
  induction n with
  | zero =>
    intro H locs ls mo x1 hP hD hS hl hf
    exact absurd hf (by simp [l_Model_pass_31])
  | succ n ih =>
    intro H locs ls mo x1 hP hD hS hl hf
    rw [l_Model_pass_31] at hf
    refine lv_iload_n hx hb d_Model_pass_31 rfl (lv_at hl 1 rfl) ?_
    refine lv_aload_n hx hb d_Model_pass_32 rfl (lv_at hl 0 rfl) ?_
    refine va_get (D := (dC, dI)) (ci := 7) (v := .int (Mo_on mo)) (C := R_Model) (T := T_Model) (N := 27) hx hb hts in_Model hown hK hP 0 rfl rfl 15 (by decide) (hts _ t_839) (fun _ h9 => h9) rfl d_Model_pass_33 ?_
    refine lv_icmp_ge (tgt := 70) hx hb d_Model_pass_36 (by decide) (fun c_7 => ?_) (fun c_7 => ?_)
    · rw [if_pos c_7] at hf
      exact hk70 _ _ _ mo hP hD hS (lv_sub hl [0] rfl) hf
    · rw [if_neg c_7] at hf
      refine lv_aload_n hx hb d_Model_pass_39 rfl (lv_at hl 0 rfl) ?_
      refine va_get (D := (dC, dI)) (ci := 7) (v := .ref (mo_a 13)) (C := R_Model) (T := T_Model) (N := 27) hx hb hts in_Model hown hK hP 0 rfl rfl 20 (by decide) (hts _ t_844) (fun _ h9 => h9) rfl d_Model_pass_40 ?_
      refine lv_aload_n hx hb d_Model_pass_43 rfl (lv_at hl 0 rfl) ?_
      refine va_get (D := (dC, dI)) (ci := 7) (v := .int (Mo_inn mo)) (C := R_Model) (T := T_Model) (N := 27) hx hb hts in_Model hown hK hP 0 rfl rfl 18 (by decide) (hts _ t_842) (fun _ h9 => h9) rfl d_Model_pass_44 ?_
      refine lv_aload_n hx hb d_Model_pass_47 rfl (lv_at hl 0 rfl) ?_
      refine va_get (D := (dC, dI)) (ci := 7) (v := .ref (mo_a 12)) (C := R_Model) (T := T_Model) (N := 27) hx hb hts in_Model hown hK hP 0 rfl rfl 17 (by decide) (hts _ t_841) (fun _ h9 => h9) rfl d_Model_pass_48 ?_
      refine lv_iload_n hx hb d_Model_pass_51 rfl (lv_at hl 1 rfl) ?_
      obtain ⟨h_8, hf⟩ := gd_ex hf
      refine va_iald (f := Mo_out mo) hx hb hK hP 12 0 rfl rfl (inb_in h_8) d_Model_pass_52 ?_
      obtain ⟨h_9, hf⟩ := gd_ex hf
      refine va_iast (f := Mo_inp mo) hx hb hK hP hD hS 13 0 rfl rfl (inb_in h_9) d_Model_pass_53 (fun H locs hP hD hS => ?_)
      obtain ⟨mo_10, emo_10, hf⟩ := lt_ex hf
      try dsimp only at hf
      have hP : va_P (dC, dI) vwCl (wMo cI cZ cJ mo_a mo_10) H := by rw [emo_10]; exact hP
      have hD : va_D A (wMo cI cZ cJ mo_a mo_10) := by rw [emo_10]; exact hD
      refine lv_aload_n hx hb d_Model_pass_54 rfl (lv_at hl 0 rfl) ?_
      refine lv_dup hx hb d_Model_pass_55 rfl ?_
      refine va_get (D := (dC, dI)) (ci := 7) (v := .int (Mo_inn mo_10)) (C := R_Model) (T := T_Model) (N := 27) hx hb hts in_Model hown hK hP 0 rfl rfl 18 (by decide) (hts _ t_842) (fun _ h9 => h9) rfl d_Model_pass_56 ?_
      refine lv_iconst (v := 1) hx hb d_Model_pass_59 (by decide) ?_
      refine lv_iadd hx hb d_Model_pass_60 ?_
      refine va_put (D := (dC, dI)) (ci := 7) (v := .int ((Mo_inn mo_10) + 1)) (ty := .int) (C := R_Model) (T := T_Model) (N := 27) hx hb hts in_Model ty_Model tyok_Model nm_Model hown hK hP hD hS 0 rfl rfl 18 (by decide) (hts _ t_842) (fun _ h9 => h9) rfl (by decide +kernel) rfl rfl (Nat.le_of_ble_eq_true rfl) d_Model_pass_61 (fun H locs hP hD hS => ?_)
      obtain ⟨mo_12, emo_12, hf⟩ := lt_ex hf
      try dsimp only at hf
      have hP : va_P (dC, dI) vwCl (wMo cI cZ cJ mo_a mo_12) H := by rw [emo_12]; exact hP
      have hD : va_D A (wMo cI cZ cJ mo_a mo_12) := by rw [emo_12]; exact hD
      obtain ⟨x1_14, ex1_14, hf⟩ := lt_ex hf
      try dsimp only at hf
      refine lv_iinc (v := x1_14) (lv' := [(1, .int x1_14), (0, .ref (mo_a 0))]) hx hb d_Model_pass_64 hl (k := 1) rfl (by rw [ex1_14]; rfl) (by decide) rfl (fun ls hl => ?_)
      refine lv_goto (tgt := 31) hx hb d_Model_pass_67 (by decide) ?_
      exact ih _ _ _ mo_12 x1_14 hP hD hS (lv_sub hl [1, 0] rfl) hf
set_option maxHeartbeats 4000000 in
set_option maxRecDepth 100000 in
theorem B_Model_pass {cells slots : Nat} {dC : Nat → ClassId} {dI : Nat → Nat → Nat} {cI cZ cJ : ClassId} {mo_a : Nat → Nat} {mo : Mo} {res : Int32 × Mo} (C0 : cxt p c m s args R cells slots R_Model c_Model_pass tb 2 (dC, dI) vwCl (TYS cI cZ cJ) A 1 21)
    (hr28 : ∀ (H : Heap) (locs : List Loc) (ls : Array Slot) (v : Int32) (mo' : Mo), va_P (dC, dI) vwCl (wMo cI cZ cJ mo_a mo') H → va_D A (wMo cI cZ cJ mo_a mo') → va_S A s.heap H locs → some (v, mo') = some res → W p l e R s m args below meth c H locs cells slots Q (F0 m 28 ls [.int v]))
    (hr74 : ∀ (H : Heap) (locs : List Loc) (ls : Array Slot) (v : Int32) (mo' : Mo), va_P (dC, dI) vwCl (wMo cI cZ cJ mo_a mo') H → va_D A (wMo cI cZ cJ mo_a mo') → va_S A s.heap H locs → some (v, mo') = some res → W p l e R s m args below meth c H locs cells slots Q (F0 m 74 ls [.int v]))
    {H : Heap} {locs : List Loc} {ls : Array Slot} (hP : va_P (dC, dI) vwCl (wMo cI cZ cJ mo_a mo) H) (hD : va_D A (wMo cI cZ cJ mo_a mo)) (hS : va_S A s.heap H locs) (hl : lv_has ls 2 [(0, .ref (mo_a 0))]) (hf : f_Model_pass mo = some res) : W p l e R s m args below meth c H locs cells slots Q (F0 m 0 ls []) := by
  obtain ⟨hx, hb, hml, hown, hts, hK, hA, hRf, hRl, hN, hRc⟩ := id C0
  rw [f_Model_pass] at hf
  refine lv_aload_n hx hb d_Model_pass_0 rfl (lv_at hl 0 rfl) ?_
  refine lv_aload_n hx hb d_Model_pass_1 rfl (lv_at hl 0 rfl) ?_
  refine va_get (D := (dC, dI)) (ci := 7) (v := .int (Mo_inn mo)) (C := R_Model) (T := T_Model) (N := 27) hx hb hts in_Model hown hK hP 0 rfl rfl 18 (by decide) (hts _ t_842) (fun _ h9 => h9) rfl d_Model_pass_2 ?_
  refine lv_aload_n hx hb d_Model_pass_5 rfl (lv_at hl 0 rfl) ?_
  refine va_get (D := (dC, dI)) (ci := 7) (v := .int (Mo_on mo)) (C := R_Model) (T := T_Model) (N := 27) hx hb hts in_Model hown hK hP 0 rfl rfl 15 (by decide) (hts _ t_839) (fun _ h9 => h9) rfl d_Model_pass_6 ?_
  refine lv_iadd hx hb d_Model_pass_9 ?_
  refine lv_sipush (v := 3000) hx hb d_Model_pass_10 (by decide) ?_
  have J21_1 : ∀ (H : Heap) (locs : List Loc) (ls : Array Slot) (z0_1 : Int32), va_P (dC, dI) vwCl (wMo cI cZ cJ mo_a mo) H → va_D A (wMo cI cZ cJ mo_a mo) → va_S A s.heap H locs → lv_has ls 2 [(0, .ref (mo_a 0))] → j_Model_pass_21_2 mo z0_1 = some res → W p l e R s m args below meth c H locs cells slots Q (F0 m 21 ls [.int z0_1, .ref (mo_a 0)]) := by
    intro H locs ls z0_1 hP hD hS hl hf
    rw [j_Model_pass_21_2] at hf
    obtain ⟨⟨r_3, mo_4⟩, hf1, hf⟩ := bd_ex hf
    try dsimp only at hf
    have hPc := hP.sub (ws' := (wMo cI cZ cJ mo_a mo)) [0, 1, 2, 3, 4, 5, 6, 7, 8, 9, 10, 11, 12, 13, 14, 15] rfl
    have hDc := hD.sub (ws' := (wMo cI cZ cJ mo_a mo)) [0, 1, 2, 3, 4, 5, 6, 7, 8, 9, 10, 11, 12, 13, 14, 15] (by decide) rfl
    have hFc := va_free (wc := (wMo cI cZ cJ mo_a mo)) hD hS hA [0, 1, 2, 3, 4, 5, 6, 7, 8, 9, 10, 11, 12, 13, 14, 15] rfl
    refine va_calli (va_runV (As := [.int z0_1]) (rest := []) ⟨hx, hb, hml, hown, hts⟩ (k_Model_refuses l dC dI cI cZ cJ mo_a H.size hf1) (cwV 1 hts (gV t_914 t_916 t_23 t_63 t_917) rfl rfl rfl hd_Model_refuses ⟨Nat.le_trans (Nat.le_of_ble_eq_true rfl) hRf, Nat.le_trans (Nat.le_of_ble_eq_true rfl) hRl⟩) ⟨kP_blind, va_recv hK hP (ci := 7) (q0 := 0) rfl rfl, kP_at hPc hK hDc hN⟩ rfl rfl hl.1 rfl (lv_room (Nat.le_of_ble_eq_true rfl)) d_Model_pass_21 hRc) hS (fun q _ h => hFc q h) hFc (fun r9 u t H1 locs ht hvm hw hB hz1 hk1 hS => ?_)
    rw [hw.1]
    obtain ⟨hP, hD⟩ := kQ_join (wr := ([] : va_W)) (w1 := (wMo cI cZ cJ mo_a mo_4)) hP hD [0, 1, 2, 3, 4, 5, 6, 7, 8, 9, 10, 11, 12, 13, 14, 15] [] rfl rfl (by decide) (by decide) ht hk1 hFc hB
    generalize H1 = H at hP hS ⊢
    have hP : va_P (dC, dI) vwCl (wMo cI cZ cJ mo_a mo_4) H := hP.sub [0, 1, 2, 3, 4, 5, 6, 7, 8, 9, 10, 11, 12, 13, 14, 15] rfl
    have hD : va_D A (wMo cI cZ cJ mo_a mo_4) := hD.sub [0, 1, 2, 3, 4, 5, 6, 7, 8, 9, 10, 11, 12, 13, 14, 15] (by decide) rfl
    refine lv_if_eq (tgt := 29) hx hb d_Model_pass_24 (by decide) (fun c_5 => ?_) (fun c_5 => ?_)
    · rw [if_pos c_5] at hf
      refine lv_iconst (v := 0) hx hb d_Model_pass_29 (by decide) ?_
      refine lv_istore_n (lv' := [(1, .int 0), (0, .ref (mo_a 0))]) hx hb d_Model_pass_30 rfl hl (by decide) rfl (fun ls hl => ?_)
      refine L_Model_pass_31 C0 (fun H locs ls mo_15 hP hD hS hl hf => ?_) 100000 _ _ _ mo_4 0 hP hD hS (lv_sub hl [1, 0] rfl) hf
      try dsimp only at hf
      refine lv_aload_n hx hb d_Model_pass_70 rfl (lv_at hl 0 rfl) ?_
      refine va_get (D := (dC, dI)) (ci := 7) (v := .int (Mo_inn mo_15)) (C := R_Model) (T := T_Model) (N := 27) hx hb hts in_Model hown hK hP 0 rfl rfl 18 (by decide) (hts _ t_842) (fun _ h9 => h9) rfl d_Model_pass_71 ?_
      exact hr74 _ _ _ (Mo_inn mo_15) mo_15 hP hD hS hf
    · rw [if_neg c_5] at hf
      refine lv_iconst (v := 0) hx hb d_Model_pass_27 (by decide) ?_
      exact hr28 _ _ _ 0 mo_4 hP hD hS hf
  refine lv_icmp_le (tgt := 20) hx hb d_Model_pass_13 (by decide) (fun c_16 => ?_) (fun c_16 => ?_)
  · rw [if_pos c_16] at hf
    refine lv_iconst (v := 0) hx hb d_Model_pass_20 (by decide) ?_
    exact J21_1 _ _ _ 0 hP hD hS (lv_sub hl [0] rfl) hf
  · rw [if_neg c_16] at hf
    refine lv_iconst (v := 1) hx hb d_Model_pass_16 (by decide) ?_
    refine lv_goto (tgt := 21) hx hb d_Model_pass_17 (by decide) ?_
    exact J21_1 _ _ _ 1 hP hD hS (lv_sub hl [0] rfl) hf
end
set_option maxHeartbeats 4000000 in
set_option maxRecDepth 100000 in
theorem k_Model_pass (l : Launch) (dC : Nat → ClassId) (dI : Nat → Nat → Nat) (cI cZ cJ : ClassId) (mo_a : Nat → Nat) (sz : Nat) {mo : Mo} {r : Int32} {mo' : Mo} (hf : f_Model_pass mo = some (r, mo')) :
    Met l y_Model_pass ws_Model_pass ({ frames := 1, cells := 0, slots := 0, locals := 21 }) (va_Pc [.ref (mo_a 0)] (kP (dC, dI) vwCl (TYS cI cZ cJ) (wMo cI cZ cJ mo_a mo) sz)) (va_Qi (fun (q : Int32) (_ : Unit) => q = r) (fun _ t => kQ (dC, dI) vwCl (TYS cI cZ cJ) (wMo cI cZ cJ mo_a mo) sz (wMo cI cZ cJ mo_a mo') t) (va_A (wMo cI cZ cJ mo_a mo) sz)) 0 0 (va_A (wMo cI cZ cJ mo_a mo) sz) := by
  refine Met.ofW (cc := c_Model_pass) (maxL := 2) (ret := (some .int)) (by decide) rfl ?_
  intro p e s m args below meth c s₁ B hml hv
  obtain ⟨rfl, hsz, hP, hK, hD0, hN⟩ := hv
  have hr := B.returns
  have hlocks := B.notSynchronized
  subst hsz
  have hD := hD0.self (sz := s.heap.size)
  have hl := lv_entry ([.ref (mo_a 0)]) (n := 2) (Nat.le_of_ble_eq_true rfl)
  rw [lg_entry_eq]
  generalize (lg_sl ([.ref (mo_a 0)]) ++ List.replicate (2 - (lg_sl ([.ref (mo_a 0)])).length) Slot.unset).toArray = ls at hl ⊢
  refine B_Model_pass (A := va_A (wMo cI cZ cJ mo_a mo) s.heap.size) ⟨B.exec, B.bytes, hml, findClass_of_methodNamed B.named, fun w h => atoms_spec (ws := ws_Model_pass) B.pre w (List.mem_cons_of_mem _ h), hK, fun q h => Or.inr h, Nat.le_of_ble_eq_true rfl, Nat.le_of_ble_eq_true rfl, hN, Nat.le_of_ble_eq_true rfl, Nat.le_of_ble_eq_true rfl⟩ (fun H locs ls v mo'1 hP hD hS hf => ?_) (fun H locs ls v mo'1 hP hD hS hf => ?_) hP hD va_S.rf hl hf
  · cases hf
    exact W.iret B.exec B.bytes hr (fun t ht hW => ⟨⟨_, (), rfl, rfl, ⟨by rw [ht]; exact hP, va_K.moved hW.alike hK, hD⟩⟩, hS.F ht⟩) hS.2.2 d_Model_pass_28
  · cases hf
    exact W.iret B.exec B.bytes hr (fun t ht hW => ⟨⟨_, (), rfl, rfl, ⟨by rw [ht]; exact hP, va_K.moved hW.alike hK, hD⟩⟩, hS.F ht⟩) hS.2.2 d_Model_pass_74

/-! Model_readSymbol -/
def j_Model_readSymbol_254_31 (x4_1 : Int32) (mo_27 : Mo) (z0_30 : Int32) : Option (Mo) := bd (f_Model_readPlane mo_27 x4_1 z0_30) <| fun mo_32 => some mo_32
def j_Model_readSymbol_227_28 (x4_1 : Int32) (mo_27 : Mo) : Option (Mo) := gd (inb x4_1 80) <| (if 0 ≤ (Mo_bs mo_27 x4_1.toNatClampNeg) then gd (inb x4_1 80) <| j_Model_readSymbol_254_31 x4_1 mo_27 (40 + (Mo_bs mo_27 x4_1.toNatClampNeg)) else j_Model_readSymbol_254_31 x4_1 mo_27 (-1))
def j_Model_readSymbol_198_52 (x4_1 : Int32) (mo_50 : Mo) (z0_51 : Int32) : Option (Mo) := gd (inb x4_1 80) <| lt' (Mo_s_dy mo_50 (upd (Mo_dy mo_50) x4_1.toNatClampNeg z0_51)) <| fun mo_54 => gd (inb x4_1 80) <| (if 4 < (Mo_dx mo_54 x4_1.toNatClampNeg) then lt' (Mo_s_why mo_54 4) <| fun mo_58 => some mo_58 else gd (inb x4_1 80) <| (if (Mo_dy mo_54 x4_1.toNatClampNeg) ≤ 4 then j_Model_readSymbol_227_28 x4_1 mo_54 else lt' (Mo_s_why mo_54 4) <| fun mo_62 => some mo_62))
def j_Model_readSymbol_135_39 (x1 : Int32) (x4_1 : Int32) (r_36 : Int32) (mo_38 : Mo) : Option (Mo) := (if (Mo_why mo_38) < 0 then gd (inb x4_1 80) <| lt' (Mo_s_bs mo_38 (upd (Mo_bs mo_38) x4_1.toNatClampNeg ((x1 - 1) - r_36))) <| fun mo_42 => bd (f_Model_takeBits mo_42 4) <| fun (r_44, mo_45) => gd (inb x4_1 80) <| lt' (Mo_s_dx mo_45 (upd (Mo_dx mo_45) x4_1.toNatClampNeg (r_44 - 4))) <| fun mo_47 => gd (inb x4_1 80) <| (if (Mo_dx mo_47 x4_1.toNatClampNeg) ≤ 4 then bd (f_Model_takeBits mo_47 4) <| fun (r_65, mo_66) => j_Model_readSymbol_198_52 x4_1 mo_66 (r_65 - 4) else j_Model_readSymbol_198_52 x4_1 mo_47 5) else some mo_38)
def j_Model_readSymbol_53_8 (x1 : Int32) (x2 : Int32) (x4_1 : Int32) (mo_7 : Mo) : Option (Mo) := (if (Mo_why mo_7) < 0 then gd (inb x4_1 80) <| lt' (Mo_s_ht mo_7 (upd (Mo_ht mo_7) x4_1.toNatClampNeg x2)) <| fun mo_11 => gd (inb x4_1 80) <| lt' (Mo_s_ex mo_11 (upd (Mo_ex mo_11) x4_1.toNatClampNeg (vp_nar .boolean 0))) <| fun mo_14 => gd (inb x4_1 80) <| lt' (Mo_s_bs mo_14 (upd (Mo_bs mo_14) x4_1.toNatClampNeg (-1))) <| fun mo_17 => gd (inb x4_1 80) <| lt' (Mo_s_dx mo_17 (upd (Mo_dx mo_17) x4_1.toNatClampNeg 0)) <| fun mo_20 => gd (inb x4_1 80) <| lt' (Mo_s_dy mo_20 (upd (Mo_dy mo_20) x4_1.toNatClampNeg 0)) <| fun mo_23 => bd (f_Model_take mo_23 32768) <| fun (r_25, mo_26) => (if r_25 = 1 then bd (f_Model_takeNumber mo_26) <| fun (r_36, mo_37) => (if 0 ≤ (Mo_why mo_37) then j_Model_readSymbol_135_39 x1 x4_1 r_36 mo_37 else (if r_36 < x1 then j_Model_readSymbol_135_39 x1 x4_1 r_36 mo_37 else lt' (Mo_s_why mo_37 3) <| fun mo_69 => j_Model_readSymbol_135_39 x1 x4_1 r_36 mo_69)) else j_Model_readSymbol_227_28 x4_1 mo_26) else some mo_7)
def f_Model_readSymbol (mo : Mo) (x1 : Int32) (x2 : Int32) (x3 : Int32) : Option (Mo) := lt' (40 + x1) <| fun x4_1 => bd (f_Model_takeNumber mo) <| fun (r_2, mo_3) => gd (inb x4_1 80) <| lt' (Mo_s_wd mo_3 (upd (Mo_wd mo_3) x4_1.toNatClampNeg (x3 + r_2))) <| fun mo_5 => (if 0 ≤ (Mo_why mo_5) then j_Model_readSymbol_53_8 x1 x2 x4_1 mo_5 else gd (inb x4_1 80) <| (if 16 < (Mo_wd mo_5 x4_1.toNatClampNeg) then lt' (Mo_s_why mo_5 2) <| fun mo_74 => j_Model_readSymbol_53_8 x1 x2 x4_1 mo_74 else gd (inb x4_1 80) <| (if (Mo_wd mo_5 x4_1.toNatClampNeg) = 0 then lt' (Mo_s_why mo_5 2) <| fun mo_78 => j_Model_readSymbol_53_8 x1 x2 x4_1 mo_78 else j_Model_readSymbol_53_8 x1 x2 x4_1 mo_5)))
section
variable {p : Program} {l : Launch} {e : Env} {R : Room} {s : State} {m : MethodId} {args : Array Value} {below : List Frame} {meth : Method} {c : Code} {Q : State → Prop} {A : Nat → Prop}
set_option maxHeartbeats 4000000 in
set_option maxRecDepth 100000 in
theorem B_Model_readSymbol {cells slots : Nat} {dC : Nat → ClassId} {dI : Nat → Nat → Nat} {cI cZ cJ : ClassId} {mo_a : Nat → Nat} {mo : Mo} {x1 : Int32} {x2 : Int32} {x3 : Int32} {res : Mo} (C0 : cxt p c m s args R cells slots R_Model c_Model_readSymbol tb 6 (dC, dI) vwCl (TYS cI cZ cJ) A 5 118)
    (hr60 : ∀ (H : Heap) (locs : List Loc) (ls : Array Slot) (mo' : Mo), va_P (dC, dI) vwCl (wMo cI cZ cJ mo_a mo') H → va_D A (wMo cI cZ cJ mo_a mo') → va_S A s.heap H locs → some mo' = some res → W p l e R s m args below meth c H locs cells slots Q (F0 m 60 ls []))
    (hr142 : ∀ (H : Heap) (locs : List Loc) (ls : Array Slot) (mo' : Mo), va_P (dC, dI) vwCl (wMo cI cZ cJ mo_a mo') H → va_D A (wMo cI cZ cJ mo_a mo') → va_S A s.heap H locs → some mo' = some res → W p l e R s m args below meth c H locs cells slots Q (F0 m 142 ls []))
    (hr226 : ∀ (H : Heap) (locs : List Loc) (ls : Array Slot) (mo' : Mo), va_P (dC, dI) vwCl (wMo cI cZ cJ mo_a mo') H → va_D A (wMo cI cZ cJ mo_a mo') → va_S A s.heap H locs → some mo' = some res → W p l e R s m args below meth c H locs cells slots Q (F0 m 226 ls []))
    (hr257 : ∀ (H : Heap) (locs : List Loc) (ls : Array Slot) (mo' : Mo), va_P (dC, dI) vwCl (wMo cI cZ cJ mo_a mo') H → va_D A (wMo cI cZ cJ mo_a mo') → va_S A s.heap H locs → some mo' = some res → W p l e R s m args below meth c H locs cells slots Q (F0 m 257 ls []))
    {H : Heap} {locs : List Loc} {ls : Array Slot} (hP : va_P (dC, dI) vwCl (wMo cI cZ cJ mo_a mo) H) (hD : va_D A (wMo cI cZ cJ mo_a mo)) (hS : va_S A s.heap H locs) (hl : lv_has ls 6 [(0, .ref (mo_a 0)), (1, .int x1), (2, .int x2), (3, .int x3)]) (hf : f_Model_readSymbol mo x1 x2 x3 = some res) : W p l e R s m args below meth c H locs cells slots Q (F0 m 0 ls []) := by
  obtain ⟨hx, hb, hml, hown, hts, hK, hA, hRf, hRl, hN, hRc⟩ := id C0
  rw [f_Model_readSymbol] at hf
  refine lv_bipush (v := 40) hx hb d_Model_readSymbol_0 (by decide) ?_
  refine lv_iload_n hx hb d_Model_readSymbol_2 rfl (lv_at hl 1 rfl) ?_
  refine lv_iadd hx hb d_Model_readSymbol_3 ?_
  obtain ⟨x4_1, ex4_1, hf⟩ := lt_ex hf
  try dsimp only at hf
  refine tp_i ex4_1 ?_
  refine lv_istore (lv' := [(4, .int x4_1), (0, .ref (mo_a 0)), (1, .int x1), (2, .int x2), (3, .int x3)]) hx hb d_Model_readSymbol_4 hl (by decide) rfl (fun ls hl => ?_)
  refine lv_aload_n hx hb d_Model_readSymbol_6 rfl (lv_at hl 1 rfl) ?_
  refine va_get (D := (dC, dI)) (ci := 7) (v := .ref (mo_a 1)) (C := R_Model) (T := T_Model) (N := 27) hx hb hts in_Model hown hK hP 0 rfl rfl 3 (by decide) (hts _ t_827) (fun _ h9 => h9) rfl d_Model_readSymbol_7 ?_
  refine lv_iload hx hb d_Model_readSymbol_10 (lv_at hl 0 rfl) ?_
  refine lv_iload_n hx hb d_Model_readSymbol_12 rfl (lv_at hl 4 rfl) ?_
  refine lv_aload_n hx hb d_Model_readSymbol_13 rfl (lv_at hl 1 rfl) ?_
  obtain ⟨⟨r_2, mo_3⟩, hf1, hf⟩ := bd_ex hf
  try dsimp only at hf
  have hPc := hP.sub (ws' := (wMo cI cZ cJ mo_a mo)) [0, 1, 2, 3, 4, 5, 6, 7, 8, 9, 10, 11, 12, 13, 14, 15] rfl
  have hDc := hD.sub (ws' := (wMo cI cZ cJ mo_a mo)) [0, 1, 2, 3, 4, 5, 6, 7, 8, 9, 10, 11, 12, 13, 14, 15] (by decide) rfl
  have hFc := va_free (wc := (wMo cI cZ cJ mo_a mo)) hD hS hA [0, 1, 2, 3, 4, 5, 6, 7, 8, 9, 10, 11, 12, 13, 14, 15] rfl
  refine va_calli (va_runV (As := []) (rest := [.int x3, .int x4_1, .ref (mo_a 1)]) ⟨hx, hb, hml, hown, hts⟩ (k_Model_takeNumber l dC dI cI cZ cJ mo_a H.size hf1) (cwV 0 hts (gV t_1055 t_1057 t_45 t_63 t_1058) rfl rfl rfl hd_Model_takeNumber ⟨Nat.le_trans (Nat.le_of_ble_eq_true rfl) hRf, Nat.le_trans (Nat.le_of_ble_eq_true rfl) hRl⟩) ⟨kP_blind, va_recv hK hP (ci := 7) (q0 := 0) rfl rfl, kP_at hPc hK hDc hN⟩ rfl rfl hl.1 rfl (lv_room (Nat.le_of_ble_eq_true rfl)) d_Model_readSymbol_14 hRc) hS (fun q _ h => hFc q h) hFc (fun r9 u t H1 locs ht hvm hw hB hz1 hk1 hS => ?_)
  rw [hw]
  obtain ⟨hP, hD⟩ := kQ_join (wr := ([] : va_W)) (w1 := (wMo cI cZ cJ mo_a mo_3)) hP hD [0, 1, 2, 3, 4, 5, 6, 7, 8, 9, 10, 11, 12, 13, 14, 15] [] rfl rfl (by decide) (by decide) ht hk1 hFc hB
  generalize H1 = H at hP hS ⊢
  have hP : va_P (dC, dI) vwCl (wMo cI cZ cJ mo_a mo_3) H := hP.sub [0, 1, 2, 3, 4, 5, 6, 7, 8, 9, 10, 11, 12, 13, 14, 15] rfl
  have hD : va_D A (wMo cI cZ cJ mo_a mo_3) := hD.sub [0, 1, 2, 3, 4, 5, 6, 7, 8, 9, 10, 11, 12, 13, 14, 15] (by decide) rfl
  refine lv_iadd hx hb d_Model_readSymbol_17 ?_
  obtain ⟨h_4, hf⟩ := gd_ex hf
  refine va_iast (f := Mo_wd mo_3) hx hb hK hP hD hS 1 0 rfl rfl (inb_in h_4) d_Model_readSymbol_18 (fun H locs hP hD hS => ?_)
  obtain ⟨mo_5, emo_5, hf⟩ := lt_ex hf
  try dsimp only at hf
  have hP : va_P (dC, dI) vwCl (wMo cI cZ cJ mo_a mo_5) H := by rw [emo_5]; exact hP
  have hD : va_D A (wMo cI cZ cJ mo_a mo_5) := by rw [emo_5]; exact hD
  refine lv_aload_n hx hb d_Model_readSymbol_19 rfl (lv_at hl 1 rfl) ?_
  refine va_get (D := (dC, dI)) (ci := 7) (v := .int (Mo_why mo_5)) (C := R_Model) (T := T_Model) (N := 27) hx hb hts in_Model hown hK hP 0 rfl rfl 26 (by decide) (hts _ t_850) (fun _ h9 => h9) rfl d_Model_readSymbol_20 ?_
  have J53_7 : ∀ (H : Heap) (locs : List Loc) (ls : Array Slot) (mo_7 : Mo), va_P (dC, dI) vwCl (wMo cI cZ cJ mo_a mo_7) H → va_D A (wMo cI cZ cJ mo_a mo_7) → va_S A s.heap H locs → lv_has ls 6 [(0, .ref (mo_a 0)), (1, .int x1), (2, .int x2), (4, .int x4_1)] → j_Model_readSymbol_53_8 x1 x2 x4_1 mo_7 = some res → W p l e R s m args below meth c H locs cells slots Q (F0 m 53 ls []) := by
    intro H locs ls mo_7 hP hD hS hl hf
    rw [j_Model_readSymbol_53_8] at hf
    refine lv_aload_n hx hb d_Model_readSymbol_53 rfl (lv_at hl 0 rfl) ?_
    refine va_get (D := (dC, dI)) (ci := 7) (v := .int (Mo_why mo_7)) (C := R_Model) (T := T_Model) (N := 27) hx hb hts in_Model hown hK hP 0 rfl rfl 26 (by decide) (hts _ t_850) (fun _ h9 => h9) rfl d_Model_readSymbol_54 ?_
    refine lv_if_lt (tgt := 61) hx hb d_Model_readSymbol_57 (by decide) (fun c_9 => ?_) (fun c_9 => ?_)
    · rw [if_pos c_9] at hf
      refine lv_aload_n hx hb d_Model_readSymbol_61 rfl (lv_at hl 0 rfl) ?_
      refine va_get (D := (dC, dI)) (ci := 7) (v := .ref (mo_a 2)) (C := R_Model) (T := T_Model) (N := 27) hx hb hts in_Model hown hK hP 0 rfl rfl 4 (by decide) (hts _ t_828) (fun _ h9 => h9) rfl d_Model_readSymbol_62 ?_
      refine lv_iload hx hb d_Model_readSymbol_65 (lv_at hl 3 rfl) ?_
      refine lv_iload_n hx hb d_Model_readSymbol_67 rfl (lv_at hl 2 rfl) ?_
      obtain ⟨h_10, hf⟩ := gd_ex hf
      refine va_iast (f := Mo_ht mo_7) hx hb hK hP hD hS 2 0 rfl rfl (inb_in h_10) d_Model_readSymbol_68 (fun H locs hP hD hS => ?_)
      obtain ⟨mo_11, emo_11, hf⟩ := lt_ex hf
      try dsimp only at hf
      have hP : va_P (dC, dI) vwCl (wMo cI cZ cJ mo_a mo_11) H := by rw [emo_11]; exact hP
      have hD : va_D A (wMo cI cZ cJ mo_a mo_11) := by rw [emo_11]; exact hD
      refine lv_aload_n hx hb d_Model_readSymbol_69 rfl (lv_at hl 0 rfl) ?_
      refine va_get (D := (dC, dI)) (ci := 7) (v := .ref (mo_a 4)) (C := R_Model) (T := T_Model) (N := 27) hx hb hts in_Model hown hK hP 0 rfl rfl 6 (by decide) (hts _ t_830) (fun _ h9 => h9) rfl d_Model_readSymbol_70 ?_
      refine lv_iload hx hb d_Model_readSymbol_73 (lv_at hl 3 rfl) ?_
      refine lv_iconst (v := 0) hx hb d_Model_readSymbol_75 (by decide) ?_
      obtain ⟨h_13, hf⟩ := gd_ex hf
      refine va_zast (f := Mo_ex mo_11) hx hb hK hP hD hS 4 1 rfl rfl (inb_in h_13) d_Model_readSymbol_76 (fun H locs hP hD hS => ?_)
      obtain ⟨mo_14, emo_14, hf⟩ := lt_ex hf
      try dsimp only at hf
      have hP : va_P (dC, dI) vwCl (wMo cI cZ cJ mo_a mo_14) H := by rw [emo_14]; exact hP
      have hD : va_D A (wMo cI cZ cJ mo_a mo_14) := by rw [emo_14]; exact hD
      refine lv_aload_n hx hb d_Model_readSymbol_77 rfl (lv_at hl 0 rfl) ?_
      refine va_get (D := (dC, dI)) (ci := 7) (v := .ref (mo_a 5)) (C := R_Model) (T := T_Model) (N := 27) hx hb hts in_Model hown hK hP 0 rfl rfl 7 (by decide) (hts _ t_831) (fun _ h9 => h9) rfl d_Model_readSymbol_78 ?_
      refine lv_iload hx hb d_Model_readSymbol_81 (lv_at hl 3 rfl) ?_
      refine lv_iconst (v := (-1)) hx hb d_Model_readSymbol_83 (by decide) ?_
      obtain ⟨h_16, hf⟩ := gd_ex hf
      refine va_iast (f := Mo_bs mo_14) hx hb hK hP hD hS 5 0 rfl rfl (inb_in h_16) d_Model_readSymbol_84 (fun H locs hP hD hS => ?_)
      obtain ⟨mo_17, emo_17, hf⟩ := lt_ex hf
      try dsimp only at hf
      have hP : va_P (dC, dI) vwCl (wMo cI cZ cJ mo_a mo_17) H := by rw [emo_17]; exact hP
      have hD : va_D A (wMo cI cZ cJ mo_a mo_17) := by rw [emo_17]; exact hD
      refine lv_aload_n hx hb d_Model_readSymbol_85 rfl (lv_at hl 0 rfl) ?_
      refine va_get (D := (dC, dI)) (ci := 7) (v := .ref (mo_a 6)) (C := R_Model) (T := T_Model) (N := 27) hx hb hts in_Model hown hK hP 0 rfl rfl 8 (by decide) (hts _ t_832) (fun _ h9 => h9) rfl d_Model_readSymbol_86 ?_
      refine lv_iload hx hb d_Model_readSymbol_89 (lv_at hl 3 rfl) ?_
      refine lv_iconst (v := 0) hx hb d_Model_readSymbol_91 (by decide) ?_
      obtain ⟨h_19, hf⟩ := gd_ex hf
      refine va_iast (f := Mo_dx mo_17) hx hb hK hP hD hS 6 0 rfl rfl (inb_in h_19) d_Model_readSymbol_92 (fun H locs hP hD hS => ?_)
      obtain ⟨mo_20, emo_20, hf⟩ := lt_ex hf
      try dsimp only at hf
      have hP : va_P (dC, dI) vwCl (wMo cI cZ cJ mo_a mo_20) H := by rw [emo_20]; exact hP
      have hD : va_D A (wMo cI cZ cJ mo_a mo_20) := by rw [emo_20]; exact hD
      refine lv_aload_n hx hb d_Model_readSymbol_93 rfl (lv_at hl 0 rfl) ?_
      refine va_get (D := (dC, dI)) (ci := 7) (v := .ref (mo_a 7)) (C := R_Model) (T := T_Model) (N := 27) hx hb hts in_Model hown hK hP 0 rfl rfl 9 (by decide) (hts _ t_833) (fun _ h9 => h9) rfl d_Model_readSymbol_94 ?_
      refine lv_iload hx hb d_Model_readSymbol_97 (lv_at hl 3 rfl) ?_
      refine lv_iconst (v := 0) hx hb d_Model_readSymbol_99 (by decide) ?_
      obtain ⟨h_22, hf⟩ := gd_ex hf
      refine va_iast (f := Mo_dy mo_20) hx hb hK hP hD hS 7 0 rfl rfl (inb_in h_22) d_Model_readSymbol_100 (fun H locs hP hD hS => ?_)
      obtain ⟨mo_23, emo_23, hf⟩ := lt_ex hf
      try dsimp only at hf
      have hP : va_P (dC, dI) vwCl (wMo cI cZ cJ mo_a mo_23) H := by rw [emo_23]; exact hP
      have hD : va_D A (wMo cI cZ cJ mo_a mo_23) := by rw [emo_23]; exact hD
      refine lv_aload_n hx hb d_Model_readSymbol_101 rfl (lv_at hl 0 rfl) ?_
      refine lv_ldc (v := 32768) hx hb hown (hts (.constant R_Model 101 32768) (by decide +kernel)) d_Model_readSymbol_102 ?_
      obtain ⟨⟨r_25, mo_26⟩, hf1, hf⟩ := bd_ex hf
      try dsimp only at hf
      have hPc := hP.sub (ws' := (wMo cI cZ cJ mo_a mo_23)) [0, 1, 2, 3, 4, 5, 6, 7, 8, 9, 10, 11, 12, 13, 14, 15] rfl
      have hDc := hD.sub (ws' := (wMo cI cZ cJ mo_a mo_23)) [0, 1, 2, 3, 4, 5, 6, 7, 8, 9, 10, 11, 12, 13, 14, 15] (by decide) rfl
      have hFc := va_free (wc := (wMo cI cZ cJ mo_a mo_23)) hD hS hA [0, 1, 2, 3, 4, 5, 6, 7, 8, 9, 10, 11, 12, 13, 14, 15] rfl
      refine va_calli (va_runV (As := [.int 32768]) (rest := []) ⟨hx, hb, hml, hown, hts⟩ (k_Model_take l dC dI cI cZ cJ mo_a H.size hf1) (cwV 1 hts (gV t_1059 t_1061 t_46 t_63 t_1062) rfl rfl rfl hd_Model_take ⟨Nat.le_trans (Nat.le_of_ble_eq_true rfl) hRf, Nat.le_trans (Nat.le_of_ble_eq_true rfl) hRl⟩) ⟨kP_blind, va_recv hK hP (ci := 7) (q0 := 0) rfl rfl, kP_at hPc hK hDc hN⟩ rfl rfl hl.1 rfl (lv_room (Nat.le_of_ble_eq_true rfl)) d_Model_readSymbol_104 hRc) hS (fun q _ h => hFc q h) hFc (fun r9 u t H1 locs ht hvm hw hB hz1 hk1 hS => ?_)
      rw [hw]
      obtain ⟨hP, hD⟩ := kQ_join (wr := ([] : va_W)) (w1 := (wMo cI cZ cJ mo_a mo_26)) hP hD [0, 1, 2, 3, 4, 5, 6, 7, 8, 9, 10, 11, 12, 13, 14, 15] [] rfl rfl (by decide) (by decide) ht hk1 hFc hB
      generalize H1 = H at hP hS ⊢
      have hP : va_P (dC, dI) vwCl (wMo cI cZ cJ mo_a mo_26) H := hP.sub [0, 1, 2, 3, 4, 5, 6, 7, 8, 9, 10, 11, 12, 13, 14, 15] rfl
      have hD : va_D A (wMo cI cZ cJ mo_a mo_26) := hD.sub [0, 1, 2, 3, 4, 5, 6, 7, 8, 9, 10, 11, 12, 13, 14, 15] (by decide) rfl
      refine lv_iconst (v := 1) hx hb d_Model_readSymbol_107 (by decide) ?_
      have J227_27 : ∀ (H : Heap) (locs : List Loc) (ls : Array Slot) (mo_27 : Mo), va_P (dC, dI) vwCl (wMo cI cZ cJ mo_a mo_27) H → va_D A (wMo cI cZ cJ mo_a mo_27) → va_S A s.heap H locs → lv_has ls 6 [(0, .ref (mo_a 0)), (4, .int x4_1)] → j_Model_readSymbol_227_28 x4_1 mo_27 = some res → W p l e R s m args below meth c H locs cells slots Q (F0 m 227 ls []) := by
        intro H locs ls mo_27 hP hD hS hl hf
        rw [j_Model_readSymbol_227_28] at hf
        refine lv_aload_n hx hb d_Model_readSymbol_227 rfl (lv_at hl 0 rfl) ?_
        refine lv_iload hx hb d_Model_readSymbol_228 (lv_at hl 1 rfl) ?_
        refine lv_aload_n hx hb d_Model_readSymbol_230 rfl (lv_at hl 0 rfl) ?_
        refine va_get (D := (dC, dI)) (ci := 7) (v := .ref (mo_a 5)) (C := R_Model) (T := T_Model) (N := 27) hx hb hts in_Model hown hK hP 0 rfl rfl 7 (by decide) (hts _ t_831) (fun _ h9 => h9) rfl d_Model_readSymbol_231 ?_
        refine lv_iload hx hb d_Model_readSymbol_234 (lv_at hl 1 rfl) ?_
        obtain ⟨h_29, hf⟩ := gd_ex hf
        refine va_iald (f := Mo_bs mo_27) hx hb hK hP 5 0 rfl rfl (inb_in h_29) d_Model_readSymbol_236 ?_
        have J254_30 : ∀ (H : Heap) (locs : List Loc) (ls : Array Slot) (z0_30 : Int32), va_P (dC, dI) vwCl (wMo cI cZ cJ mo_a mo_27) H → va_D A (wMo cI cZ cJ mo_a mo_27) → va_S A s.heap H locs → lv_has ls 6 [] → j_Model_readSymbol_254_31 x4_1 mo_27 z0_30 = some res → W p l e R s m args below meth c H locs cells slots Q (F0 m 254 ls [.int z0_30, .int x4_1, .ref (mo_a 0)]) := by
          intro H locs ls z0_30 hP hD hS hl hf
          rw [j_Model_readSymbol_254_31] at hf
          obtain ⟨mo_32, hf1, hf⟩ := bd_ex hf
          try dsimp only at hf
          have hPc := hP.sub (ws' := (wMo cI cZ cJ mo_a mo_27)) [0, 1, 2, 3, 4, 5, 6, 7, 8, 9, 10, 11, 12, 13, 14, 15] rfl
          have hDc := hD.sub (ws' := (wMo cI cZ cJ mo_a mo_27)) [0, 1, 2, 3, 4, 5, 6, 7, 8, 9, 10, 11, 12, 13, 14, 15] (by decide) rfl
          have hFc := va_free (wc := (wMo cI cZ cJ mo_a mo_27)) hD hS hA [0, 1, 2, 3, 4, 5, 6, 7, 8, 9, 10, 11, 12, 13, 14, 15] rfl
          refine va_callv (va_runV (As := [.int x4_1, .int z0_30]) (rest := []) ⟨hx, hb, hml, hown, hts⟩ (k_Model_readPlane l dC dI cI cZ cJ mo_a H.size hf1) (cwV 2 hts (gV t_1075 t_1077 t_50 t_63 t_1078) rfl rfl rfl hd_Model_readPlane ⟨Nat.le_trans (Nat.le_of_ble_eq_true rfl) hRf, Nat.le_trans (Nat.le_of_ble_eq_true rfl) hRl⟩) ⟨kP_blind, va_recv hK hP (ci := 7) (q0 := 0) rfl rfl, kP_at hPc hK hDc hN⟩ rfl rfl hl.1 rfl (lv_room (Nat.le_of_ble_eq_true rfl)) d_Model_readSymbol_254 hRc) hS (fun q _ h => hFc q h) hFc (fun u t H1 locs ht hvm hw hB hz1 hk1 hS => ?_)
          obtain ⟨hP, hD⟩ := kQ_join (wr := ([] : va_W)) (w1 := (wMo cI cZ cJ mo_a mo_32)) hP hD [0, 1, 2, 3, 4, 5, 6, 7, 8, 9, 10, 11, 12, 13, 14, 15] [] rfl rfl (by decide) (by decide) ht hk1 hFc hB
          generalize H1 = H at hP hS ⊢
          have hP : va_P (dC, dI) vwCl (wMo cI cZ cJ mo_a mo_32) H := hP.sub [0, 1, 2, 3, 4, 5, 6, 7, 8, 9, 10, 11, 12, 13, 14, 15] rfl
          have hD : va_D A (wMo cI cZ cJ mo_a mo_32) := hD.sub [0, 1, 2, 3, 4, 5, 6, 7, 8, 9, 10, 11, 12, 13, 14, 15] (by decide) rfl
          exact hr257 _ _ _ mo_32 hP hD hS hf
        refine lv_if_ge (tgt := 244) hx hb d_Model_readSymbol_237 (by decide) (fun c_33 => ?_) (fun c_33 => ?_)
        · rw [if_pos c_33] at hf
          refine lv_bipush (v := 40) hx hb d_Model_readSymbol_244 (by decide) ?_
          refine lv_aload_n hx hb d_Model_readSymbol_246 rfl (lv_at hl 0 rfl) ?_
          refine va_get (D := (dC, dI)) (ci := 7) (v := .ref (mo_a 5)) (C := R_Model) (T := T_Model) (N := 27) hx hb hts in_Model hown hK hP 0 rfl rfl 7 (by decide) (hts _ t_831) (fun _ h9 => h9) rfl d_Model_readSymbol_247 ?_
          refine lv_iload hx hb d_Model_readSymbol_250 (lv_at hl 1 rfl) ?_
          obtain ⟨h_34, hf⟩ := gd_ex hf
          refine va_iald (f := Mo_bs mo_27) hx hb hK hP 5 0 rfl rfl (inb_in h_34) d_Model_readSymbol_252 ?_
          refine lv_iadd hx hb d_Model_readSymbol_253 ?_
          exact J254_30 _ _ _ (40 + (Mo_bs mo_27 x4_1.toNatClampNeg)) hP hD hS (lv_sub hl [] rfl) hf
        · rw [if_neg c_33] at hf
          refine lv_iconst (v := (-1)) hx hb d_Model_readSymbol_240 (by decide) ?_
          refine lv_goto (tgt := 254) hx hb d_Model_readSymbol_241 (by decide) ?_
          exact J254_30 _ _ _ (-1) hP hD hS (lv_sub hl [] rfl) hf
      refine lv_icmp_ne (tgt := 227) hx hb d_Model_readSymbol_108 (by decide) (fun c_35 => ?_) (fun c_35 => ?_)
      · rw [if_neg c_35] at hf
        exact J227_27 _ _ _ mo_26 hP hD hS (lv_sub hl [0, 3] rfl) hf
      · rw [if_pos c_35] at hf
        refine lv_aload_n hx hb d_Model_readSymbol_111 rfl (lv_at hl 0 rfl) ?_
        obtain ⟨⟨r_36, mo_37⟩, hf1, hf⟩ := bd_ex hf
        try dsimp only at hf
        have hPc := hP.sub (ws' := (wMo cI cZ cJ mo_a mo_26)) [0, 1, 2, 3, 4, 5, 6, 7, 8, 9, 10, 11, 12, 13, 14, 15] rfl
        have hDc := hD.sub (ws' := (wMo cI cZ cJ mo_a mo_26)) [0, 1, 2, 3, 4, 5, 6, 7, 8, 9, 10, 11, 12, 13, 14, 15] (by decide) rfl
        have hFc := va_free (wc := (wMo cI cZ cJ mo_a mo_26)) hD hS hA [0, 1, 2, 3, 4, 5, 6, 7, 8, 9, 10, 11, 12, 13, 14, 15] rfl
        refine va_calli (va_runV (As := []) (rest := []) ⟨hx, hb, hml, hown, hts⟩ (k_Model_takeNumber l dC dI cI cZ cJ mo_a H.size hf1) (cwV 0 hts (gV t_1055 t_1057 t_45 t_63 t_1058) rfl rfl rfl hd_Model_takeNumber ⟨Nat.le_trans (Nat.le_of_ble_eq_true rfl) hRf, Nat.le_trans (Nat.le_of_ble_eq_true rfl) hRl⟩) ⟨kP_blind, va_recv hK hP (ci := 7) (q0 := 0) rfl rfl, kP_at hPc hK hDc hN⟩ rfl rfl hl.1 rfl (lv_room (Nat.le_of_ble_eq_true rfl)) d_Model_readSymbol_112 hRc) hS (fun q _ h => hFc q h) hFc (fun r9 u t H1 locs ht hvm hw hB hz1 hk1 hS => ?_)
        rw [hw]
        obtain ⟨hP, hD⟩ := kQ_join (wr := ([] : va_W)) (w1 := (wMo cI cZ cJ mo_a mo_37)) hP hD [0, 1, 2, 3, 4, 5, 6, 7, 8, 9, 10, 11, 12, 13, 14, 15] [] rfl rfl (by decide) (by decide) ht hk1 hFc hB
        generalize H1 = H at hP hS ⊢
        have hP : va_P (dC, dI) vwCl (wMo cI cZ cJ mo_a mo_37) H := hP.sub [0, 1, 2, 3, 4, 5, 6, 7, 8, 9, 10, 11, 12, 13, 14, 15] rfl
        have hD : va_D A (wMo cI cZ cJ mo_a mo_37) := hD.sub [0, 1, 2, 3, 4, 5, 6, 7, 8, 9, 10, 11, 12, 13, 14, 15] (by decide) rfl
        refine lv_istore (lv' := [(5, .int r_36), (0, .ref (mo_a 0)), (1, .int x1), (2, .int x2), (4, .int x4_1)]) hx hb d_Model_readSymbol_115 hl (by decide) rfl (fun ls hl => ?_)
        refine lv_aload_n hx hb d_Model_readSymbol_117 rfl (lv_at hl 1 rfl) ?_
        refine va_get (D := (dC, dI)) (ci := 7) (v := .int (Mo_why mo_37)) (C := R_Model) (T := T_Model) (N := 27) hx hb hts in_Model hown hK hP 0 rfl rfl 26 (by decide) (hts _ t_850) (fun _ h9 => h9) rfl d_Model_readSymbol_118 ?_
        have J135_38 : ∀ (H : Heap) (locs : List Loc) (ls : Array Slot) (mo_38 : Mo), va_P (dC, dI) vwCl (wMo cI cZ cJ mo_a mo_38) H → va_D A (wMo cI cZ cJ mo_a mo_38) → va_S A s.heap H locs → lv_has ls 6 [(0, .ref (mo_a 0)), (1, .int x1), (4, .int x4_1), (5, .int r_36)] → j_Model_readSymbol_135_39 x1 x4_1 r_36 mo_38 = some res → W p l e R s m args below meth c H locs cells slots Q (F0 m 135 ls []) := by
          intro H locs ls mo_38 hP hD hS hl hf
          rw [j_Model_readSymbol_135_39] at hf
          refine lv_aload_n hx hb d_Model_readSymbol_135 rfl (lv_at hl 0 rfl) ?_
          refine va_get (D := (dC, dI)) (ci := 7) (v := .int (Mo_why mo_38)) (C := R_Model) (T := T_Model) (N := 27) hx hb hts in_Model hown hK hP 0 rfl rfl 26 (by decide) (hts _ t_850) (fun _ h9 => h9) rfl d_Model_readSymbol_136 ?_
          refine lv_if_lt (tgt := 143) hx hb d_Model_readSymbol_139 (by decide) (fun c_40 => ?_) (fun c_40 => ?_)
          · rw [if_pos c_40] at hf
            refine lv_aload_n hx hb d_Model_readSymbol_143 rfl (lv_at hl 0 rfl) ?_
            refine va_get (D := (dC, dI)) (ci := 7) (v := .ref (mo_a 5)) (C := R_Model) (T := T_Model) (N := 27) hx hb hts in_Model hown hK hP 0 rfl rfl 7 (by decide) (hts _ t_831) (fun _ h9 => h9) rfl d_Model_readSymbol_144 ?_
            refine lv_iload hx hb d_Model_readSymbol_147 (lv_at hl 2 rfl) ?_
            refine lv_iload_n hx hb d_Model_readSymbol_149 rfl (lv_at hl 1 rfl) ?_
            refine lv_iconst (v := 1) hx hb d_Model_readSymbol_150 (by decide) ?_
            refine lv_isub hx hb d_Model_readSymbol_151 ?_
            refine lv_iload hx hb d_Model_readSymbol_152 (lv_at hl 3 rfl) ?_
            refine lv_isub hx hb d_Model_readSymbol_154 ?_
            obtain ⟨h_41, hf⟩ := gd_ex hf
            refine va_iast (f := Mo_bs mo_38) hx hb hK hP hD hS 5 0 rfl rfl (inb_in h_41) d_Model_readSymbol_155 (fun H locs hP hD hS => ?_)
            obtain ⟨mo_42, emo_42, hf⟩ := lt_ex hf
            try dsimp only at hf
            have hP : va_P (dC, dI) vwCl (wMo cI cZ cJ mo_a mo_42) H := by rw [emo_42]; exact hP
            have hD : va_D A (wMo cI cZ cJ mo_a mo_42) := by rw [emo_42]; exact hD
            refine lv_aload_n hx hb d_Model_readSymbol_156 rfl (lv_at hl 0 rfl) ?_
            refine va_get (D := (dC, dI)) (ci := 7) (v := .ref (mo_a 6)) (C := R_Model) (T := T_Model) (N := 27) hx hb hts in_Model hown hK hP 0 rfl rfl 8 (by decide) (hts _ t_832) (fun _ h9 => h9) rfl d_Model_readSymbol_157 ?_
            refine lv_iload hx hb d_Model_readSymbol_160 (lv_at hl 2 rfl) ?_
            refine lv_aload_n hx hb d_Model_readSymbol_162 rfl (lv_at hl 0 rfl) ?_
            refine lv_iconst (v := 4) hx hb d_Model_readSymbol_163 (by decide) ?_
            obtain ⟨⟨r_44, mo_45⟩, hf1, hf⟩ := bd_ex hf
            try dsimp only at hf
            have hPc := hP.sub (ws' := (wMo cI cZ cJ mo_a mo_42)) [0, 1, 2, 3, 4, 5, 6, 7, 8, 9, 10, 11, 12, 13, 14, 15] rfl
            have hDc := hD.sub (ws' := (wMo cI cZ cJ mo_a mo_42)) [0, 1, 2, 3, 4, 5, 6, 7, 8, 9, 10, 11, 12, 13, 14, 15] (by decide) rfl
            have hFc := va_free (wc := (wMo cI cZ cJ mo_a mo_42)) hD hS hA [0, 1, 2, 3, 4, 5, 6, 7, 8, 9, 10, 11, 12, 13, 14, 15] rfl
            refine va_calli (va_runV (As := [.int 4]) (rest := [.int x4_1, .ref (mo_a 6)]) ⟨hx, hb, hml, hown, hts⟩ (k_Model_takeBits l dC dI cI cZ cJ mo_a H.size hf1) (cwV 1 hts (gV t_1063 t_1065 t_47 t_63 t_1066) rfl rfl rfl hd_Model_takeBits ⟨Nat.le_trans (Nat.le_of_ble_eq_true rfl) hRf, Nat.le_trans (Nat.le_of_ble_eq_true rfl) hRl⟩) ⟨kP_blind, va_recv hK hP (ci := 7) (q0 := 0) rfl rfl, kP_at hPc hK hDc hN⟩ rfl rfl hl.1 rfl (lv_room (Nat.le_of_ble_eq_true rfl)) d_Model_readSymbol_164 hRc) hS (fun q _ h => hFc q h) hFc (fun r9 u t H1 locs ht hvm hw hB hz1 hk1 hS => ?_)
            rw [hw]
            obtain ⟨hP, hD⟩ := kQ_join (wr := ([] : va_W)) (w1 := (wMo cI cZ cJ mo_a mo_45)) hP hD [0, 1, 2, 3, 4, 5, 6, 7, 8, 9, 10, 11, 12, 13, 14, 15] [] rfl rfl (by decide) (by decide) ht hk1 hFc hB
            generalize H1 = H at hP hS ⊢
            have hP : va_P (dC, dI) vwCl (wMo cI cZ cJ mo_a mo_45) H := hP.sub [0, 1, 2, 3, 4, 5, 6, 7, 8, 9, 10, 11, 12, 13, 14, 15] rfl
            have hD : va_D A (wMo cI cZ cJ mo_a mo_45) := hD.sub [0, 1, 2, 3, 4, 5, 6, 7, 8, 9, 10, 11, 12, 13, 14, 15] (by decide) rfl
            refine lv_iconst (v := 4) hx hb d_Model_readSymbol_167 (by decide) ?_
            refine lv_isub hx hb d_Model_readSymbol_168 ?_
            obtain ⟨h_46, hf⟩ := gd_ex hf
            refine va_iast (f := Mo_dx mo_45) hx hb hK hP hD hS 6 0 rfl rfl (inb_in h_46) d_Model_readSymbol_169 (fun H locs hP hD hS => ?_)
            obtain ⟨mo_47, emo_47, hf⟩ := lt_ex hf
            try dsimp only at hf
            have hP : va_P (dC, dI) vwCl (wMo cI cZ cJ mo_a mo_47) H := by rw [emo_47]; exact hP
            have hD : va_D A (wMo cI cZ cJ mo_a mo_47) := by rw [emo_47]; exact hD
            refine lv_aload_n hx hb d_Model_readSymbol_170 rfl (lv_at hl 0 rfl) ?_
            refine va_get (D := (dC, dI)) (ci := 7) (v := .ref (mo_a 7)) (C := R_Model) (T := T_Model) (N := 27) hx hb hts in_Model hown hK hP 0 rfl rfl 9 (by decide) (hts _ t_833) (fun _ h9 => h9) rfl d_Model_readSymbol_171 ?_
            refine lv_iload hx hb d_Model_readSymbol_174 (lv_at hl 2 rfl) ?_
            refine lv_aload_n hx hb d_Model_readSymbol_176 rfl (lv_at hl 0 rfl) ?_
            refine va_get (D := (dC, dI)) (ci := 7) (v := .ref (mo_a 6)) (C := R_Model) (T := T_Model) (N := 27) hx hb hts in_Model hown hK hP 0 rfl rfl 8 (by decide) (hts _ t_832) (fun _ h9 => h9) rfl d_Model_readSymbol_177 ?_
            refine lv_iload hx hb d_Model_readSymbol_180 (lv_at hl 2 rfl) ?_
            obtain ⟨h_49, hf⟩ := gd_ex hf
            refine va_iald (f := Mo_dx mo_47) hx hb hK hP 6 0 rfl rfl (inb_in h_49) d_Model_readSymbol_182 ?_
            refine lv_iconst (v := 4) hx hb d_Model_readSymbol_183 (by decide) ?_
            have J198_51 : ∀ (H : Heap) (locs : List Loc) (ls : Array Slot) (mo_50 : Mo) (z0_51 : Int32), va_P (dC, dI) vwCl (wMo cI cZ cJ mo_a mo_50) H → va_D A (wMo cI cZ cJ mo_a mo_50) → va_S A s.heap H locs → lv_has ls 6 [(0, .ref (mo_a 0)), (4, .int x4_1)] → j_Model_readSymbol_198_52 x4_1 mo_50 z0_51 = some res → W p l e R s m args below meth c H locs cells slots Q (F0 m 198 ls [.int z0_51, .int x4_1, .ref (mo_a 7)]) := by
              intro H locs ls mo_50 z0_51 hP hD hS hl hf
              rw [j_Model_readSymbol_198_52] at hf
              obtain ⟨h_53, hf⟩ := gd_ex hf
              refine va_iast (f := Mo_dy mo_50) hx hb hK hP hD hS 7 0 rfl rfl (inb_in h_53) d_Model_readSymbol_198 (fun H locs hP hD hS => ?_)
              obtain ⟨mo_54, emo_54, hf⟩ := lt_ex hf
              try dsimp only at hf
              have hP : va_P (dC, dI) vwCl (wMo cI cZ cJ mo_a mo_54) H := by rw [emo_54]; exact hP
              have hD : va_D A (wMo cI cZ cJ mo_a mo_54) := by rw [emo_54]; exact hD
              refine lv_aload_n hx hb d_Model_readSymbol_199 rfl (lv_at hl 0 rfl) ?_
              refine va_get (D := (dC, dI)) (ci := 7) (v := .ref (mo_a 6)) (C := R_Model) (T := T_Model) (N := 27) hx hb hts in_Model hown hK hP 0 rfl rfl 8 (by decide) (hts _ t_832) (fun _ h9 => h9) rfl d_Model_readSymbol_200 ?_
              refine lv_iload hx hb d_Model_readSymbol_203 (lv_at hl 1 rfl) ?_
              obtain ⟨h_56, hf⟩ := gd_ex hf
              refine va_iald (f := Mo_dx mo_54) hx hb hK hP 6 0 rfl rfl (inb_in h_56) d_Model_readSymbol_205 ?_
              refine lv_iconst (v := 4) hx hb d_Model_readSymbol_206 (by decide) ?_
              refine lv_icmp_gt (tgt := 221) hx hb d_Model_readSymbol_207 (by decide) (fun c_57 => ?_) (fun c_57 => ?_)
              · rw [if_pos c_57] at hf
                refine lv_aload_n hx hb d_Model_readSymbol_221 rfl (lv_at hl 0 rfl) ?_
                refine lv_iconst (v := 4) hx hb d_Model_readSymbol_222 (by decide) ?_
                refine va_put (D := (dC, dI)) (ci := 7) (v := .int 4) (ty := .int) (C := R_Model) (T := T_Model) (N := 27) hx hb hts in_Model ty_Model tyok_Model nm_Model hown hK hP hD hS 0 rfl rfl 26 (by decide) (hts _ t_850) (fun _ h9 => h9) rfl (by decide +kernel) rfl rfl (Nat.le_of_ble_eq_true rfl) d_Model_readSymbol_223 (fun H locs hP hD hS => ?_)
                obtain ⟨mo_58, emo_58, hf⟩ := lt_ex hf
                try dsimp only at hf
                have hP : va_P (dC, dI) vwCl (wMo cI cZ cJ mo_a mo_58) H := by rw [emo_58]; exact hP
                have hD : va_D A (wMo cI cZ cJ mo_a mo_58) := by rw [emo_58]; exact hD
                exact hr226 _ _ _ mo_58 hP hD hS hf
              · rw [if_neg c_57] at hf
                refine lv_aload_n hx hb d_Model_readSymbol_210 rfl (lv_at hl 0 rfl) ?_
                refine va_get (D := (dC, dI)) (ci := 7) (v := .ref (mo_a 7)) (C := R_Model) (T := T_Model) (N := 27) hx hb hts in_Model hown hK hP 0 rfl rfl 9 (by decide) (hts _ t_833) (fun _ h9 => h9) rfl d_Model_readSymbol_211 ?_
                refine lv_iload hx hb d_Model_readSymbol_214 (lv_at hl 1 rfl) ?_
                obtain ⟨h_60, hf⟩ := gd_ex hf
                refine va_iald (f := Mo_dy mo_54) hx hb hK hP 7 0 rfl rfl (inb_in h_60) d_Model_readSymbol_216 ?_
                refine lv_iconst (v := 4) hx hb d_Model_readSymbol_217 (by decide) ?_
                refine lv_icmp_le (tgt := 227) hx hb d_Model_readSymbol_218 (by decide) (fun c_61 => ?_) (fun c_61 => ?_)
                · rw [if_pos c_61] at hf
                  exact J227_27 _ _ _ mo_54 hP hD hS (lv_sub hl [0, 1] rfl) hf
                · rw [if_neg c_61] at hf
                  refine lv_aload_n hx hb d_Model_readSymbol_221 rfl (lv_at hl 0 rfl) ?_
                  refine lv_iconst (v := 4) hx hb d_Model_readSymbol_222 (by decide) ?_
                  refine va_put (D := (dC, dI)) (ci := 7) (v := .int 4) (ty := .int) (C := R_Model) (T := T_Model) (N := 27) hx hb hts in_Model ty_Model tyok_Model nm_Model hown hK hP hD hS 0 rfl rfl 26 (by decide) (hts _ t_850) (fun _ h9 => h9) rfl (by decide +kernel) rfl rfl (Nat.le_of_ble_eq_true rfl) d_Model_readSymbol_223 (fun H locs hP hD hS => ?_)
                  obtain ⟨mo_62, emo_62, hf⟩ := lt_ex hf
                  try dsimp only at hf
                  have hP : va_P (dC, dI) vwCl (wMo cI cZ cJ mo_a mo_62) H := by rw [emo_62]; exact hP
                  have hD : va_D A (wMo cI cZ cJ mo_a mo_62) := by rw [emo_62]; exact hD
                  exact hr226 _ _ _ mo_62 hP hD hS hf
            refine lv_icmp_le (tgt := 191) hx hb d_Model_readSymbol_184 (by decide) (fun c_64 => ?_) (fun c_64 => ?_)
            · rw [if_pos c_64] at hf
              refine lv_aload_n hx hb d_Model_readSymbol_191 rfl (lv_at hl 0 rfl) ?_
              refine lv_iconst (v := 4) hx hb d_Model_readSymbol_192 (by decide) ?_
              obtain ⟨⟨r_65, mo_66⟩, hf1, hf⟩ := bd_ex hf
              try dsimp only at hf
              have hPc := hP.sub (ws' := (wMo cI cZ cJ mo_a mo_47)) [0, 1, 2, 3, 4, 5, 6, 7, 8, 9, 10, 11, 12, 13, 14, 15] rfl
              have hDc := hD.sub (ws' := (wMo cI cZ cJ mo_a mo_47)) [0, 1, 2, 3, 4, 5, 6, 7, 8, 9, 10, 11, 12, 13, 14, 15] (by decide) rfl
              have hFc := va_free (wc := (wMo cI cZ cJ mo_a mo_47)) hD hS hA [0, 1, 2, 3, 4, 5, 6, 7, 8, 9, 10, 11, 12, 13, 14, 15] rfl
              refine va_calli (va_runV (As := [.int 4]) (rest := [.int x4_1, .ref (mo_a 7)]) ⟨hx, hb, hml, hown, hts⟩ (k_Model_takeBits l dC dI cI cZ cJ mo_a H.size hf1) (cwV 1 hts (gV t_1063 t_1065 t_47 t_63 t_1066) rfl rfl rfl hd_Model_takeBits ⟨Nat.le_trans (Nat.le_of_ble_eq_true rfl) hRf, Nat.le_trans (Nat.le_of_ble_eq_true rfl) hRl⟩) ⟨kP_blind, va_recv hK hP (ci := 7) (q0 := 0) rfl rfl, kP_at hPc hK hDc hN⟩ rfl rfl hl.1 rfl (lv_room (Nat.le_of_ble_eq_true rfl)) d_Model_readSymbol_193 hRc) hS (fun q _ h => hFc q h) hFc (fun r9 u t H1 locs ht hvm hw hB hz1 hk1 hS => ?_)
              rw [hw]
              obtain ⟨hP, hD⟩ := kQ_join (wr := ([] : va_W)) (w1 := (wMo cI cZ cJ mo_a mo_66)) hP hD [0, 1, 2, 3, 4, 5, 6, 7, 8, 9, 10, 11, 12, 13, 14, 15] [] rfl rfl (by decide) (by decide) ht hk1 hFc hB
              generalize H1 = H at hP hS ⊢
              have hP : va_P (dC, dI) vwCl (wMo cI cZ cJ mo_a mo_66) H := hP.sub [0, 1, 2, 3, 4, 5, 6, 7, 8, 9, 10, 11, 12, 13, 14, 15] rfl
              have hD : va_D A (wMo cI cZ cJ mo_a mo_66) := hD.sub [0, 1, 2, 3, 4, 5, 6, 7, 8, 9, 10, 11, 12, 13, 14, 15] (by decide) rfl
              refine lv_iconst (v := 4) hx hb d_Model_readSymbol_196 (by decide) ?_
              refine lv_isub hx hb d_Model_readSymbol_197 ?_
              exact J198_51 _ _ _ mo_66 (r_65 - 4) hP hD hS (lv_sub hl [0, 2] rfl) hf
            · rw [if_neg c_64] at hf
              refine lv_iconst (v := 5) hx hb d_Model_readSymbol_187 (by decide) ?_
              refine lv_goto (tgt := 198) hx hb d_Model_readSymbol_188 (by decide) ?_
              exact J198_51 _ _ _ mo_47 5 hP hD hS (lv_sub hl [0, 2] rfl) hf
          · rw [if_neg c_40] at hf
            exact hr142 _ _ _ mo_38 hP hD hS hf
        refine lv_if_ge (tgt := 135) hx hb d_Model_readSymbol_121 (by decide) (fun c_67 => ?_) (fun c_67 => ?_)
        · rw [if_pos c_67] at hf
          exact J135_38 _ _ _ mo_37 hP hD hS (lv_sub hl [1, 2, 4, 0] rfl) hf
        · rw [if_neg c_67] at hf
          refine lv_iload hx hb d_Model_readSymbol_124 (lv_at hl 0 rfl) ?_
          refine lv_iload_n hx hb d_Model_readSymbol_126 rfl (lv_at hl 2 rfl) ?_
          refine lv_icmp_lt (tgt := 135) hx hb d_Model_readSymbol_127 (by decide) (fun c_68 => ?_) (fun c_68 => ?_)
          · rw [if_pos c_68] at hf
            exact J135_38 _ _ _ mo_37 hP hD hS (lv_sub hl [1, 2, 4, 0] rfl) hf
          · rw [if_neg c_68] at hf
            refine lv_aload_n hx hb d_Model_readSymbol_130 rfl (lv_at hl 1 rfl) ?_
            refine lv_iconst (v := 3) hx hb d_Model_readSymbol_131 (by decide) ?_
            refine va_put (D := (dC, dI)) (ci := 7) (v := .int 3) (ty := .int) (C := R_Model) (T := T_Model) (N := 27) hx hb hts in_Model ty_Model tyok_Model nm_Model hown hK hP hD hS 0 rfl rfl 26 (by decide) (hts _ t_850) (fun _ h9 => h9) rfl (by decide +kernel) rfl rfl (Nat.le_of_ble_eq_true rfl) d_Model_readSymbol_132 (fun H locs hP hD hS => ?_)
            obtain ⟨mo_69, emo_69, hf⟩ := lt_ex hf
            try dsimp only at hf
            have hP : va_P (dC, dI) vwCl (wMo cI cZ cJ mo_a mo_69) H := by rw [emo_69]; exact hP
            have hD : va_D A (wMo cI cZ cJ mo_a mo_69) := by rw [emo_69]; exact hD
            exact J135_38 _ _ _ mo_69 hP hD hS (lv_sub hl [1, 2, 4, 0] rfl) hf
    · rw [if_neg c_9] at hf
      exact hr60 _ _ _ mo_7 hP hD hS hf
  refine lv_if_ge (tgt := 53) hx hb d_Model_readSymbol_23 (by decide) (fun c_71 => ?_) (fun c_71 => ?_)
  · rw [if_pos c_71] at hf
    exact J53_7 _ _ _ mo_5 hP hD hS (lv_sub hl [1, 2, 3, 0] rfl) hf
  · rw [if_neg c_71] at hf
    refine lv_aload_n hx hb d_Model_readSymbol_26 rfl (lv_at hl 1 rfl) ?_
    refine va_get (D := (dC, dI)) (ci := 7) (v := .ref (mo_a 1)) (C := R_Model) (T := T_Model) (N := 27) hx hb hts in_Model hown hK hP 0 rfl rfl 3 (by decide) (hts _ t_827) (fun _ h9 => h9) rfl d_Model_readSymbol_27 ?_
    refine lv_iload hx hb d_Model_readSymbol_30 (lv_at hl 0 rfl) ?_
    obtain ⟨h_72, hf⟩ := gd_ex hf
    refine va_iald (f := Mo_wd mo_5) hx hb hK hP 1 0 rfl rfl (inb_in h_72) d_Model_readSymbol_32 ?_
    refine lv_bipush (v := 16) hx hb d_Model_readSymbol_33 (by decide) ?_
    refine lv_icmp_gt (tgt := 48) hx hb d_Model_readSymbol_35 (by decide) (fun c_73 => ?_) (fun c_73 => ?_)
    · rw [if_pos c_73] at hf
      refine lv_aload_n hx hb d_Model_readSymbol_48 rfl (lv_at hl 1 rfl) ?_
      refine lv_iconst (v := 2) hx hb d_Model_readSymbol_49 (by decide) ?_
      refine va_put (D := (dC, dI)) (ci := 7) (v := .int 2) (ty := .int) (C := R_Model) (T := T_Model) (N := 27) hx hb hts in_Model ty_Model tyok_Model nm_Model hown hK hP hD hS 0 rfl rfl 26 (by decide) (hts _ t_850) (fun _ h9 => h9) rfl (by decide +kernel) rfl rfl (Nat.le_of_ble_eq_true rfl) d_Model_readSymbol_50 (fun H locs hP hD hS => ?_)
      obtain ⟨mo_74, emo_74, hf⟩ := lt_ex hf
      try dsimp only at hf
      have hP : va_P (dC, dI) vwCl (wMo cI cZ cJ mo_a mo_74) H := by rw [emo_74]; exact hP
      have hD : va_D A (wMo cI cZ cJ mo_a mo_74) := by rw [emo_74]; exact hD
      exact J53_7 _ _ _ mo_74 hP hD hS (lv_sub hl [1, 2, 3, 0] rfl) hf
    · rw [if_neg c_73] at hf
      refine lv_aload_n hx hb d_Model_readSymbol_38 rfl (lv_at hl 1 rfl) ?_
      refine va_get (D := (dC, dI)) (ci := 7) (v := .ref (mo_a 1)) (C := R_Model) (T := T_Model) (N := 27) hx hb hts in_Model hown hK hP 0 rfl rfl 3 (by decide) (hts _ t_827) (fun _ h9 => h9) rfl d_Model_readSymbol_39 ?_
      refine lv_iload hx hb d_Model_readSymbol_42 (lv_at hl 0 rfl) ?_
      obtain ⟨h_76, hf⟩ := gd_ex hf
      refine va_iald (f := Mo_wd mo_5) hx hb hK hP 1 0 rfl rfl (inb_in h_76) d_Model_readSymbol_44 ?_
      refine lv_if_ne (tgt := 53) hx hb d_Model_readSymbol_45 (by decide) (fun c_77 => ?_) (fun c_77 => ?_)
      · rw [if_neg c_77] at hf
        exact J53_7 _ _ _ mo_5 hP hD hS (lv_sub hl [1, 2, 3, 0] rfl) hf
      · rw [if_pos c_77] at hf
        refine lv_aload_n hx hb d_Model_readSymbol_48 rfl (lv_at hl 1 rfl) ?_
        refine lv_iconst (v := 2) hx hb d_Model_readSymbol_49 (by decide) ?_
        refine va_put (D := (dC, dI)) (ci := 7) (v := .int 2) (ty := .int) (C := R_Model) (T := T_Model) (N := 27) hx hb hts in_Model ty_Model tyok_Model nm_Model hown hK hP hD hS 0 rfl rfl 26 (by decide) (hts _ t_850) (fun _ h9 => h9) rfl (by decide +kernel) rfl rfl (Nat.le_of_ble_eq_true rfl) d_Model_readSymbol_50 (fun H locs hP hD hS => ?_)
        obtain ⟨mo_78, emo_78, hf⟩ := lt_ex hf
        try dsimp only at hf
        have hP : va_P (dC, dI) vwCl (wMo cI cZ cJ mo_a mo_78) H := by rw [emo_78]; exact hP
        have hD : va_D A (wMo cI cZ cJ mo_a mo_78) := by rw [emo_78]; exact hD
        exact J53_7 _ _ _ mo_78 hP hD hS (lv_sub hl [1, 2, 3, 0] rfl) hf
end
set_option maxHeartbeats 4000000 in
set_option maxRecDepth 100000 in
theorem k_Model_readSymbol (l : Launch) (dC : Nat → ClassId) (dI : Nat → Nat → Nat) (cI cZ cJ : ClassId) (mo_a : Nat → Nat) (sz : Nat) {mo : Mo} {x1 : Int32} {x2 : Int32} {x3 : Int32} {mo' : Mo} (hf : f_Model_readSymbol mo x1 x2 x3 = some mo') :
    Met l y_Model_readSymbol ws_Model_readSymbol ({ frames := 5, cells := 0, slots := 0, locals := 118 }) (va_Pc [.ref (mo_a 0), .int x1, .int x2, .int x3] (kP (dC, dI) vwCl (TYS cI cZ cJ) (wMo cI cZ cJ mo_a mo) sz)) (va_Qv (fun (_ : Unit) => True) (fun _ t => kQ (dC, dI) vwCl (TYS cI cZ cJ) (wMo cI cZ cJ mo_a mo) sz (wMo cI cZ cJ mo_a mo') t) (va_A (wMo cI cZ cJ mo_a mo) sz)) 0 0 (va_A (wMo cI cZ cJ mo_a mo) sz) := by
  refine Met.ofW (cc := c_Model_readSymbol) (maxL := 6) (ret := none) (by decide) rfl ?_
  intro p e s m args below meth c s₁ B hml hv
  obtain ⟨rfl, hsz, hP, hK, hD0, hN⟩ := hv
  have hr := B.returns
  have hlocks := B.notSynchronized
  subst hsz
  have hD := hD0.self (sz := s.heap.size)
  have hl := lv_entry ([.ref (mo_a 0), .int x1, .int x2, .int x3]) (n := 6) (Nat.le_of_ble_eq_true rfl)
  rw [lg_entry_eq]
  generalize (lg_sl ([.ref (mo_a 0), .int x1, .int x2, .int x3]) ++ List.replicate (6 - (lg_sl ([.ref (mo_a 0), .int x1, .int x2, .int x3])).length) Slot.unset).toArray = ls at hl ⊢
  refine B_Model_readSymbol (A := va_A (wMo cI cZ cJ mo_a mo) s.heap.size) ⟨B.exec, B.bytes, hml, findClass_of_methodNamed B.named, fun w h => atoms_spec (ws := ws_Model_readSymbol) B.pre w (List.mem_cons_of_mem _ h), hK, fun q h => Or.inr h, Nat.le_of_ble_eq_true rfl, Nat.le_of_ble_eq_true rfl, hN, Nat.le_of_ble_eq_true rfl, Nat.le_of_ble_eq_true rfl⟩ (fun H locs ls mo'1 hP hD hS hf => ?_) (fun H locs ls mo'1 hP hD hS hf => ?_) (fun H locs ls mo'1 hP hD hS hf => ?_) (fun H locs ls mo'1 hP hD hS hf => ?_) hP hD va_S.rf hl hf
  · cases hf
    exact W.vret B.exec B.bytes hr (fun t ht hW => ⟨⟨(), rfl, trivial, ⟨by rw [ht]; exact hP, va_K.moved hW.alike hK, hD⟩⟩, hS.F ht⟩) hS.2.2 d_Model_readSymbol_60
  · cases hf
    exact W.vret B.exec B.bytes hr (fun t ht hW => ⟨⟨(), rfl, trivial, ⟨by rw [ht]; exact hP, va_K.moved hW.alike hK, hD⟩⟩, hS.F ht⟩) hS.2.2 d_Model_readSymbol_142
  · cases hf
    exact W.vret B.exec B.bytes hr (fun t ht hW => ⟨⟨(), rfl, trivial, ⟨by rw [ht]; exact hP, va_K.moved hW.alike hK, hD⟩⟩, hS.F ht⟩) hS.2.2 d_Model_readSymbol_226
  · cases hf
    exact W.vret B.exec B.bytes hr (fun t ht hW => ⟨⟨(), rfl, trivial, ⟨by rw [ht]; exact hP, va_K.moved hW.alike hK, hD⟩⟩, hS.F ht⟩) hS.2.2 d_Model_readSymbol_257

/-! Model_readClasses -/
def j_Model_readClasses_142_21 (rc53 : Mo → Int32 → Int32 → Option (Mo)) (z0_16 : Int32) (mo_19 : Mo) (x2_20 : Int32) : Option (Mo) := (if z0_16 = 0 then rc53 mo_19 x2_20 0 else (if 0 ≤ (Mo_why mo_19) then rc53 mo_19 x2_20 0 else rc53 mo_19 x2_20 1))
def j_Model_readClasses_122_29 (x2 : Int32) (x3 : Int32) (rc53 : Mo → Int32 → Int32 → Option (Mo)) (mo_15 : Mo) (z0_16 : Int32) (z0_28 : Int32) : Option (Mo) := bd (f_Model_readSymbol mo_15 x2 x3 z0_28) <| fun mo_30 => lt' (x2 + 1) <| fun x2_31 => j_Model_readClasses_142_21 rc53 z0_16 mo_30 x2_31
def j_Model_readClasses_93_18 (x2 : Int32) (x3 : Int32) (x4 : Int32) (rc53 : Mo → Int32 → Int32 → Option (Mo)) (mo_15 : Mo) (z0_16 : Int32) : Option (Mo) := (if z0_16 = 0 then (if x2 = x4 then lt' (Mo_s_why mo_15 1) <| fun mo_26 => j_Model_readClasses_142_21 rc53 z0_16 mo_26 x2 else j_Model_readClasses_142_21 rc53 z0_16 mo_15 x2) else (if x2 = x4 then j_Model_readClasses_122_29 x2 x3 rc53 mo_15 z0_16 0 else gd (inb ((40 + x2) - 1) 80) <| j_Model_readClasses_122_29 x2 x3 rc53 mo_15 z0_16 (Mo_wd mo_15 ((40 + x2) - 1).toNatClampNeg)))
def j_Model_readClasses_73_17 (x1 : Int32) (x2 : Int32) (x3 : Int32) (x4 : Int32) (rc53 : Mo → Int32 → Int32 → Option (Mo)) (mo_15 : Mo) (z0_16 : Int32) : Option (Mo) := (if z0_16 = 0 then j_Model_readClasses_93_18 x2 x3 x4 rc53 mo_15 z0_16 else (if x2 = x1 then lt' (Mo_s_why mo_15 0) <| fun mo_36 => (if z0_16 = 0 then rc53 mo_36 x2 0 else (if 0 ≤ (Mo_why mo_36) then rc53 mo_36 x2 0 else rc53 mo_36 x2 1)) else j_Model_readClasses_93_18 x2 x3 x4 rc53 mo_15 z0_16))
def l_Model_readClasses_53 (x1 : Int32) (x3 : Int32) (x4 : Int32) (k164 : Mo → Int32 → Option (Mo)) : Nat → Mo → Int32 → Int32 → Option (Mo)
  | 0, _, _, _ => none
  | n + 1, mo, x2, x5 => (if x5 = 0 then k164 mo x2 else bd (f_Model_take mo 32768) <| fun (r_14, mo_15) => (if r_14 = 1 then j_Model_readClasses_73_17 x1 x2 x3 x4 (l_Model_readClasses_53 x1 x3 x4 k164 n) mo_15 1 else j_Model_readClasses_73_17 x1 x2 x3 x4 (l_Model_readClasses_53 x1 x3 x4 k164 n) mo_15 0))
def j_Model_readClasses_51_10 (x1 : Int32) (x2 : Int32) (rc4 : Mo → Int32 → Int32 → Option (Mo)) (k171 : Mo → Option (Mo)) (x3_6 : Int32) (mo_7 : Mo) (z0_9 : Int32) : Option (Mo) := l_Model_readClasses_53 x1 x3_6 x2 (fun mo_41 x2_42 => (if (Mo_why mo_41) < 0 then rc4 mo_41 x2_42 x3_6 else k171 mo_41)) 100000 mo_7 x2 z0_9
def j_Model_readClasses_36_8 (x1 : Int32) (x2 : Int32) (rc4 : Mo → Int32 → Int32 → Option (Mo)) (k171 : Mo → Option (Mo)) (x3_6 : Int32) (mo_7 : Mo) : Option (Mo) := (if 0 ≤ (Mo_why mo_7) then j_Model_readClasses_51_10 x1 x2 rc4 k171 x3_6 mo_7 0 else j_Model_readClasses_51_10 x1 x2 rc4 k171 x3_6 mo_7 1)
def l_Model_readClasses_4 (x1 : Int32) (k171 : Mo → Option (Mo)) (k175 : Mo → Option (Mo)) : Nat → Mo → Int32 → Int32 → Option (Mo)
  | 0, _, _, _ => none
  | n + 1, mo, x2, x3 => (if x1 ≤ x2 then k175 mo else bd (f_Model_takeNumber mo) <| fun (r_4, mo_5) => lt' (x3 + (r_4 + 1)) <| fun x3_6 => (if 0 ≤ (Mo_why mo_5) then j_Model_readClasses_36_8 x1 x2 (l_Model_readClasses_4 x1 k171 k175 n) k171 x3_6 mo_5 else (if x3_6 ≤ 16 then j_Model_readClasses_36_8 x1 x2 (l_Model_readClasses_4 x1 k171 k175 n) k171 x3_6 mo_5 else lt' (Mo_s_why mo_5 1) <| fun mo_47 => j_Model_readClasses_36_8 x1 x2 (l_Model_readClasses_4 x1 k171 k175 n) k171 x3_6 mo_47)))
def f_Model_readClasses (mo : Mo) (x1 : Int32) : Option (Mo) := l_Model_readClasses_4 x1 (fun mo_49 => some mo_49) (fun mo_50 => some mo_50) 100000 mo 0 0
section
variable {p : Program} {l : Launch} {e : Env} {R : Room} {s : State} {m : MethodId} {args : Array Value} {below : List Frame} {meth : Method} {c : Code} {Q : State → Prop} {A : Nat → Prop}
set_option maxHeartbeats 4000000 in
set_option maxRecDepth 100000 in
theorem L_Model_readClasses_53 {cells slots : Nat} {dC : Nat → ClassId} {dI : Nat → Nat → Nat} {cI cZ cJ : ClassId} {mo_a : Nat → Nat} {x1 : Int32} {x3 : Int32} {x4 : Int32} {k164 : Mo → Int32 → Option (Mo)} {res : Mo} (C0 : cxt p c m s args R cells slots R_Model c_Model_readClasses tb 6 (dC, dI) vwCl (TYS cI cZ cJ) A 6 143)
    (hk164 : ∀ (H : Heap) (locs : List Loc) (ls : Array Slot) (mo_11 : Mo) (x2_12 : Int32), va_P (dC, dI) vwCl (wMo cI cZ cJ mo_a mo_11) H → va_D A (wMo cI cZ cJ mo_a mo_11) → va_S A s.heap H locs → lv_has ls 6 [(0, .ref (mo_a 0)), (1, .int x1), (2, .int x2_12), (3, .int x3)] → k164 mo_11 x2_12 = some res → W p l e R s m args below meth c H locs cells slots Q (F0 m 164 ls [])) :
    ∀ (n : Nat) (H : Heap) (locs : List Loc) (ls : Array Slot) (mo : Mo) (x2 : Int32) (x5 : Int32), va_P (dC, dI) vwCl (wMo cI cZ cJ mo_a mo) H → va_D A (wMo cI cZ cJ mo_a mo) → va_S A s.heap H locs → lv_has ls 6 [(0, .ref (mo_a 0)), (1, .int x1), (2, .int x2), (3, .int x3), (4, .int x4), (5, .int x5)] → l_Model_readClasses_53 x1 x3 x4 k164 n mo x2 x5 = some res → W p l e R s m args below meth c H locs cells slots Q (F0 m 53 ls []) := by
  obtain ⟨hx, hb, hml, hown, hts, hK, hA, hRf, hRl, hN, hRc⟩ := id C0
  intro n
  induction n with
  | zero =>
    intro H locs ls mo x2 x5 hP hD hS hl hf
    exact absurd hf (by simp [l_Model_readClasses_53])
  | succ n ih =>
    intro H locs ls mo x2 x5 hP hD hS hl hf
    rw [l_Model_readClasses_53] at hf
    refine lv_iload hx hb d_Model_readClasses_53 (lv_at hl 5 rfl) ?_
    refine lv_if_eq (tgt := 164) hx hb d_Model_readClasses_55 (by decide) (fun c_13 => ?_) (fun c_13 => ?_)
    · rw [if_pos c_13] at hf
      exact hk164 _ _ _ mo x2 hP hD hS (lv_sub hl [0, 1, 2, 3] rfl) hf
    · rw [if_neg c_13] at hf
      refine lv_aload_n hx hb d_Model_readClasses_58 rfl (lv_at hl 0 rfl) ?_
      refine lv_ldc (v := 32768) hx hb hown (hts (.constant R_Model 101 32768) (by decide +kernel)) d_Model_readClasses_59 ?_
      obtain ⟨⟨r_14, mo_15⟩, hf1, hf⟩ := bd_ex hf
      try dsimp only at hf
      have hPc := hP.sub (ws' := (wMo cI cZ cJ mo_a mo)) [0, 1, 2, 3, 4, 5, 6, 7, 8, 9, 10, 11, 12, 13, 14, 15] rfl
      have hDc := hD.sub (ws' := (wMo cI cZ cJ mo_a mo)) [0, 1, 2, 3, 4, 5, 6, 7, 8, 9, 10, 11, 12, 13, 14, 15] (by decide) rfl
      have hFc := va_free (wc := (wMo cI cZ cJ mo_a mo)) hD hS hA [0, 1, 2, 3, 4, 5, 6, 7, 8, 9, 10, 11, 12, 13, 14, 15] rfl
      refine va_calli (va_runV (As := [.int 32768]) (rest := []) ⟨hx, hb, hml, hown, hts⟩ (k_Model_take l dC dI cI cZ cJ mo_a H.size hf1) (cwV 1 hts (gV t_1059 t_1061 t_46 t_63 t_1062) rfl rfl rfl hd_Model_take ⟨Nat.le_trans (Nat.le_of_ble_eq_true rfl) hRf, Nat.le_trans (Nat.le_of_ble_eq_true rfl) hRl⟩) ⟨kP_blind, va_recv hK hP (ci := 7) (q0 := 0) rfl rfl, kP_at hPc hK hDc hN⟩ rfl rfl hl.1 rfl (lv_room (Nat.le_of_ble_eq_true rfl)) d_Model_readClasses_61 hRc) hS (fun q _ h => hFc q h) hFc (fun r9 u t H1 locs ht hvm hw hB hz1 hk1 hS => ?_)
      rw [hw]
      obtain ⟨hP, hD⟩ := kQ_join (wr := ([] : va_W)) (w1 := (wMo cI cZ cJ mo_a mo_15)) hP hD [0, 1, 2, 3, 4, 5, 6, 7, 8, 9, 10, 11, 12, 13, 14, 15] [] rfl rfl (by decide) (by decide) ht hk1 hFc hB
      generalize H1 = H at hP hS ⊢
      have hP : va_P (dC, dI) vwCl (wMo cI cZ cJ mo_a mo_15) H := hP.sub [0, 1, 2, 3, 4, 5, 6, 7, 8, 9, 10, 11, 12, 13, 14, 15] rfl
      have hD : va_D A (wMo cI cZ cJ mo_a mo_15) := hD.sub [0, 1, 2, 3, 4, 5, 6, 7, 8, 9, 10, 11, 12, 13, 14, 15] (by decide) rfl
      refine lv_iconst (v := 1) hx hb d_Model_readClasses_64 (by decide) ?_
      have J73_16 : ∀ (H : Heap) (locs : List Loc) (ls : Array Slot) (z0_16 : Int32), va_P (dC, dI) vwCl (wMo cI cZ cJ mo_a mo_15) H → va_D A (wMo cI cZ cJ mo_a mo_15) → va_S A s.heap H locs → lv_has ls 6 [(0, .ref (mo_a 0)), (1, .int x1), (2, .int x2), (3, .int x3), (4, .int x4)] → j_Model_readClasses_73_17 x1 x2 x3 x4 (l_Model_readClasses_53 x1 x3 x4 k164 n) mo_15 z0_16 = some res → W p l e R s m args below meth c H locs cells slots Q (F0 m 73 ls [.int z0_16]) := by
        intro H locs ls z0_16 hP hD hS hl hf
        rw [j_Model_readClasses_73_17] at hf
        refine lv_istore (lv' := [(5, .int z0_16), (0, .ref (mo_a 0)), (1, .int x1), (2, .int x2), (3, .int x3), (4, .int x4)]) hx hb d_Model_readClasses_73 hl (by decide) rfl (fun ls hl => ?_)
        refine lv_iload hx hb d_Model_readClasses_75 (lv_at hl 0 rfl) ?_
        have J93_17 : ∀ (H : Heap) (locs : List Loc) (ls : Array Slot), va_P (dC, dI) vwCl (wMo cI cZ cJ mo_a mo_15) H → va_D A (wMo cI cZ cJ mo_a mo_15) → va_S A s.heap H locs → lv_has ls 6 [(0, .ref (mo_a 0)), (1, .int x1), (2, .int x2), (3, .int x3), (4, .int x4), (5, .int z0_16)] → j_Model_readClasses_93_18 x2 x3 x4 (l_Model_readClasses_53 x1 x3 x4 k164 n) mo_15 z0_16 = some res → W p l e R s m args below meth c H locs cells slots Q (F0 m 93 ls []) := by
          intro H locs ls hP hD hS hl hf
          rw [j_Model_readClasses_93_18] at hf
          refine lv_iload hx hb d_Model_readClasses_93 (lv_at hl 5 rfl) ?_
          have J142_20 : ∀ (H : Heap) (locs : List Loc) (ls : Array Slot) (mo_19 : Mo) (x2_20 : Int32), va_P (dC, dI) vwCl (wMo cI cZ cJ mo_a mo_19) H → va_D A (wMo cI cZ cJ mo_a mo_19) → va_S A s.heap H locs → lv_has ls 6 [(0, .ref (mo_a 0)), (1, .int x1), (2, .int x2_20), (3, .int x3), (4, .int x4), (5, .int z0_16)] → j_Model_readClasses_142_21 (l_Model_readClasses_53 x1 x3 x4 k164 n) z0_16 mo_19 x2_20 = some res → W p l e R s m args below meth c H locs cells slots Q (F0 m 142 ls []) := by
            intro H locs ls mo_19 x2_20 hP hD hS hl hf
            rw [j_Model_readClasses_142_21] at hf
            refine lv_iload hx hb d_Model_readClasses_142 (lv_at hl 5 rfl) ?_
            refine lv_if_eq (tgt := 158) hx hb d_Model_readClasses_144 (by decide) (fun c_22 => ?_) (fun c_22 => ?_)
            · rw [if_pos c_22] at hf
              refine lv_iconst (v := 0) hx hb d_Model_readClasses_158 (by decide) ?_
              refine lv_istore (lv' := [(5, .int 0), (0, .ref (mo_a 0)), (1, .int x1), (2, .int x2_20), (3, .int x3), (4, .int x4)]) hx hb d_Model_readClasses_159 hl (by decide) rfl (fun ls hl => ?_)
              refine lv_goto (tgt := 53) hx hb d_Model_readClasses_161 (by decide) ?_
              exact ih _ _ _ mo_19 x2_20 0 hP hD hS (lv_sub hl [1, 2, 3, 4, 5, 0] rfl) hf
            · rw [if_neg c_22] at hf
              refine lv_aload_n hx hb d_Model_readClasses_147 rfl (lv_at hl 0 rfl) ?_
              refine va_get (D := (dC, dI)) (ci := 7) (v := .int (Mo_why mo_19)) (C := R_Model) (T := T_Model) (N := 27) hx hb hts in_Model hown hK hP 0 rfl rfl 26 (by decide) (hts _ t_850) (fun _ h9 => h9) rfl d_Model_readClasses_148 ?_
              refine lv_if_ge (tgt := 158) hx hb d_Model_readClasses_151 (by decide) (fun c_23 => ?_) (fun c_23 => ?_)
              · rw [if_pos c_23] at hf
                refine lv_iconst (v := 0) hx hb d_Model_readClasses_158 (by decide) ?_
                refine lv_istore (lv' := [(5, .int 0), (0, .ref (mo_a 0)), (1, .int x1), (2, .int x2_20), (3, .int x3), (4, .int x4)]) hx hb d_Model_readClasses_159 hl (by decide) rfl (fun ls hl => ?_)
                refine lv_goto (tgt := 53) hx hb d_Model_readClasses_161 (by decide) ?_
                exact ih _ _ _ mo_19 x2_20 0 hP hD hS (lv_sub hl [1, 2, 3, 4, 5, 0] rfl) hf
              · rw [if_neg c_23] at hf
                refine lv_iconst (v := 1) hx hb d_Model_readClasses_154 (by decide) ?_
                refine lv_goto (tgt := 159) hx hb d_Model_readClasses_155 (by decide) ?_
                refine lv_istore (lv' := [(5, .int 1), (0, .ref (mo_a 0)), (1, .int x1), (2, .int x2_20), (3, .int x3), (4, .int x4)]) hx hb d_Model_readClasses_159 hl (by decide) rfl (fun ls hl => ?_)
                refine lv_goto (tgt := 53) hx hb d_Model_readClasses_161 (by decide) ?_
                exact ih _ _ _ mo_19 x2_20 1 hP hD hS (lv_sub hl [1, 2, 3, 4, 5, 0] rfl) hf
          refine lv_if_eq (tgt := 131) hx hb d_Model_readClasses_95 (by decide) (fun c_24 => ?_) (fun c_24 => ?_)
          · rw [if_pos c_24] at hf
            refine lv_iload_n hx hb d_Model_readClasses_131 rfl (lv_at hl 2 rfl) ?_
            refine lv_iload hx hb d_Model_readClasses_132 (lv_at hl 4 rfl) ?_
            refine lv_icmp_ne (tgt := 142) hx hb d_Model_readClasses_134 (by decide) (fun c_25 => ?_) (fun c_25 => ?_)
            · rw [if_neg c_25] at hf
              exact J142_20 _ _ _ mo_15 x2 hP hD hS (lv_sub hl [0, 1, 2, 3, 4, 5] rfl) hf
            · rw [if_pos c_25] at hf
              refine lv_aload_n hx hb d_Model_readClasses_137 rfl (lv_at hl 0 rfl) ?_
              refine lv_iconst (v := 1) hx hb d_Model_readClasses_138 (by decide) ?_
              refine va_put (D := (dC, dI)) (ci := 7) (v := .int 1) (ty := .int) (C := R_Model) (T := T_Model) (N := 27) hx hb hts in_Model ty_Model tyok_Model nm_Model hown hK hP hD hS 0 rfl rfl 26 (by decide) (hts _ t_850) (fun _ h9 => h9) rfl (by decide +kernel) rfl rfl (Nat.le_of_ble_eq_true rfl) d_Model_readClasses_139 (fun H locs hP hD hS => ?_)
              obtain ⟨mo_26, emo_26, hf⟩ := lt_ex hf
              try dsimp only at hf
              have hP : va_P (dC, dI) vwCl (wMo cI cZ cJ mo_a mo_26) H := by rw [emo_26]; exact hP
              have hD : va_D A (wMo cI cZ cJ mo_a mo_26) := by rw [emo_26]; exact hD
              exact J142_20 _ _ _ mo_26 x2 hP hD hS (lv_sub hl [0, 1, 2, 3, 4, 5] rfl) hf
          · rw [if_neg c_24] at hf
            refine lv_aload_n hx hb d_Model_readClasses_98 rfl (lv_at hl 0 rfl) ?_
            refine lv_iload_n hx hb d_Model_readClasses_99 rfl (lv_at hl 2 rfl) ?_
            refine lv_iload_n hx hb d_Model_readClasses_100 rfl (lv_at hl 3 rfl) ?_
            refine lv_iload_n hx hb d_Model_readClasses_101 rfl (lv_at hl 2 rfl) ?_
            refine lv_iload hx hb d_Model_readClasses_102 (lv_at hl 4 rfl) ?_
            have J122_28 : ∀ (H : Heap) (locs : List Loc) (ls : Array Slot) (z0_28 : Int32), va_P (dC, dI) vwCl (wMo cI cZ cJ mo_a mo_15) H → va_D A (wMo cI cZ cJ mo_a mo_15) → va_S A s.heap H locs → lv_has ls 6 [(0, .ref (mo_a 0)), (1, .int x1), (2, .int x2), (3, .int x3), (4, .int x4), (5, .int z0_16)] → j_Model_readClasses_122_29 x2 x3 (l_Model_readClasses_53 x1 x3 x4 k164 n) mo_15 z0_16 z0_28 = some res → W p l e R s m args below meth c H locs cells slots Q (F0 m 122 ls [.int z0_28, .int x3, .int x2, .ref (mo_a 0)]) := by
              intro H locs ls z0_28 hP hD hS hl hf
              rw [j_Model_readClasses_122_29] at hf
              obtain ⟨mo_30, hf1, hf⟩ := bd_ex hf
              try dsimp only at hf
              have hPc := hP.sub (ws' := (wMo cI cZ cJ mo_a mo_15)) [0, 1, 2, 3, 4, 5, 6, 7, 8, 9, 10, 11, 12, 13, 14, 15] rfl
              have hDc := hD.sub (ws' := (wMo cI cZ cJ mo_a mo_15)) [0, 1, 2, 3, 4, 5, 6, 7, 8, 9, 10, 11, 12, 13, 14, 15] (by decide) rfl
              have hFc := va_free (wc := (wMo cI cZ cJ mo_a mo_15)) hD hS hA [0, 1, 2, 3, 4, 5, 6, 7, 8, 9, 10, 11, 12, 13, 14, 15] rfl
              refine va_callv (va_runV (As := [.int x2, .int x3, .int z0_28]) (rest := []) ⟨hx, hb, hml, hown, hts⟩ (k_Model_readSymbol l dC dI cI cZ cJ mo_a H.size hf1) (cwV 3 hts (gV t_1071 t_1073 t_49 t_63 t_1074) rfl rfl rfl hd_Model_readSymbol ⟨Nat.le_trans (Nat.le_of_ble_eq_true rfl) hRf, Nat.le_trans (Nat.le_of_ble_eq_true rfl) hRl⟩) ⟨kP_blind, va_recv hK hP (ci := 7) (q0 := 0) rfl rfl, kP_at hPc hK hDc hN⟩ rfl rfl hl.1 rfl (lv_room (Nat.le_of_ble_eq_true rfl)) d_Model_readClasses_122 hRc) hS (fun q _ h => hFc q h) hFc (fun u t H1 locs ht hvm hw hB hz1 hk1 hS => ?_)
              obtain ⟨hP, hD⟩ := kQ_join (wr := ([] : va_W)) (w1 := (wMo cI cZ cJ mo_a mo_30)) hP hD [0, 1, 2, 3, 4, 5, 6, 7, 8, 9, 10, 11, 12, 13, 14, 15] [] rfl rfl (by decide) (by decide) ht hk1 hFc hB
              generalize H1 = H at hP hS ⊢
              have hP : va_P (dC, dI) vwCl (wMo cI cZ cJ mo_a mo_30) H := hP.sub [0, 1, 2, 3, 4, 5, 6, 7, 8, 9, 10, 11, 12, 13, 14, 15] rfl
              have hD : va_D A (wMo cI cZ cJ mo_a mo_30) := hD.sub [0, 1, 2, 3, 4, 5, 6, 7, 8, 9, 10, 11, 12, 13, 14, 15] (by decide) rfl
              obtain ⟨x2_31, ex2_31, hf⟩ := lt_ex hf
              try dsimp only at hf
              refine lv_iinc (v := x2_31) (lv' := [(2, .int x2_31), (0, .ref (mo_a 0)), (1, .int x1), (3, .int x3), (4, .int x4), (5, .int z0_16)]) hx hb d_Model_readClasses_125 hl (k := 2) rfl (by rw [ex2_31]; rfl) (by decide) rfl (fun ls hl => ?_)
              refine lv_goto (tgt := 142) hx hb d_Model_readClasses_128 (by decide) ?_
              exact J142_20 _ _ _ mo_30 x2_31 hP hD hS (lv_sub hl [1, 2, 0, 3, 4, 5] rfl) hf
            refine lv_icmp_ne (tgt := 111) hx hb d_Model_readClasses_104 (by decide) (fun c_32 => ?_) (fun c_32 => ?_)
            · rw [if_neg c_32] at hf
              refine lv_aload_n hx hb d_Model_readClasses_111 rfl (lv_at hl 0 rfl) ?_
              refine va_get (D := (dC, dI)) (ci := 7) (v := .ref (mo_a 1)) (C := R_Model) (T := T_Model) (N := 27) hx hb hts in_Model hown hK hP 0 rfl rfl 3 (by decide) (hts _ t_827) (fun _ h9 => h9) rfl d_Model_readClasses_112 ?_
              refine lv_bipush (v := 40) hx hb d_Model_readClasses_115 (by decide) ?_
              refine lv_iload_n hx hb d_Model_readClasses_117 rfl (lv_at hl 2 rfl) ?_
              refine lv_iadd hx hb d_Model_readClasses_118 ?_
              refine lv_iconst (v := 1) hx hb d_Model_readClasses_119 (by decide) ?_
              refine lv_isub hx hb d_Model_readClasses_120 ?_
              obtain ⟨h_33, hf⟩ := gd_ex hf
              refine va_iald (f := Mo_wd mo_15) hx hb hK hP 1 0 rfl rfl (inb_in h_33) d_Model_readClasses_121 ?_
              exact J122_28 _ _ _ (Mo_wd mo_15 ((40 + x2) - 1).toNatClampNeg) hP hD hS (lv_sub hl [0, 1, 2, 3, 4, 5] rfl) hf
            · rw [if_pos c_32] at hf
              refine lv_iconst (v := 0) hx hb d_Model_readClasses_107 (by decide) ?_
              refine lv_goto (tgt := 122) hx hb d_Model_readClasses_108 (by decide) ?_
              exact J122_28 _ _ _ 0 hP hD hS (lv_sub hl [0, 1, 2, 3, 4, 5] rfl) hf
        refine lv_if_eq (tgt := 93) hx hb d_Model_readClasses_77 (by decide) (fun c_34 => ?_) (fun c_34 => ?_)
        · rw [if_pos c_34] at hf
          exact J93_17 _ _ _  hP hD hS (lv_sub hl [1, 2, 3, 4, 5, 0] rfl) hf
        · rw [if_neg c_34] at hf
          refine lv_iload_n hx hb d_Model_readClasses_80 rfl (lv_at hl 3 rfl) ?_
          refine lv_iload_n hx hb d_Model_readClasses_81 rfl (lv_at hl 2 rfl) ?_
          refine lv_icmp_ne (tgt := 93) hx hb d_Model_readClasses_82 (by decide) (fun c_35 => ?_) (fun c_35 => ?_)
          · rw [if_neg c_35] at hf
            exact J93_17 _ _ _  hP hD hS (lv_sub hl [1, 2, 3, 4, 5, 0] rfl) hf
          · rw [if_pos c_35] at hf
            refine lv_aload_n hx hb d_Model_readClasses_85 rfl (lv_at hl 1 rfl) ?_
            refine lv_iconst (v := 0) hx hb d_Model_readClasses_86 (by decide) ?_
            refine va_put (D := (dC, dI)) (ci := 7) (v := .int 0) (ty := .int) (C := R_Model) (T := T_Model) (N := 27) hx hb hts in_Model ty_Model tyok_Model nm_Model hown hK hP hD hS 0 rfl rfl 26 (by decide) (hts _ t_850) (fun _ h9 => h9) rfl (by decide +kernel) rfl rfl (Nat.le_of_ble_eq_true rfl) d_Model_readClasses_87 (fun H locs hP hD hS => ?_)
            obtain ⟨mo_36, emo_36, hf⟩ := lt_ex hf
            try dsimp only at hf
            have hP : va_P (dC, dI) vwCl (wMo cI cZ cJ mo_a mo_36) H := by rw [emo_36]; exact hP
            have hD : va_D A (wMo cI cZ cJ mo_a mo_36) := by rw [emo_36]; exact hD
            refine lv_goto (tgt := 142) hx hb d_Model_readClasses_90 (by decide) ?_
            refine lv_iload hx hb d_Model_readClasses_142 (lv_at hl 0 rfl) ?_
            refine lv_if_eq (tgt := 158) hx hb d_Model_readClasses_144 (by decide) (fun c_38 => ?_) (fun c_38 => ?_)
            · rw [if_pos c_38] at hf
              refine lv_iconst (v := 0) hx hb d_Model_readClasses_158 (by decide) ?_
              refine lv_istore (lv' := [(5, .int 0), (0, .ref (mo_a 0)), (1, .int x1), (2, .int x2), (3, .int x3), (4, .int x4)]) hx hb d_Model_readClasses_159 hl (by decide) rfl (fun ls hl => ?_)
              refine lv_goto (tgt := 53) hx hb d_Model_readClasses_161 (by decide) ?_
              exact ih _ _ _ mo_36 x2 0 hP hD hS (lv_sub hl [1, 2, 3, 4, 5, 0] rfl) hf
            · rw [if_neg c_38] at hf
              refine lv_aload_n hx hb d_Model_readClasses_147 rfl (lv_at hl 1 rfl) ?_
              refine va_get (D := (dC, dI)) (ci := 7) (v := .int (Mo_why mo_36)) (C := R_Model) (T := T_Model) (N := 27) hx hb hts in_Model hown hK hP 0 rfl rfl 26 (by decide) (hts _ t_850) (fun _ h9 => h9) rfl d_Model_readClasses_148 ?_
              refine lv_if_ge (tgt := 158) hx hb d_Model_readClasses_151 (by decide) (fun c_39 => ?_) (fun c_39 => ?_)
              · rw [if_pos c_39] at hf
                refine lv_iconst (v := 0) hx hb d_Model_readClasses_158 (by decide) ?_
                refine lv_istore (lv' := [(5, .int 0), (0, .ref (mo_a 0)), (1, .int x1), (2, .int x2), (3, .int x3), (4, .int x4)]) hx hb d_Model_readClasses_159 hl (by decide) rfl (fun ls hl => ?_)
                refine lv_goto (tgt := 53) hx hb d_Model_readClasses_161 (by decide) ?_
                exact ih _ _ _ mo_36 x2 0 hP hD hS (lv_sub hl [1, 2, 3, 4, 5, 0] rfl) hf
              · rw [if_neg c_39] at hf
                refine lv_iconst (v := 1) hx hb d_Model_readClasses_154 (by decide) ?_
                refine lv_goto (tgt := 159) hx hb d_Model_readClasses_155 (by decide) ?_
                refine lv_istore (lv' := [(5, .int 1), (0, .ref (mo_a 0)), (1, .int x1), (2, .int x2), (3, .int x3), (4, .int x4)]) hx hb d_Model_readClasses_159 hl (by decide) rfl (fun ls hl => ?_)
                refine lv_goto (tgt := 53) hx hb d_Model_readClasses_161 (by decide) ?_
                exact ih _ _ _ mo_36 x2 1 hP hD hS (lv_sub hl [1, 2, 3, 4, 5, 0] rfl) hf
      refine lv_icmp_ne (tgt := 72) hx hb d_Model_readClasses_65 (by decide) (fun c_40 => ?_) (fun c_40 => ?_)
      · rw [if_neg c_40] at hf
        refine lv_iconst (v := 0) hx hb d_Model_readClasses_72 (by decide) ?_
        exact J73_16 _ _ _ 0 hP hD hS (lv_sub hl [0, 1, 2, 3, 4] rfl) hf
      · rw [if_pos c_40] at hf
        refine lv_iconst (v := 1) hx hb d_Model_readClasses_68 (by decide) ?_
        refine lv_goto (tgt := 73) hx hb d_Model_readClasses_69 (by decide) ?_
        exact J73_16 _ _ _ 1 hP hD hS (lv_sub hl [0, 1, 2, 3, 4] rfl) hf
set_option maxHeartbeats 4000000 in
set_option maxRecDepth 100000 in
theorem L_Model_readClasses_4 {cells slots : Nat} {dC : Nat → ClassId} {dI : Nat → Nat → Nat} {cI cZ cJ : ClassId} {mo_a : Nat → Nat} {x1 : Int32} {k171 : Mo → Option (Mo)} {k175 : Mo → Option (Mo)} {res : Mo} (C0 : cxt p c m s args R cells slots R_Model c_Model_readClasses tb 6 (dC, dI) vwCl (TYS cI cZ cJ) A 6 143)
    (hk171 : ∀ (H : Heap) (locs : List Loc) (ls : Array Slot) (mo_1 : Mo), va_P (dC, dI) vwCl (wMo cI cZ cJ mo_a mo_1) H → va_D A (wMo cI cZ cJ mo_a mo_1) → va_S A s.heap H locs → lv_has ls 6 [] → k171 mo_1 = some res → W p l e R s m args below meth c H locs cells slots Q (F0 m 171 ls []))
    (hk175 : ∀ (H : Heap) (locs : List Loc) (ls : Array Slot) (mo_2 : Mo), va_P (dC, dI) vwCl (wMo cI cZ cJ mo_a mo_2) H → va_D A (wMo cI cZ cJ mo_a mo_2) → va_S A s.heap H locs → lv_has ls 6 [] → k175 mo_2 = some res → W p l e R s m args below meth c H locs cells slots Q (F0 m 175 ls [])) :
    ∀ (n : Nat) (H : Heap) (locs : List Loc) (ls : Array Slot) (mo : Mo) (x2 : Int32) (x3 : Int32), va_P (dC, dI) vwCl (wMo cI cZ cJ mo_a mo) H → va_D A (wMo cI cZ cJ mo_a mo) → va_S A s.heap H locs → lv_has ls 6 [(0, .ref (mo_a 0)), (1, .int x1), (2, .int x2), (3, .int x3)] → l_Model_readClasses_4 x1 k171 k175 n mo x2 x3 = some res → W p l e R s m args below meth c H locs cells slots Q (F0 m 4 ls []) := by
  obtain ⟨hx, hb, hml, hown, hts, hK, hA, hRf, hRl, hN, hRc⟩ := id C0
  intro n
  induction n with
  | zero =>
    intro H locs ls mo x2 x3 hP hD hS hl hf
    exact absurd hf (by simp [l_Model_readClasses_4])
  | succ n ih =>
    intro H locs ls mo x2 x3 hP hD hS hl hf
    rw [l_Model_readClasses_4] at hf
    refine lv_iload_n hx hb d_Model_readClasses_4 rfl (lv_at hl 2 rfl) ?_
    refine lv_iload_n hx hb d_Model_readClasses_5 rfl (lv_at hl 1 rfl) ?_
    refine lv_icmp_ge (tgt := 175) hx hb d_Model_readClasses_6 (by decide) (fun c_3 => ?_) (fun c_3 => ?_)
    · rw [if_pos c_3] at hf
      exact hk175 _ _ _ mo hP hD hS (lv_sub hl [] rfl) hf
    · rw [if_neg c_3] at hf
      refine lv_iload_n hx hb d_Model_readClasses_9 rfl (lv_at hl 3 rfl) ?_
      refine lv_aload_n hx hb d_Model_readClasses_10 rfl (lv_at hl 0 rfl) ?_
      obtain ⟨⟨r_4, mo_5⟩, hf1, hf⟩ := bd_ex hf
      try dsimp only at hf
      have hPc := hP.sub (ws' := (wMo cI cZ cJ mo_a mo)) [0, 1, 2, 3, 4, 5, 6, 7, 8, 9, 10, 11, 12, 13, 14, 15] rfl
      have hDc := hD.sub (ws' := (wMo cI cZ cJ mo_a mo)) [0, 1, 2, 3, 4, 5, 6, 7, 8, 9, 10, 11, 12, 13, 14, 15] (by decide) rfl
      have hFc := va_free (wc := (wMo cI cZ cJ mo_a mo)) hD hS hA [0, 1, 2, 3, 4, 5, 6, 7, 8, 9, 10, 11, 12, 13, 14, 15] rfl
      refine va_calli (va_runV (As := []) (rest := [.int x3]) ⟨hx, hb, hml, hown, hts⟩ (k_Model_takeNumber l dC dI cI cZ cJ mo_a H.size hf1) (cwV 0 hts (gV t_1055 t_1057 t_45 t_63 t_1058) rfl rfl rfl hd_Model_takeNumber ⟨Nat.le_trans (Nat.le_of_ble_eq_true rfl) hRf, Nat.le_trans (Nat.le_of_ble_eq_true rfl) hRl⟩) ⟨kP_blind, va_recv hK hP (ci := 7) (q0 := 0) rfl rfl, kP_at hPc hK hDc hN⟩ rfl rfl hl.1 rfl (lv_room (Nat.le_of_ble_eq_true rfl)) d_Model_readClasses_11 hRc) hS (fun q _ h => hFc q h) hFc (fun r9 u t H1 locs ht hvm hw hB hz1 hk1 hS => ?_)
      rw [hw]
      obtain ⟨hP, hD⟩ := kQ_join (wr := ([] : va_W)) (w1 := (wMo cI cZ cJ mo_a mo_5)) hP hD [0, 1, 2, 3, 4, 5, 6, 7, 8, 9, 10, 11, 12, 13, 14, 15] [] rfl rfl (by decide) (by decide) ht hk1 hFc hB
      generalize H1 = H at hP hS ⊢
      have hP : va_P (dC, dI) vwCl (wMo cI cZ cJ mo_a mo_5) H := hP.sub [0, 1, 2, 3, 4, 5, 6, 7, 8, 9, 10, 11, 12, 13, 14, 15] rfl
      have hD : va_D A (wMo cI cZ cJ mo_a mo_5) := hD.sub [0, 1, 2, 3, 4, 5, 6, 7, 8, 9, 10, 11, 12, 13, 14, 15] (by decide) rfl
      refine lv_iconst (v := 1) hx hb d_Model_readClasses_14 (by decide) ?_
      refine lv_iadd hx hb d_Model_readClasses_15 ?_
      refine lv_iadd hx hb d_Model_readClasses_16 ?_
      obtain ⟨x3_6, ex3_6, hf⟩ := lt_ex hf
      try dsimp only at hf
      refine tp_i ex3_6 ?_
      refine lv_istore_n (lv' := [(3, .int x3_6), (0, .ref (mo_a 0)), (1, .int x1), (2, .int x2)]) hx hb d_Model_readClasses_17 rfl hl (by decide) rfl (fun ls hl => ?_)
      refine lv_aload_n hx hb d_Model_readClasses_18 rfl (lv_at hl 1 rfl) ?_
      refine va_get (D := (dC, dI)) (ci := 7) (v := .int (Mo_why mo_5)) (C := R_Model) (T := T_Model) (N := 27) hx hb hts in_Model hown hK hP 0 rfl rfl 26 (by decide) (hts _ t_850) (fun _ h9 => h9) rfl d_Model_readClasses_19 ?_
      have J36_7 : ∀ (H : Heap) (locs : List Loc) (ls : Array Slot) (mo_7 : Mo), va_P (dC, dI) vwCl (wMo cI cZ cJ mo_a mo_7) H → va_D A (wMo cI cZ cJ mo_a mo_7) → va_S A s.heap H locs → lv_has ls 6 [(0, .ref (mo_a 0)), (1, .int x1), (2, .int x2), (3, .int x3_6)] → j_Model_readClasses_36_8 x1 x2 (l_Model_readClasses_4 x1 k171 k175 n) k171 x3_6 mo_7 = some res → W p l e R s m args below meth c H locs cells slots Q (F0 m 36 ls []) := by
        intro H locs ls mo_7 hP hD hS hl hf
        rw [j_Model_readClasses_36_8] at hf
        refine lv_iload_n hx hb d_Model_readClasses_36 rfl (lv_at hl 2 rfl) ?_
        refine lv_istore (lv' := [(4, .int x2), (0, .ref (mo_a 0)), (1, .int x1), (2, .int x2), (3, .int x3_6)]) hx hb d_Model_readClasses_37 hl (by decide) rfl (fun ls hl => ?_)
        refine lv_aload_n hx hb d_Model_readClasses_39 rfl (lv_at hl 1 rfl) ?_
        refine va_get (D := (dC, dI)) (ci := 7) (v := .int (Mo_why mo_7)) (C := R_Model) (T := T_Model) (N := 27) hx hb hts in_Model hown hK hP 0 rfl rfl 26 (by decide) (hts _ t_850) (fun _ h9 => h9) rfl d_Model_readClasses_40 ?_
        have J51_9 : ∀ (H : Heap) (locs : List Loc) (ls : Array Slot) (z0_9 : Int32), va_P (dC, dI) vwCl (wMo cI cZ cJ mo_a mo_7) H → va_D A (wMo cI cZ cJ mo_a mo_7) → va_S A s.heap H locs → lv_has ls 6 [(0, .ref (mo_a 0)), (1, .int x1), (2, .int x2), (3, .int x3_6), (4, .int x2)] → j_Model_readClasses_51_10 x1 x2 (l_Model_readClasses_4 x1 k171 k175 n) k171 x3_6 mo_7 z0_9 = some res → W p l e R s m args below meth c H locs cells slots Q (F0 m 51 ls [.int z0_9]) := by
          intro H locs ls z0_9 hP hD hS hl hf
          rw [j_Model_readClasses_51_10] at hf
          refine lv_istore (lv' := [(5, .int z0_9), (0, .ref (mo_a 0)), (1, .int x1), (2, .int x2), (3, .int x3_6), (4, .int x2)]) hx hb d_Model_readClasses_51 hl (by decide) rfl (fun ls hl => ?_)
          refine L_Model_readClasses_53 C0 (fun H locs ls mo_41 x2_42 hP hD hS hl hf => ?_) 100000 _ _ _ mo_7 x2 z0_9 hP hD hS (lv_sub hl [1, 2, 3, 4, 5, 0] rfl) hf
          try dsimp only at hf
          refine lv_aload_n hx hb d_Model_readClasses_164 rfl (lv_at hl 0 rfl) ?_
          refine va_get (D := (dC, dI)) (ci := 7) (v := .int (Mo_why mo_41)) (C := R_Model) (T := T_Model) (N := 27) hx hb hts in_Model hown hK hP 0 rfl rfl 26 (by decide) (hts _ t_850) (fun _ h9 => h9) rfl d_Model_readClasses_165 ?_
          refine lv_if_lt (tgt := 172) hx hb d_Model_readClasses_168 (by decide) (fun c_43 => ?_) (fun c_43 => ?_)
          · rw [if_pos c_43] at hf
            refine lv_goto (tgt := 4) hx hb d_Model_readClasses_172 (by decide) ?_
            exact ih _ _ _ mo_41 x2_42 x3_6 hP hD hS (lv_sub hl [0, 1, 2, 3] rfl) hf
          · rw [if_neg c_43] at hf
            exact hk171 _ _ _ mo_41 hP hD hS (lv_sub hl [] rfl) hf
        refine lv_if_ge (tgt := 50) hx hb d_Model_readClasses_43 (by decide) (fun c_44 => ?_) (fun c_44 => ?_)
        · rw [if_pos c_44] at hf
          refine lv_iconst (v := 0) hx hb d_Model_readClasses_50 (by decide) ?_
          exact J51_9 _ _ _ 0 hP hD hS (lv_sub hl [1, 2, 3, 4, 0] rfl) hf
        · rw [if_neg c_44] at hf
          refine lv_iconst (v := 1) hx hb d_Model_readClasses_46 (by decide) ?_
          refine lv_goto (tgt := 51) hx hb d_Model_readClasses_47 (by decide) ?_
          exact J51_9 _ _ _ 1 hP hD hS (lv_sub hl [1, 2, 3, 4, 0] rfl) hf
      refine lv_if_ge (tgt := 36) hx hb d_Model_readClasses_22 (by decide) (fun c_45 => ?_) (fun c_45 => ?_)
      · rw [if_pos c_45] at hf
        exact J36_7 _ _ _ mo_5 hP hD hS (lv_sub hl [1, 2, 3, 0] rfl) hf
      · rw [if_neg c_45] at hf
        refine lv_iload_n hx hb d_Model_readClasses_25 rfl (lv_at hl 0 rfl) ?_
        refine lv_bipush (v := 16) hx hb d_Model_readClasses_26 (by decide) ?_
        refine lv_icmp_le (tgt := 36) hx hb d_Model_readClasses_28 (by decide) (fun c_46 => ?_) (fun c_46 => ?_)
        · rw [if_pos c_46] at hf
          exact J36_7 _ _ _ mo_5 hP hD hS (lv_sub hl [1, 2, 3, 0] rfl) hf
        · rw [if_neg c_46] at hf
          refine lv_aload_n hx hb d_Model_readClasses_31 rfl (lv_at hl 1 rfl) ?_
          refine lv_iconst (v := 1) hx hb d_Model_readClasses_32 (by decide) ?_
          refine va_put (D := (dC, dI)) (ci := 7) (v := .int 1) (ty := .int) (C := R_Model) (T := T_Model) (N := 27) hx hb hts in_Model ty_Model tyok_Model nm_Model hown hK hP hD hS 0 rfl rfl 26 (by decide) (hts _ t_850) (fun _ h9 => h9) rfl (by decide +kernel) rfl rfl (Nat.le_of_ble_eq_true rfl) d_Model_readClasses_33 (fun H locs hP hD hS => ?_)
          obtain ⟨mo_47, emo_47, hf⟩ := lt_ex hf
          try dsimp only at hf
          have hP : va_P (dC, dI) vwCl (wMo cI cZ cJ mo_a mo_47) H := by rw [emo_47]; exact hP
          have hD : va_D A (wMo cI cZ cJ mo_a mo_47) := by rw [emo_47]; exact hD
          exact J36_7 _ _ _ mo_47 hP hD hS (lv_sub hl [1, 2, 3, 0] rfl) hf
set_option maxHeartbeats 4000000 in
set_option maxRecDepth 100000 in
theorem B_Model_readClasses {cells slots : Nat} {dC : Nat → ClassId} {dI : Nat → Nat → Nat} {cI cZ cJ : ClassId} {mo_a : Nat → Nat} {mo : Mo} {x1 : Int32} {res : Mo} (C0 : cxt p c m s args R cells slots R_Model c_Model_readClasses tb 6 (dC, dI) vwCl (TYS cI cZ cJ) A 6 143)
    (hr171 : ∀ (H : Heap) (locs : List Loc) (ls : Array Slot) (mo' : Mo), va_P (dC, dI) vwCl (wMo cI cZ cJ mo_a mo') H → va_D A (wMo cI cZ cJ mo_a mo') → va_S A s.heap H locs → some mo' = some res → W p l e R s m args below meth c H locs cells slots Q (F0 m 171 ls []))
    (hr175 : ∀ (H : Heap) (locs : List Loc) (ls : Array Slot) (mo' : Mo), va_P (dC, dI) vwCl (wMo cI cZ cJ mo_a mo') H → va_D A (wMo cI cZ cJ mo_a mo') → va_S A s.heap H locs → some mo' = some res → W p l e R s m args below meth c H locs cells slots Q (F0 m 175 ls []))
    {H : Heap} {locs : List Loc} {ls : Array Slot} (hP : va_P (dC, dI) vwCl (wMo cI cZ cJ mo_a mo) H) (hD : va_D A (wMo cI cZ cJ mo_a mo)) (hS : va_S A s.heap H locs) (hl : lv_has ls 6 [(0, .ref (mo_a 0)), (1, .int x1)]) (hf : f_Model_readClasses mo x1 = some res) : W p l e R s m args below meth c H locs cells slots Q (F0 m 0 ls []) := by
  obtain ⟨hx, hb, hml, hown, hts, hK, hA, hRf, hRl, hN, hRc⟩ := id C0
  rw [f_Model_readClasses] at hf
  refine lv_iconst (v := 0) hx hb d_Model_readClasses_0 (by decide) ?_
  refine lv_istore_n (lv' := [(2, .int 0), (0, .ref (mo_a 0)), (1, .int x1)]) hx hb d_Model_readClasses_1 rfl hl (by decide) rfl (fun ls hl => ?_)
  refine lv_iconst (v := 0) hx hb d_Model_readClasses_2 (by decide) ?_
  refine lv_istore_n (lv' := [(3, .int 0), (2, .int 0), (0, .ref (mo_a 0)), (1, .int x1)]) hx hb d_Model_readClasses_3 rfl hl (by decide) rfl (fun ls hl => ?_)
  refine L_Model_readClasses_4 C0 (fun H locs ls mo_49 hP hD hS hl hf => ?_) (fun H locs ls mo_50 hP hD hS hl hf => ?_) 100000 _ _ _ mo 0 0 hP hD hS (lv_sub hl [2, 3, 1, 0] rfl) hf
  · try dsimp only at hf
    exact hr171 _ _ _ mo_49 hP hD hS hf
  · try dsimp only at hf
    exact hr175 _ _ _ mo_50 hP hD hS hf
end
set_option maxHeartbeats 4000000 in
set_option maxRecDepth 100000 in
theorem k_Model_readClasses (l : Launch) (dC : Nat → ClassId) (dI : Nat → Nat → Nat) (cI cZ cJ : ClassId) (mo_a : Nat → Nat) (sz : Nat) {mo : Mo} {x1 : Int32} {mo' : Mo} (hf : f_Model_readClasses mo x1 = some mo') :
    Met l y_Model_readClasses ws_Model_readClasses ({ frames := 6, cells := 0, slots := 0, locals := 143 }) (va_Pc [.ref (mo_a 0), .int x1] (kP (dC, dI) vwCl (TYS cI cZ cJ) (wMo cI cZ cJ mo_a mo) sz)) (va_Qv (fun (_ : Unit) => True) (fun _ t => kQ (dC, dI) vwCl (TYS cI cZ cJ) (wMo cI cZ cJ mo_a mo) sz (wMo cI cZ cJ mo_a mo') t) (va_A (wMo cI cZ cJ mo_a mo) sz)) 0 0 (va_A (wMo cI cZ cJ mo_a mo) sz) := by
  refine Met.ofW (cc := c_Model_readClasses) (maxL := 6) (ret := none) (by decide) rfl ?_
  intro p e s m args below meth c s₁ B hml hv
  obtain ⟨rfl, hsz, hP, hK, hD0, hN⟩ := hv
  have hr := B.returns
  have hlocks := B.notSynchronized
  subst hsz
  have hD := hD0.self (sz := s.heap.size)
  have hl := lv_entry ([.ref (mo_a 0), .int x1]) (n := 6) (Nat.le_of_ble_eq_true rfl)
  rw [lg_entry_eq]
  generalize (lg_sl ([.ref (mo_a 0), .int x1]) ++ List.replicate (6 - (lg_sl ([.ref (mo_a 0), .int x1])).length) Slot.unset).toArray = ls at hl ⊢
  refine B_Model_readClasses (A := va_A (wMo cI cZ cJ mo_a mo) s.heap.size) ⟨B.exec, B.bytes, hml, findClass_of_methodNamed B.named, fun w h => atoms_spec (ws := ws_Model_readClasses) B.pre w (List.mem_cons_of_mem _ h), hK, fun q h => Or.inr h, Nat.le_of_ble_eq_true rfl, Nat.le_of_ble_eq_true rfl, hN, Nat.le_of_ble_eq_true rfl, Nat.le_of_ble_eq_true rfl⟩ (fun H locs ls mo'1 hP hD hS hf => ?_) (fun H locs ls mo'1 hP hD hS hf => ?_) hP hD va_S.rf hl hf
  · cases hf
    exact W.vret B.exec B.bytes hr (fun t ht hW => ⟨⟨(), rfl, trivial, ⟨by rw [ht]; exact hP, va_K.moved hW.alike hK, hD⟩⟩, hS.F ht⟩) hS.2.2 d_Model_readClasses_171
  · cases hf
    exact W.vret B.exec B.bytes hr (fun t ht hW => ⟨⟨(), rfl, trivial, ⟨by rw [ht]; exact hP, va_K.moved hW.alike hK, hD⟩⟩, hS.F ht⟩) hS.2.2 d_Model_readClasses_175

/-! Model_readExports -/
def l_Model_readExports_60 (x1 : Int32) (x2 : Int32) (x3 : Int32) (x4 : Int32) (k86 : Mo → Option (Mo)) : Nat → Mo → Int32 → Option (Mo)
  | 0, _, _ => none
  | n + 1, mo, x5 => (if (x2 + x4) ≤ x5 then k86 mo else gd (inb (40 + x5) 80) <| lt' (Mo_s_ex mo (upd (Mo_ex mo) (40 + x5).toNatClampNeg (vp_nar .boolean x3))) <| fun mo_12 => lt' (x5 + 1) <| fun x5_14 => (l_Model_readExports_60 x1 x2 x3 x4 k86 n) mo_12 x5_14)
def j_Model_readExports_49_7 (x1 : Int32) (x2 : Int32) (x3 : Int32) (rc4 : Mo → Int32 → Int32 → Option (Mo)) (k56 : Mo → Option (Mo)) (r_4 : Int32) (mo_6 : Mo) : Option (Mo) := (if (Mo_why mo_6) < 0 then l_Model_readExports_60 x1 x2 x3 r_4 (fun mo_15 => lt' (x2 + r_4) <| fun x2_16 => (if x3 = 0 then rc4 mo_15 x2_16 1 else rc4 mo_15 x2_16 0)) 100000 mo_6 x2 else k56 mo_6)
def l_Model_readExports_4 (x1 : Int32) (k56 : Mo → Option (Mo)) (k104 : Mo → Option (Mo)) : Nat → Mo → Int32 → Int32 → Option (Mo)
  | 0, _, _, _ => none
  | n + 1, mo, x2, x3 => (if x1 ≤ x2 then k104 mo else bd (f_Model_takeNumber mo) <| fun (r_4, mo_5) => (if 0 ≤ (Mo_why mo_5) then j_Model_readExports_49_7 x1 x2 x3 (l_Model_readExports_4 x1 k56 k104 n) k56 r_4 mo_5 else (if (x1 - x2) < r_4 then lt' (Mo_s_why mo_5 6) <| fun mo_20 => j_Model_readExports_49_7 x1 x2 x3 (l_Model_readExports_4 x1 k56 k104 n) k56 r_4 mo_20 else (if r_4 = 0 then (if x3 = 0 then (if x2 ≤ 0 then j_Model_readExports_49_7 x1 x2 x3 (l_Model_readExports_4 x1 k56 k104 n) k56 r_4 mo_5 else lt' (Mo_s_why mo_5 6) <| fun mo_27 => j_Model_readExports_49_7 x1 x2 x3 (l_Model_readExports_4 x1 k56 k104 n) k56 r_4 mo_27) else lt' (Mo_s_why mo_5 6) <| fun mo_24 => j_Model_readExports_49_7 x1 x2 x3 (l_Model_readExports_4 x1 k56 k104 n) k56 r_4 mo_24) else j_Model_readExports_49_7 x1 x2 x3 (l_Model_readExports_4 x1 k56 k104 n) k56 r_4 mo_5))))
def f_Model_readExports (mo : Mo) (x1 : Int32) : Option (Mo) := l_Model_readExports_4 x1 (fun mo_29 => some mo_29) (fun mo_30 => some mo_30) 100000 mo 0 0
section
variable {p : Program} {l : Launch} {e : Env} {R : Room} {s : State} {m : MethodId} {args : Array Value} {below : List Frame} {meth : Method} {c : Code} {Q : State → Prop} {A : Nat → Prop}
set_option maxHeartbeats 4000000 in
set_option maxRecDepth 100000 in
theorem L_Model_readExports_60 {cells slots : Nat} {dC : Nat → ClassId} {dI : Nat → Nat → Nat} {cI cZ cJ : ClassId} {mo_a : Nat → Nat} {x1 : Int32} {x2 : Int32} {x3 : Int32} {x4 : Int32} {k86 : Mo → Option (Mo)} {res : Mo} (C0 : cxt p c m s args R cells slots R_Model c_Model_readExports tb 6 (dC, dI) vwCl (TYS cI cZ cJ) A 4 89)
    (hk86 : ∀ (H : Heap) (locs : List Loc) (ls : Array Slot) (mo_9 : Mo), va_P (dC, dI) vwCl (wMo cI cZ cJ mo_a mo_9) H → va_D A (wMo cI cZ cJ mo_a mo_9) → va_S A s.heap H locs → lv_has ls 6 [(0, .ref (mo_a 0)), (1, .int x1), (2, .int x2), (3, .int x3), (4, .int x4)] → k86 mo_9 = some res → W p l e R s m args below meth c H locs cells slots Q (F0 m 86 ls [])) :
    ∀ (n : Nat) (H : Heap) (locs : List Loc) (ls : Array Slot) (mo : Mo) (x5 : Int32), va_P (dC, dI) vwCl (wMo cI cZ cJ mo_a mo) H → va_D A (wMo cI cZ cJ mo_a mo) → va_S A s.heap H locs → lv_has ls 6 [(0, .ref (mo_a 0)), (1, .int x1), (2, .int x2), (3, .int x3), (4, .int x4), (5, .int x5)] → l_Model_readExports_60 x1 x2 x3 x4 k86 n mo x5 = some res → W p l e R s m args below meth c H locs cells slots Q (F0 m 60 ls []) := by
  obtain ⟨hx, hb, hml, hown, hts, hK, hA, hRf, hRl, hN, hRc⟩ := id C0
  intro n
  induction n with
  | zero =>
    intro H locs ls mo x5 hP hD hS hl hf
    exact absurd hf (by simp [l_Model_readExports_60])
  | succ n ih =>
    intro H locs ls mo x5 hP hD hS hl hf
    rw [l_Model_readExports_60] at hf
    refine lv_iload hx hb d_Model_readExports_60 (lv_at hl 5 rfl) ?_
    refine lv_iload_n hx hb d_Model_readExports_62 rfl (lv_at hl 2 rfl) ?_
    refine lv_iload hx hb d_Model_readExports_63 (lv_at hl 4 rfl) ?_
    refine lv_iadd hx hb d_Model_readExports_65 ?_
    refine lv_icmp_ge (tgt := 86) hx hb d_Model_readExports_66 (by decide) (fun c_10 => ?_) (fun c_10 => ?_)
    · rw [if_pos c_10] at hf
      exact hk86 _ _ _ mo hP hD hS (lv_sub hl [0, 1, 2, 3, 4] rfl) hf
    · rw [if_neg c_10] at hf
      refine lv_aload_n hx hb d_Model_readExports_69 rfl (lv_at hl 0 rfl) ?_
      refine va_get (D := (dC, dI)) (ci := 7) (v := .ref (mo_a 4)) (C := R_Model) (T := T_Model) (N := 27) hx hb hts in_Model hown hK hP 0 rfl rfl 6 (by decide) (hts _ t_830) (fun _ h9 => h9) rfl d_Model_readExports_70 ?_
      refine lv_bipush (v := 40) hx hb d_Model_readExports_73 (by decide) ?_
      refine lv_iload hx hb d_Model_readExports_75 (lv_at hl 5 rfl) ?_
      refine lv_iadd hx hb d_Model_readExports_77 ?_
      refine lv_iload_n hx hb d_Model_readExports_78 rfl (lv_at hl 3 rfl) ?_
      obtain ⟨h_11, hf⟩ := gd_ex hf
      refine va_zast (f := Mo_ex mo) hx hb hK hP hD hS 4 1 rfl rfl (inb_in h_11) d_Model_readExports_79 (fun H locs hP hD hS => ?_)
      obtain ⟨mo_12, emo_12, hf⟩ := lt_ex hf
      try dsimp only at hf
      have hP : va_P (dC, dI) vwCl (wMo cI cZ cJ mo_a mo_12) H := by rw [emo_12]; exact hP
      have hD : va_D A (wMo cI cZ cJ mo_a mo_12) := by rw [emo_12]; exact hD
      obtain ⟨x5_14, ex5_14, hf⟩ := lt_ex hf
      try dsimp only at hf
      refine lv_iinc (v := x5_14) (lv' := [(5, .int x5_14), (0, .ref (mo_a 0)), (1, .int x1), (2, .int x2), (3, .int x3), (4, .int x4)]) hx hb d_Model_readExports_80 hl (k := 5) rfl (by rw [ex5_14]; rfl) (by decide) rfl (fun ls hl => ?_)
      refine lv_goto (tgt := 60) hx hb d_Model_readExports_83 (by decide) ?_
      exact ih _ _ _ mo_12 x5_14 hP hD hS (lv_sub hl [1, 2, 3, 4, 5, 0] rfl) hf
set_option maxHeartbeats 4000000 in
set_option maxRecDepth 100000 in
theorem L_Model_readExports_4 {cells slots : Nat} {dC : Nat → ClassId} {dI : Nat → Nat → Nat} {cI cZ cJ : ClassId} {mo_a : Nat → Nat} {x1 : Int32} {k56 : Mo → Option (Mo)} {k104 : Mo → Option (Mo)} {res : Mo} (C0 : cxt p c m s args R cells slots R_Model c_Model_readExports tb 6 (dC, dI) vwCl (TYS cI cZ cJ) A 4 89)
    (hk56 : ∀ (H : Heap) (locs : List Loc) (ls : Array Slot) (mo_1 : Mo), va_P (dC, dI) vwCl (wMo cI cZ cJ mo_a mo_1) H → va_D A (wMo cI cZ cJ mo_a mo_1) → va_S A s.heap H locs → lv_has ls 6 [] → k56 mo_1 = some res → W p l e R s m args below meth c H locs cells slots Q (F0 m 56 ls []))
    (hk104 : ∀ (H : Heap) (locs : List Loc) (ls : Array Slot) (mo_2 : Mo), va_P (dC, dI) vwCl (wMo cI cZ cJ mo_a mo_2) H → va_D A (wMo cI cZ cJ mo_a mo_2) → va_S A s.heap H locs → lv_has ls 6 [] → k104 mo_2 = some res → W p l e R s m args below meth c H locs cells slots Q (F0 m 104 ls [])) :
    ∀ (n : Nat) (H : Heap) (locs : List Loc) (ls : Array Slot) (mo : Mo) (x2 : Int32) (x3 : Int32), va_P (dC, dI) vwCl (wMo cI cZ cJ mo_a mo) H → va_D A (wMo cI cZ cJ mo_a mo) → va_S A s.heap H locs → lv_has ls 6 [(0, .ref (mo_a 0)), (1, .int x1), (2, .int x2), (3, .int x3)] → l_Model_readExports_4 x1 k56 k104 n mo x2 x3 = some res → W p l e R s m args below meth c H locs cells slots Q (F0 m 4 ls []) := by
  obtain ⟨hx, hb, hml, hown, hts, hK, hA, hRf, hRl, hN, hRc⟩ := id C0
  intro n
  induction n with
  | zero =>
    intro H locs ls mo x2 x3 hP hD hS hl hf
    exact absurd hf (by simp [l_Model_readExports_4])
  | succ n ih =>
    intro H locs ls mo x2 x3 hP hD hS hl hf
    rw [l_Model_readExports_4] at hf
    refine lv_iload_n hx hb d_Model_readExports_4 rfl (lv_at hl 2 rfl) ?_
    refine lv_iload_n hx hb d_Model_readExports_5 rfl (lv_at hl 1 rfl) ?_
    refine lv_icmp_ge (tgt := 104) hx hb d_Model_readExports_6 (by decide) (fun c_3 => ?_) (fun c_3 => ?_)
    · rw [if_pos c_3] at hf
      exact hk104 _ _ _ mo hP hD hS (lv_sub hl [] rfl) hf
    · rw [if_neg c_3] at hf
      refine lv_aload_n hx hb d_Model_readExports_9 rfl (lv_at hl 0 rfl) ?_
      obtain ⟨⟨r_4, mo_5⟩, hf1, hf⟩ := bd_ex hf
      try dsimp only at hf
      have hPc := hP.sub (ws' := (wMo cI cZ cJ mo_a mo)) [0, 1, 2, 3, 4, 5, 6, 7, 8, 9, 10, 11, 12, 13, 14, 15] rfl
      have hDc := hD.sub (ws' := (wMo cI cZ cJ mo_a mo)) [0, 1, 2, 3, 4, 5, 6, 7, 8, 9, 10, 11, 12, 13, 14, 15] (by decide) rfl
      have hFc := va_free (wc := (wMo cI cZ cJ mo_a mo)) hD hS hA [0, 1, 2, 3, 4, 5, 6, 7, 8, 9, 10, 11, 12, 13, 14, 15] rfl
      refine va_calli (va_runV (As := []) (rest := []) ⟨hx, hb, hml, hown, hts⟩ (k_Model_takeNumber l dC dI cI cZ cJ mo_a H.size hf1) (cwV 0 hts (gV t_1055 t_1057 t_45 t_63 t_1058) rfl rfl rfl hd_Model_takeNumber ⟨Nat.le_trans (Nat.le_of_ble_eq_true rfl) hRf, Nat.le_trans (Nat.le_of_ble_eq_true rfl) hRl⟩) ⟨kP_blind, va_recv hK hP (ci := 7) (q0 := 0) rfl rfl, kP_at hPc hK hDc hN⟩ rfl rfl hl.1 rfl (lv_room (Nat.le_of_ble_eq_true rfl)) d_Model_readExports_10 hRc) hS (fun q _ h => hFc q h) hFc (fun r9 u t H1 locs ht hvm hw hB hz1 hk1 hS => ?_)
      rw [hw]
      obtain ⟨hP, hD⟩ := kQ_join (wr := ([] : va_W)) (w1 := (wMo cI cZ cJ mo_a mo_5)) hP hD [0, 1, 2, 3, 4, 5, 6, 7, 8, 9, 10, 11, 12, 13, 14, 15] [] rfl rfl (by decide) (by decide) ht hk1 hFc hB
      generalize H1 = H at hP hS ⊢
      have hP : va_P (dC, dI) vwCl (wMo cI cZ cJ mo_a mo_5) H := hP.sub [0, 1, 2, 3, 4, 5, 6, 7, 8, 9, 10, 11, 12, 13, 14, 15] rfl
      have hD : va_D A (wMo cI cZ cJ mo_a mo_5) := hD.sub [0, 1, 2, 3, 4, 5, 6, 7, 8, 9, 10, 11, 12, 13, 14, 15] (by decide) rfl
      refine lv_istore (lv' := [(4, .int r_4), (0, .ref (mo_a 0)), (1, .int x1), (2, .int x2), (3, .int x3)]) hx hb d_Model_readExports_13 hl (by decide) rfl (fun ls hl => ?_)
      refine lv_aload_n hx hb d_Model_readExports_15 rfl (lv_at hl 1 rfl) ?_
      refine va_get (D := (dC, dI)) (ci := 7) (v := .int (Mo_why mo_5)) (C := R_Model) (T := T_Model) (N := 27) hx hb hts in_Model hown hK hP 0 rfl rfl 26 (by decide) (hts _ t_850) (fun _ h9 => h9) rfl d_Model_readExports_16 ?_
      have J49_6 : ∀ (H : Heap) (locs : List Loc) (ls : Array Slot) (mo_6 : Mo), va_P (dC, dI) vwCl (wMo cI cZ cJ mo_a mo_6) H → va_D A (wMo cI cZ cJ mo_a mo_6) → va_S A s.heap H locs → lv_has ls 6 [(0, .ref (mo_a 0)), (1, .int x1), (2, .int x2), (3, .int x3), (4, .int r_4)] → j_Model_readExports_49_7 x1 x2 x3 (l_Model_readExports_4 x1 k56 k104 n) k56 r_4 mo_6 = some res → W p l e R s m args below meth c H locs cells slots Q (F0 m 49 ls []) := by
        intro H locs ls mo_6 hP hD hS hl hf
        rw [j_Model_readExports_49_7] at hf
        refine lv_aload_n hx hb d_Model_readExports_49 rfl (lv_at hl 0 rfl) ?_
        refine va_get (D := (dC, dI)) (ci := 7) (v := .int (Mo_why mo_6)) (C := R_Model) (T := T_Model) (N := 27) hx hb hts in_Model hown hK hP 0 rfl rfl 26 (by decide) (hts _ t_850) (fun _ h9 => h9) rfl d_Model_readExports_50 ?_
        refine lv_if_lt (tgt := 57) hx hb d_Model_readExports_53 (by decide) (fun c_8 => ?_) (fun c_8 => ?_)
        · rw [if_pos c_8] at hf
          refine lv_iload_n hx hb d_Model_readExports_57 rfl (lv_at hl 2 rfl) ?_
          refine lv_istore (lv' := [(5, .int x2), (0, .ref (mo_a 0)), (1, .int x1), (2, .int x2), (3, .int x3), (4, .int r_4)]) hx hb d_Model_readExports_58 hl (by decide) rfl (fun ls hl => ?_)
          refine L_Model_readExports_60 C0 (fun H locs ls mo_15 hP hD hS hl hf => ?_) 100000 _ _ _ mo_6 x2 hP hD hS (lv_sub hl [1, 2, 3, 4, 5, 0] rfl) hf
          try dsimp only at hf
          refine lv_iload_n hx hb d_Model_readExports_86 rfl (lv_at hl 2 rfl) ?_
          refine lv_iload hx hb d_Model_readExports_87 (lv_at hl 4 rfl) ?_
          refine lv_iadd hx hb d_Model_readExports_89 ?_
          obtain ⟨x2_16, ex2_16, hf⟩ := lt_ex hf
          try dsimp only at hf
          refine tp_i ex2_16 ?_
          refine lv_istore_n (lv' := [(2, .int x2_16), (0, .ref (mo_a 0)), (1, .int x1), (3, .int x3), (4, .int r_4)]) hx hb d_Model_readExports_90 rfl hl (by decide) rfl (fun ls hl => ?_)
          refine lv_iload_n hx hb d_Model_readExports_91 rfl (lv_at hl 3 rfl) ?_
          refine lv_if_ne (tgt := 99) hx hb d_Model_readExports_92 (by decide) (fun c_17 => ?_) (fun c_17 => ?_)
          · rw [if_neg c_17] at hf
            refine lv_iconst (v := 0) hx hb d_Model_readExports_99 (by decide) ?_
            refine lv_istore_n (lv' := [(3, .int 0), (2, .int x2_16), (0, .ref (mo_a 0)), (1, .int x1), (4, .int r_4)]) hx hb d_Model_readExports_100 rfl hl (by decide) rfl (fun ls hl => ?_)
            refine lv_goto (tgt := 4) hx hb d_Model_readExports_101 (by decide) ?_
            exact ih _ _ _ mo_15 x2_16 0 hP hD hS (lv_sub hl [2, 3, 1, 0] rfl) hf
          · rw [if_pos c_17] at hf
            refine lv_iconst (v := 1) hx hb d_Model_readExports_95 (by decide) ?_
            refine lv_goto (tgt := 100) hx hb d_Model_readExports_96 (by decide) ?_
            refine lv_istore_n (lv' := [(3, .int 1), (2, .int x2_16), (0, .ref (mo_a 0)), (1, .int x1), (4, .int r_4)]) hx hb d_Model_readExports_100 rfl hl (by decide) rfl (fun ls hl => ?_)
            refine lv_goto (tgt := 4) hx hb d_Model_readExports_101 (by decide) ?_
            exact ih _ _ _ mo_15 x2_16 1 hP hD hS (lv_sub hl [2, 3, 1, 0] rfl) hf
        · rw [if_neg c_8] at hf
          exact hk56 _ _ _ mo_6 hP hD hS (lv_sub hl [] rfl) hf
      refine lv_if_ge (tgt := 49) hx hb d_Model_readExports_19 (by decide) (fun c_18 => ?_) (fun c_18 => ?_)
      · rw [if_pos c_18] at hf
        exact J49_6 _ _ _ mo_5 hP hD hS (lv_sub hl [1, 2, 3, 4, 0] rfl) hf
      · rw [if_neg c_18] at hf
        refine lv_iload hx hb d_Model_readExports_22 (lv_at hl 0 rfl) ?_
        refine lv_iload_n hx hb d_Model_readExports_24 rfl (lv_at hl 2 rfl) ?_
        refine lv_iload_n hx hb d_Model_readExports_25 rfl (lv_at hl 3 rfl) ?_
        refine lv_isub hx hb d_Model_readExports_26 ?_
        refine lv_icmp_gt (tgt := 43) hx hb d_Model_readExports_27 (by decide) (fun c_19 => ?_) (fun c_19 => ?_)
        · rw [if_pos c_19] at hf
          refine lv_aload_n hx hb d_Model_readExports_43 rfl (lv_at hl 1 rfl) ?_
          refine lv_bipush (v := 6) hx hb d_Model_readExports_44 (by decide) ?_
          refine va_put (D := (dC, dI)) (ci := 7) (v := .int 6) (ty := .int) (C := R_Model) (T := T_Model) (N := 27) hx hb hts in_Model ty_Model tyok_Model nm_Model hown hK hP hD hS 0 rfl rfl 26 (by decide) (hts _ t_850) (fun _ h9 => h9) rfl (by decide +kernel) rfl rfl (Nat.le_of_ble_eq_true rfl) d_Model_readExports_46 (fun H locs hP hD hS => ?_)
          obtain ⟨mo_20, emo_20, hf⟩ := lt_ex hf
          try dsimp only at hf
          have hP : va_P (dC, dI) vwCl (wMo cI cZ cJ mo_a mo_20) H := by rw [emo_20]; exact hP
          have hD : va_D A (wMo cI cZ cJ mo_a mo_20) := by rw [emo_20]; exact hD
          exact J49_6 _ _ _ mo_20 hP hD hS (lv_sub hl [1, 2, 3, 4, 0] rfl) hf
        · rw [if_neg c_19] at hf
          refine lv_iload hx hb d_Model_readExports_30 (lv_at hl 0 rfl) ?_
          refine lv_if_ne (tgt := 49) hx hb d_Model_readExports_32 (by decide) (fun c_22 => ?_) (fun c_22 => ?_)
          · rw [if_neg c_22] at hf
            exact J49_6 _ _ _ mo_5 hP hD hS (lv_sub hl [1, 2, 3, 4, 0] rfl) hf
          · rw [if_pos c_22] at hf
            refine lv_iload_n hx hb d_Model_readExports_35 rfl (lv_at hl 4 rfl) ?_
            refine lv_if_ne (tgt := 43) hx hb d_Model_readExports_36 (by decide) (fun c_23 => ?_) (fun c_23 => ?_)
            · rw [if_neg c_23] at hf
              refine lv_aload_n hx hb d_Model_readExports_43 rfl (lv_at hl 1 rfl) ?_
              refine lv_bipush (v := 6) hx hb d_Model_readExports_44 (by decide) ?_
              refine va_put (D := (dC, dI)) (ci := 7) (v := .int 6) (ty := .int) (C := R_Model) (T := T_Model) (N := 27) hx hb hts in_Model ty_Model tyok_Model nm_Model hown hK hP hD hS 0 rfl rfl 26 (by decide) (hts _ t_850) (fun _ h9 => h9) rfl (by decide +kernel) rfl rfl (Nat.le_of_ble_eq_true rfl) d_Model_readExports_46 (fun H locs hP hD hS => ?_)
              obtain ⟨mo_24, emo_24, hf⟩ := lt_ex hf
              try dsimp only at hf
              have hP : va_P (dC, dI) vwCl (wMo cI cZ cJ mo_a mo_24) H := by rw [emo_24]; exact hP
              have hD : va_D A (wMo cI cZ cJ mo_a mo_24) := by rw [emo_24]; exact hD
              exact J49_6 _ _ _ mo_24 hP hD hS (lv_sub hl [1, 2, 3, 4, 0] rfl) hf
            · rw [if_pos c_23] at hf
              refine lv_iload_n hx hb d_Model_readExports_39 rfl (lv_at hl 3 rfl) ?_
              refine lv_if_le (tgt := 49) hx hb d_Model_readExports_40 (by decide) (fun c_26 => ?_) (fun c_26 => ?_)
              · rw [if_pos c_26] at hf
                exact J49_6 _ _ _ mo_5 hP hD hS (lv_sub hl [1, 2, 3, 4, 0] rfl) hf
              · rw [if_neg c_26] at hf
                refine lv_aload_n hx hb d_Model_readExports_43 rfl (lv_at hl 1 rfl) ?_
                refine lv_bipush (v := 6) hx hb d_Model_readExports_44 (by decide) ?_
                refine va_put (D := (dC, dI)) (ci := 7) (v := .int 6) (ty := .int) (C := R_Model) (T := T_Model) (N := 27) hx hb hts in_Model ty_Model tyok_Model nm_Model hown hK hP hD hS 0 rfl rfl 26 (by decide) (hts _ t_850) (fun _ h9 => h9) rfl (by decide +kernel) rfl rfl (Nat.le_of_ble_eq_true rfl) d_Model_readExports_46 (fun H locs hP hD hS => ?_)
                obtain ⟨mo_27, emo_27, hf⟩ := lt_ex hf
                try dsimp only at hf
                have hP : va_P (dC, dI) vwCl (wMo cI cZ cJ mo_a mo_27) H := by rw [emo_27]; exact hP
                have hD : va_D A (wMo cI cZ cJ mo_a mo_27) := by rw [emo_27]; exact hD
                exact J49_6 _ _ _ mo_27 hP hD hS (lv_sub hl [1, 2, 3, 4, 0] rfl) hf
set_option maxHeartbeats 4000000 in
set_option maxRecDepth 100000 in
theorem B_Model_readExports {cells slots : Nat} {dC : Nat → ClassId} {dI : Nat → Nat → Nat} {cI cZ cJ : ClassId} {mo_a : Nat → Nat} {mo : Mo} {x1 : Int32} {res : Mo} (C0 : cxt p c m s args R cells slots R_Model c_Model_readExports tb 6 (dC, dI) vwCl (TYS cI cZ cJ) A 4 89)
    (hr56 : ∀ (H : Heap) (locs : List Loc) (ls : Array Slot) (mo' : Mo), va_P (dC, dI) vwCl (wMo cI cZ cJ mo_a mo') H → va_D A (wMo cI cZ cJ mo_a mo') → va_S A s.heap H locs → some mo' = some res → W p l e R s m args below meth c H locs cells slots Q (F0 m 56 ls []))
    (hr104 : ∀ (H : Heap) (locs : List Loc) (ls : Array Slot) (mo' : Mo), va_P (dC, dI) vwCl (wMo cI cZ cJ mo_a mo') H → va_D A (wMo cI cZ cJ mo_a mo') → va_S A s.heap H locs → some mo' = some res → W p l e R s m args below meth c H locs cells slots Q (F0 m 104 ls []))
    {H : Heap} {locs : List Loc} {ls : Array Slot} (hP : va_P (dC, dI) vwCl (wMo cI cZ cJ mo_a mo) H) (hD : va_D A (wMo cI cZ cJ mo_a mo)) (hS : va_S A s.heap H locs) (hl : lv_has ls 6 [(0, .ref (mo_a 0)), (1, .int x1)]) (hf : f_Model_readExports mo x1 = some res) : W p l e R s m args below meth c H locs cells slots Q (F0 m 0 ls []) := by
  obtain ⟨hx, hb, hml, hown, hts, hK, hA, hRf, hRl, hN, hRc⟩ := id C0
  rw [f_Model_readExports] at hf
  refine lv_iconst (v := 0) hx hb d_Model_readExports_0 (by decide) ?_
  refine lv_istore_n (lv' := [(2, .int 0), (0, .ref (mo_a 0)), (1, .int x1)]) hx hb d_Model_readExports_1 rfl hl (by decide) rfl (fun ls hl => ?_)
  refine lv_iconst (v := 0) hx hb d_Model_readExports_2 (by decide) ?_
  refine lv_istore_n (lv' := [(3, .int 0), (2, .int 0), (0, .ref (mo_a 0)), (1, .int x1)]) hx hb d_Model_readExports_3 rfl hl (by decide) rfl (fun ls hl => ?_)
  refine L_Model_readExports_4 C0 (fun H locs ls mo_29 hP hD hS hl hf => ?_) (fun H locs ls mo_30 hP hD hS hl hf => ?_) 100000 _ _ _ mo 0 0 hP hD hS (lv_sub hl [2, 3, 1, 0] rfl) hf
  · try dsimp only at hf
    exact hr56 _ _ _ mo_29 hP hD hS hf
  · try dsimp only at hf
    exact hr104 _ _ _ mo_30 hP hD hS hf
end
set_option maxHeartbeats 4000000 in
set_option maxRecDepth 100000 in
theorem k_Model_readExports (l : Launch) (dC : Nat → ClassId) (dI : Nat → Nat → Nat) (cI cZ cJ : ClassId) (mo_a : Nat → Nat) (sz : Nat) {mo : Mo} {x1 : Int32} {mo' : Mo} (hf : f_Model_readExports mo x1 = some mo') :
    Met l y_Model_readExports ws_Model_readExports ({ frames := 4, cells := 0, slots := 0, locals := 89 }) (va_Pc [.ref (mo_a 0), .int x1] (kP (dC, dI) vwCl (TYS cI cZ cJ) (wMo cI cZ cJ mo_a mo) sz)) (va_Qv (fun (_ : Unit) => True) (fun _ t => kQ (dC, dI) vwCl (TYS cI cZ cJ) (wMo cI cZ cJ mo_a mo) sz (wMo cI cZ cJ mo_a mo') t) (va_A (wMo cI cZ cJ mo_a mo) sz)) 0 0 (va_A (wMo cI cZ cJ mo_a mo) sz) := by
  refine Met.ofW (cc := c_Model_readExports) (maxL := 6) (ret := none) (by decide) rfl ?_
  intro p e s m args below meth c s₁ B hml hv
  obtain ⟨rfl, hsz, hP, hK, hD0, hN⟩ := hv
  have hr := B.returns
  have hlocks := B.notSynchronized
  subst hsz
  have hD := hD0.self (sz := s.heap.size)
  have hl := lv_entry ([.ref (mo_a 0), .int x1]) (n := 6) (Nat.le_of_ble_eq_true rfl)
  rw [lg_entry_eq]
  generalize (lg_sl ([.ref (mo_a 0), .int x1]) ++ List.replicate (6 - (lg_sl ([.ref (mo_a 0), .int x1])).length) Slot.unset).toArray = ls at hl ⊢
  refine B_Model_readExports (A := va_A (wMo cI cZ cJ mo_a mo) s.heap.size) ⟨B.exec, B.bytes, hml, findClass_of_methodNamed B.named, fun w h => atoms_spec (ws := ws_Model_readExports) B.pre w (List.mem_cons_of_mem _ h), hK, fun q h => Or.inr h, Nat.le_of_ble_eq_true rfl, Nat.le_of_ble_eq_true rfl, hN, Nat.le_of_ble_eq_true rfl, Nat.le_of_ble_eq_true rfl⟩ (fun H locs ls mo'1 hP hD hS hf => ?_) (fun H locs ls mo'1 hP hD hS hf => ?_) hP hD va_S.rf hl hf
  · cases hf
    exact W.vret B.exec B.bytes hr (fun t ht hW => ⟨⟨(), rfl, trivial, ⟨by rw [ht]; exact hP, va_K.moved hW.alike hK, hD⟩⟩, hS.F ht⟩) hS.2.2 d_Model_readExports_56
  · cases hf
    exact W.vret B.exec B.bytes hr (fun t ht hW => ⟨⟨(), rfl, trivial, ⟨by rw [ht]; exact hP, va_K.moved hW.alike hK, hD⟩⟩, hS.F ht⟩) hS.2.2 d_Model_readExports_104

/-! Model_read -/
def l_Model_read_26 (k62 : Mo → Option (Int32 × Mo)) : Nat → Mo → Int32 → Option (Int32 × Mo)
  | 0, _, _ => none
  | n + 1, mo, x1 => (if 4 ≤ x1 then k62 mo else (if (Mo_kind mo) = 2 then bd (f_Model_inByte mo) <| fun (r_13, mo_14) => lt' (Mo_s_tk mo_14 (((Mo_tk mo) <<< ((8 : Int32).toInt64 &&& 63)) ||| r_13.toInt64)) <| fun mo_15 => lt' (x1 + 1) <| fun x1_17 => (l_Model_read_26 k62 n) mo_15 x1_17 else k62 mo))
def l_Model_read_228 (x2 : Int32) (x3 : Int32) (k265 : Mo → Option (Int32 × Mo)) : Nat → Mo → Int32 → Option (Int32 × Mo)
  | 0, _, _ => none
  | n + 1, mo, x4 => (if 16 ≤ x4 then k265 mo else gd (inb ((16 * x3) + x4) 1280) <| gd (inb ((16 * x2) + x4) 1280) <| lt' (Mo_s_rw mo (upd (Mo_rw mo) ((16 * x2) + x4).toNatClampNeg (Mo_rw mo ((16 * x3) + x4).toNatClampNeg))) <| fun mo_65 => lt' (x4 + 1) <| fun x4_67 => (l_Model_read_228 x2 x3 k265 n) mo_65 x4_67)
def l_Model_read_140 (k271 : Mo → Option (Int32 × Mo)) : Nat → Mo → Int32 → Option (Int32 × Mo)
  | 0, _, _ => none
  | n + 1, mo, x2 => (if (Mo_n mo) ≤ x2 then k271 mo else lt' (40 + x2) <| fun x3_36 => gd (inb x3_36 80) <| gd (inb x2 80) <| lt' (Mo_s_wd mo (upd (Mo_wd mo) x2.toNatClampNeg (Mo_wd mo x3_36.toNatClampNeg))) <| fun mo_39 => gd (inb x3_36 80) <| gd (inb x2 80) <| lt' (Mo_s_ht mo_39 (upd (Mo_ht mo_39) x2.toNatClampNeg (Mo_ht mo_39 x3_36.toNatClampNeg))) <| fun mo_43 => gd (inb x3_36 80) <| gd (inb x2 80) <| lt' (Mo_s_ex mo_43 (upd (Mo_ex mo_43) x2.toNatClampNeg (vp_nar .boolean (Mo_ex mo_43 x3_36.toNatClampNeg)))) <| fun mo_47 => gd (inb x3_36 80) <| gd (inb x2 80) <| lt' (Mo_s_bs mo_47 (upd (Mo_bs mo_47) x2.toNatClampNeg (Mo_bs mo_47 x3_36.toNatClampNeg))) <| fun mo_51 => gd (inb x3_36 80) <| gd (inb x2 80) <| lt' (Mo_s_dx mo_51 (upd (Mo_dx mo_51) x2.toNatClampNeg (Mo_dx mo_51 x3_36.toNatClampNeg))) <| fun mo_55 => gd (inb x3_36 80) <| gd (inb x2 80) <| lt' (Mo_s_dy mo_55 (upd (Mo_dy mo_55) x2.toNatClampNeg (Mo_dy mo_55 x3_36.toNatClampNeg))) <| fun mo_59 => l_Model_read_228 x2 x3_36 (fun mo_68 => lt' (x2 + 1) <| fun x2_69 => (l_Model_read_140 k271 n) mo_68 x2_69) 100000 mo_59 0)
def j_Model_read_109_26 (r_19 : Int32) (mo_25 : Mo) : Option (Int32 × Mo) := lt' (Mo_s_inn mo_25 0) <| fun mo_27 => (if (Mo_why mo_27) < 0 then lt' (Mo_s_n mo_27 r_19) <| fun mo_30 => lt' (Mo_s_cl mo_30 0) <| fun mo_32 => l_Model_read_140 (fun mo_70 => some (Mo_n mo_70, mo_70)) 100000 mo_32 0 else some ((-1) - (Mo_why mo_27), mo_27))
def j_Model_read_97_24 (r_19 : Int32) (mo_23 : Mo) : Option (Int32 × Mo) := (if 0 ≤ (Mo_why mo_23) then j_Model_read_109_26 r_19 mo_23 else bd (f_Model_readExports mo_23 r_19) <| fun mo_72 => j_Model_read_109_26 r_19 mo_72)
def j_Model_read_85_22 (r_19 : Int32) (mo_21 : Mo) : Option (Int32 × Mo) := (if 0 ≤ (Mo_why mo_21) then j_Model_read_97_24 r_19 mo_21 else bd (f_Model_readClasses mo_21 r_19) <| fun mo_74 => j_Model_read_97_24 r_19 mo_74)
def f_Model_read (mo : Mo) : Option (Int32 × Mo) := lt' (Mo_s_code mo 0) <| fun mo_1 => lt' (Mo_s_why mo_1 (-1)) <| fun mo_3 => lt' (Mo_s_ia mo_3 0) <| fun mo_5 => bd (f_Model_beginBits mo_5) <| fun mo_7 => lt' (Mo_s_tk mo_7 0) <| fun mo_8 => l_Model_read_26 (fun mo_18 => bd (f_Model_takeNumber mo_18) <| fun (r_19, mo_20) => (if 0 ≤ (Mo_why mo_20) then j_Model_read_85_22 r_19 mo_20 else (if r_19 ≤ 40 then j_Model_read_85_22 r_19 mo_20 else lt' (Mo_s_why mo_20 0) <| fun mo_77 => j_Model_read_85_22 r_19 mo_77))) 100000 mo_8 0
section
variable {p : Program} {l : Launch} {e : Env} {R : Room} {s : State} {m : MethodId} {args : Array Value} {below : List Frame} {meth : Method} {c : Code} {Q : State → Prop} {A : Nat → Prop}
set_option maxHeartbeats 4000000 in
set_option maxRecDepth 100000 in
theorem L_Model_read_26 {cells slots : Nat} {dC : Nat → ClassId} {dI : Nat → Nat → Nat} {cI cZ cJ : ClassId} {mo_a : Nat → Nat} {k62 : Mo → Option (Int32 × Mo)} {res : Int32 × Mo} (C0 : cxt p c m s args R cells slots R_Model c_Model_read tb 5 (dC, dI) vwCl (TYS cI cZ cJ) A 7 168)
    (hk62 : ∀ (H : Heap) (locs : List Loc) (ls : Array Slot) (mo_10 : Mo), va_P (dC, dI) vwCl (wMo cI cZ cJ mo_a mo_10) H → va_D A (wMo cI cZ cJ mo_a mo_10) → va_S A s.heap H locs → lv_has ls 5 [(0, .ref (mo_a 0))] → k62 mo_10 = some res → W p l e R s m args below meth c H locs cells slots Q (F0 m 62 ls [])) :
    ∀ (n : Nat) (H : Heap) (locs : List Loc) (ls : Array Slot) (mo : Mo) (x1 : Int32), va_P (dC, dI) vwCl (wMo cI cZ cJ mo_a mo) H → va_D A (wMo cI cZ cJ mo_a mo) → va_S A s.heap H locs → lv_has ls 5 [(0, .ref (mo_a 0)), (1, .int x1)] → l_Model_read_26 k62 n mo x1 = some res → W p l e R s m args below meth c H locs cells slots Q (F0 m 26 ls []) := by
  obtain ⟨hx, hb, hml, hown, hts, hK, hA, hRf, hRl, hN, hRc⟩ := id C0
  intro n
  induction n with
  | zero =>
    intro H locs ls mo x1 hP hD hS hl hf
    exact absurd hf (by simp [l_Model_read_26])
  | succ n ih =>
    intro H locs ls mo x1 hP hD hS hl hf
    rw [l_Model_read_26] at hf
    refine lv_iload_n hx hb d_Model_read_26 rfl (lv_at hl 1 rfl) ?_
    refine lv_iconst (v := 4) hx hb d_Model_read_27 (by decide) ?_
    refine lv_icmp_ge (tgt := 62) hx hb d_Model_read_28 (by decide) (fun c_11 => ?_) (fun c_11 => ?_)
    · rw [if_pos c_11] at hf
      exact hk62 _ _ _ mo hP hD hS (lv_sub hl [0] rfl) hf
    · rw [if_neg c_11] at hf
      refine lv_aload_n hx hb d_Model_read_31 rfl (lv_at hl 0 rfl) ?_
      refine va_get (D := (dC, dI)) (ci := 7) (v := .int (Mo_kind mo)) (C := R_Model) (T := T_Model) (N := 27) hx hb hts in_Model hown hK hP 0 rfl rfl 1 (by decide) (hts _ t_825) (fun _ h9 => h9) rfl d_Model_read_32 ?_
      refine lv_iconst (v := 2) hx hb d_Model_read_35 (by decide) ?_
      refine lv_icmp_ne (tgt := 62) hx hb d_Model_read_36 (by decide) (fun c_12 => ?_) (fun c_12 => ?_)
      · rw [if_neg c_12] at hf
        exact hk62 _ _ _ mo hP hD hS (lv_sub hl [0] rfl) hf
      · rw [if_pos c_12] at hf
        refine lv_aload_n hx hb d_Model_read_39 rfl (lv_at hl 0 rfl) ?_
        refine lv_aload_n hx hb d_Model_read_40 rfl (lv_at hl 0 rfl) ?_
        refine va_get (D := (dC, dI)) (ci := 7) (v := .long (Mo_tk mo)) (C := R_Model) (T := T_Model) (N := 27) hx hb hts in_Model hown hK hP 0 rfl rfl 24 (by decide) (hts _ t_848) (fun _ h9 => h9) rfl d_Model_read_41 ?_
        refine lv_bipush (v := 8) hx hb d_Model_read_44 (by decide) ?_
        refine lv_lshl (v := (Mo_tk mo) <<< ((8 : Int32).toInt64 &&& 63)) hx hb d_Model_read_46 rfl ?_
        refine lv_aload_n hx hb d_Model_read_47 rfl (lv_at hl 0 rfl) ?_
        obtain ⟨⟨r_13, mo_14⟩, hf1, hf⟩ := bd_ex hf
        try dsimp only at hf
        have hPc := hP.sub (ws' := (wMo cI cZ cJ mo_a mo)) [0, 1, 2, 3, 4, 5, 6, 7, 8, 9, 10, 11, 12, 13, 14, 15] rfl
        have hDc := hD.sub (ws' := (wMo cI cZ cJ mo_a mo)) [0, 1, 2, 3, 4, 5, 6, 7, 8, 9, 10, 11, 12, 13, 14, 15] (by decide) rfl
        have hFc := va_free (wc := (wMo cI cZ cJ mo_a mo)) hD hS hA [0, 1, 2, 3, 4, 5, 6, 7, 8, 9, 10, 11, 12, 13, 14, 15] rfl
        refine va_calli (va_runV (As := []) (rest := [.long ((Mo_tk mo) <<< ((8 : Int32).toInt64 &&& 63)), .ref (mo_a 0)]) ⟨hx, hb, hml, hown, hts⟩ (k_Model_inByte l dC dI cI cZ cJ mo_a H.size hf1) (cwV 0 hts (gV t_1051 t_1053 t_44 t_63 t_1054) rfl rfl rfl hd_Model_inByte ⟨Nat.le_trans (Nat.le_of_ble_eq_true rfl) hRf, Nat.le_trans (Nat.le_of_ble_eq_true rfl) hRl⟩) ⟨kP_blind, va_recv hK hP (ci := 7) (q0 := 0) rfl rfl, kP_at hPc hK hDc hN⟩ rfl rfl hl.1 rfl (lv_room (Nat.le_of_ble_eq_true rfl)) d_Model_read_48 hRc) hS (fun q _ h => hFc q h) hFc (fun r9 u t H1 locs ht hvm hw hB hz1 hk1 hS => ?_)
        rw [hw]
        obtain ⟨hP, hD⟩ := kQ_join (wr := ([] : va_W)) (w1 := (wMo cI cZ cJ mo_a mo_14)) hP hD [0, 1, 2, 3, 4, 5, 6, 7, 8, 9, 10, 11, 12, 13, 14, 15] [] rfl rfl (by decide) (by decide) ht hk1 hFc hB
        generalize H1 = H at hP hS ⊢
        have hP : va_P (dC, dI) vwCl (wMo cI cZ cJ mo_a mo_14) H := hP.sub [0, 1, 2, 3, 4, 5, 6, 7, 8, 9, 10, 11, 12, 13, 14, 15] rfl
        have hD : va_D A (wMo cI cZ cJ mo_a mo_14) := hD.sub [0, 1, 2, 3, 4, 5, 6, 7, 8, 9, 10, 11, 12, 13, 14, 15] (by decide) rfl
        refine lv_i2l (v := r_13.toInt64) hx hb d_Model_read_51 rfl ?_
        refine lv_lor hx hb d_Model_read_52 ?_
        refine va_put (D := (dC, dI)) (ci := 7) (v := .long (((Mo_tk mo) <<< ((8 : Int32).toInt64 &&& 63)) ||| r_13.toInt64)) (ty := .long) (C := R_Model) (T := T_Model) (N := 27) hx hb hts in_Model ty_Model tyok_Model nm_Model hown hK hP hD hS 0 rfl rfl 24 (by decide) (hts _ t_848) (fun _ h9 => h9) rfl (by decide +kernel) rfl rfl (Nat.le_of_ble_eq_true rfl) d_Model_read_53 (fun H locs hP hD hS => ?_)
        obtain ⟨mo_15, emo_15, hf⟩ := lt_ex hf
        try dsimp only at hf
        have hP : va_P (dC, dI) vwCl (wMo cI cZ cJ mo_a mo_15) H := by rw [emo_15]; exact hP
        have hD : va_D A (wMo cI cZ cJ mo_a mo_15) := by rw [emo_15]; exact hD
        obtain ⟨x1_17, ex1_17, hf⟩ := lt_ex hf
        try dsimp only at hf
        refine lv_iinc (v := x1_17) (lv' := [(1, .int x1_17), (0, .ref (mo_a 0))]) hx hb d_Model_read_56 hl (k := 1) rfl (by rw [ex1_17]; rfl) (by decide) rfl (fun ls hl => ?_)
        refine lv_goto (tgt := 26) hx hb d_Model_read_59 (by decide) ?_
        exact ih _ _ _ mo_15 x1_17 hP hD hS (lv_sub hl [1, 0] rfl) hf
set_option maxHeartbeats 4000000 in
set_option maxRecDepth 100000 in
theorem L_Model_read_228 {cells slots : Nat} {dC : Nat → ClassId} {dI : Nat → Nat → Nat} {cI cZ cJ : ClassId} {mo_a : Nat → Nat} {x2 : Int32} {x3 : Int32} {k265 : Mo → Option (Int32 × Mo)} {res : Int32 × Mo} (C0 : cxt p c m s args R cells slots R_Model c_Model_read tb 5 (dC, dI) vwCl (TYS cI cZ cJ) A 7 168)
    (hk265 : ∀ (H : Heap) (locs : List Loc) (ls : Array Slot) (mo_61 : Mo), va_P (dC, dI) vwCl (wMo cI cZ cJ mo_a mo_61) H → va_D A (wMo cI cZ cJ mo_a mo_61) → va_S A s.heap H locs → lv_has ls 5 [(0, .ref (mo_a 0)), (2, .int x2)] → k265 mo_61 = some res → W p l e R s m args below meth c H locs cells slots Q (F0 m 265 ls [])) :
    ∀ (n : Nat) (H : Heap) (locs : List Loc) (ls : Array Slot) (mo : Mo) (x4 : Int32), va_P (dC, dI) vwCl (wMo cI cZ cJ mo_a mo) H → va_D A (wMo cI cZ cJ mo_a mo) → va_S A s.heap H locs → lv_has ls 5 [(0, .ref (mo_a 0)), (2, .int x2), (3, .int x3), (4, .int x4)] → l_Model_read_228 x2 x3 k265 n mo x4 = some res → W p l e R s m args below meth c H locs cells slots Q (F0 m 228 ls []) := by
  obtain ⟨hx, hb, hml, hown, hts, hK, hA, hRf, hRl, hN, hRc⟩ := id C0
  intro n
  induction n with
  | zero =>
    intro H locs ls mo x4 hP hD hS hl hf
    exact absurd hf (by simp [l_Model_read_228])
  | succ n ih =>
    intro H locs ls mo x4 hP hD hS hl hf
    rw [l_Model_read_228] at hf
    refine lv_iload hx hb d_Model_read_228 (lv_at hl 3 rfl) ?_
    refine lv_bipush (v := 16) hx hb d_Model_read_230 (by decide) ?_
    refine lv_icmp_ge (tgt := 265) hx hb d_Model_read_232 (by decide) (fun c_62 => ?_) (fun c_62 => ?_)
    · rw [if_pos c_62] at hf
      exact hk265 _ _ _ mo hP hD hS (lv_sub hl [0, 1] rfl) hf
    · rw [if_neg c_62] at hf
      refine lv_aload_n hx hb d_Model_read_235 rfl (lv_at hl 0 rfl) ?_
      refine va_get (D := (dC, dI)) (ci := 7) (v := .ref (mo_a 3)) (C := R_Model) (T := T_Model) (N := 27) hx hb hts in_Model hown hK hP 0 rfl rfl 5 (by decide) (hts _ t_829) (fun _ h9 => h9) rfl d_Model_read_236 ?_
      refine lv_bipush (v := 16) hx hb d_Model_read_239 (by decide) ?_
      refine lv_iload_n hx hb d_Model_read_241 rfl (lv_at hl 1 rfl) ?_
      refine lv_imul hx hb d_Model_read_242 ?_
      refine lv_iload hx hb d_Model_read_243 (lv_at hl 3 rfl) ?_
      refine lv_iadd hx hb d_Model_read_245 ?_
      refine lv_aload_n hx hb d_Model_read_246 rfl (lv_at hl 0 rfl) ?_
      refine va_get (D := (dC, dI)) (ci := 7) (v := .ref (mo_a 3)) (C := R_Model) (T := T_Model) (N := 27) hx hb hts in_Model hown hK hP 0 rfl rfl 5 (by decide) (hts _ t_829) (fun _ h9 => h9) rfl d_Model_read_247 ?_
      refine lv_bipush (v := 16) hx hb d_Model_read_250 (by decide) ?_
      refine lv_iload_n hx hb d_Model_read_252 rfl (lv_at hl 2 rfl) ?_
      refine lv_imul hx hb d_Model_read_253 ?_
      refine lv_iload hx hb d_Model_read_254 (lv_at hl 3 rfl) ?_
      refine lv_iadd hx hb d_Model_read_256 ?_
      obtain ⟨h_63, hf⟩ := gd_ex hf
      refine va_iald (f := Mo_rw mo) hx hb hK hP 3 0 rfl rfl (inb_in h_63) d_Model_read_257 ?_
      obtain ⟨h_64, hf⟩ := gd_ex hf
      refine va_iast (f := Mo_rw mo) hx hb hK hP hD hS 3 0 rfl rfl (inb_in h_64) d_Model_read_258 (fun H locs hP hD hS => ?_)
      obtain ⟨mo_65, emo_65, hf⟩ := lt_ex hf
      try dsimp only at hf
      have hP : va_P (dC, dI) vwCl (wMo cI cZ cJ mo_a mo_65) H := by rw [emo_65]; exact hP
      have hD : va_D A (wMo cI cZ cJ mo_a mo_65) := by rw [emo_65]; exact hD
      obtain ⟨x4_67, ex4_67, hf⟩ := lt_ex hf
      try dsimp only at hf
      refine lv_iinc (v := x4_67) (lv' := [(4, .int x4_67), (0, .ref (mo_a 0)), (2, .int x2), (3, .int x3)]) hx hb d_Model_read_259 hl (k := 3) rfl (by rw [ex4_67]; rfl) (by decide) rfl (fun ls hl => ?_)
      refine lv_goto (tgt := 228) hx hb d_Model_read_262 (by decide) ?_
      exact ih _ _ _ mo_65 x4_67 hP hD hS (lv_sub hl [1, 2, 3, 0] rfl) hf
set_option maxHeartbeats 4000000 in
set_option maxRecDepth 100000 in
theorem L_Model_read_140 {cells slots : Nat} {dC : Nat → ClassId} {dI : Nat → Nat → Nat} {cI cZ cJ : ClassId} {mo_a : Nat → Nat} {k271 : Mo → Option (Int32 × Mo)} {res : Int32 × Mo} (C0 : cxt p c m s args R cells slots R_Model c_Model_read tb 5 (dC, dI) vwCl (TYS cI cZ cJ) A 7 168)
    (hk271 : ∀ (H : Heap) (locs : List Loc) (ls : Array Slot) (mo_34 : Mo), va_P (dC, dI) vwCl (wMo cI cZ cJ mo_a mo_34) H → va_D A (wMo cI cZ cJ mo_a mo_34) → va_S A s.heap H locs → lv_has ls 5 [(0, .ref (mo_a 0))] → k271 mo_34 = some res → W p l e R s m args below meth c H locs cells slots Q (F0 m 271 ls [])) :
    ∀ (n : Nat) (H : Heap) (locs : List Loc) (ls : Array Slot) (mo : Mo) (x2 : Int32), va_P (dC, dI) vwCl (wMo cI cZ cJ mo_a mo) H → va_D A (wMo cI cZ cJ mo_a mo) → va_S A s.heap H locs → lv_has ls 5 [(0, .ref (mo_a 0)), (2, .int x2)] → l_Model_read_140 k271 n mo x2 = some res → W p l e R s m args below meth c H locs cells slots Q (F0 m 140 ls []) := by
  obtain ⟨hx, hb, hml, hown, hts, hK, hA, hRf, hRl, hN, hRc⟩ := id C0
  intro n
  induction n with
  | zero =>
    intro H locs ls mo x2 hP hD hS hl hf
    exact absurd hf (by simp [l_Model_read_140])
  | succ n ih =>
    intro H locs ls mo x2 hP hD hS hl hf
    rw [l_Model_read_140] at hf
    refine lv_iload_n hx hb d_Model_read_140 rfl (lv_at hl 1 rfl) ?_
    refine lv_aload_n hx hb d_Model_read_141 rfl (lv_at hl 0 rfl) ?_
    refine va_get (D := (dC, dI)) (ci := 7) (v := .int (Mo_n mo)) (C := R_Model) (T := T_Model) (N := 27) hx hb hts in_Model hown hK hP 0 rfl rfl 2 (by decide) (hts _ t_826) (fun _ h9 => h9) rfl d_Model_read_142 ?_
    refine lv_icmp_ge (tgt := 271) hx hb d_Model_read_145 (by decide) (fun c_35 => ?_) (fun c_35 => ?_)
    · rw [if_pos c_35] at hf
      exact hk271 _ _ _ mo hP hD hS (lv_sub hl [0] rfl) hf
    · rw [if_neg c_35] at hf
      refine lv_bipush (v := 40) hx hb d_Model_read_148 (by decide) ?_
      refine lv_iload_n hx hb d_Model_read_150 rfl (lv_at hl 1 rfl) ?_
      refine lv_iadd hx hb d_Model_read_151 ?_
      obtain ⟨x3_36, ex3_36, hf⟩ := lt_ex hf
      try dsimp only at hf
      refine tp_i ex3_36 ?_
      refine lv_istore_n (lv' := [(3, .int x3_36), (0, .ref (mo_a 0)), (2, .int x2)]) hx hb d_Model_read_152 rfl hl (by decide) rfl (fun ls hl => ?_)
      refine lv_aload_n hx hb d_Model_read_153 rfl (lv_at hl 1 rfl) ?_
      refine va_get (D := (dC, dI)) (ci := 7) (v := .ref (mo_a 1)) (C := R_Model) (T := T_Model) (N := 27) hx hb hts in_Model hown hK hP 0 rfl rfl 3 (by decide) (hts _ t_827) (fun _ h9 => h9) rfl d_Model_read_154 ?_
      refine lv_iload_n hx hb d_Model_read_157 rfl (lv_at hl 2 rfl) ?_
      refine lv_aload_n hx hb d_Model_read_158 rfl (lv_at hl 1 rfl) ?_
      refine va_get (D := (dC, dI)) (ci := 7) (v := .ref (mo_a 1)) (C := R_Model) (T := T_Model) (N := 27) hx hb hts in_Model hown hK hP 0 rfl rfl 3 (by decide) (hts _ t_827) (fun _ h9 => h9) rfl d_Model_read_159 ?_
      refine lv_iload_n hx hb d_Model_read_162 rfl (lv_at hl 0 rfl) ?_
      obtain ⟨h_37, hf⟩ := gd_ex hf
      refine va_iald (f := Mo_wd mo) hx hb hK hP 1 0 rfl rfl (inb_in h_37) d_Model_read_163 ?_
      obtain ⟨h_38, hf⟩ := gd_ex hf
      refine va_iast (f := Mo_wd mo) hx hb hK hP hD hS 1 0 rfl rfl (inb_in h_38) d_Model_read_164 (fun H locs hP hD hS => ?_)
      obtain ⟨mo_39, emo_39, hf⟩ := lt_ex hf
      try dsimp only at hf
      have hP : va_P (dC, dI) vwCl (wMo cI cZ cJ mo_a mo_39) H := by rw [emo_39]; exact hP
      have hD : va_D A (wMo cI cZ cJ mo_a mo_39) := by rw [emo_39]; exact hD
      refine lv_aload_n hx hb d_Model_read_165 rfl (lv_at hl 1 rfl) ?_
      refine va_get (D := (dC, dI)) (ci := 7) (v := .ref (mo_a 2)) (C := R_Model) (T := T_Model) (N := 27) hx hb hts in_Model hown hK hP 0 rfl rfl 4 (by decide) (hts _ t_828) (fun _ h9 => h9) rfl d_Model_read_166 ?_
      refine lv_iload_n hx hb d_Model_read_169 rfl (lv_at hl 2 rfl) ?_
      refine lv_aload_n hx hb d_Model_read_170 rfl (lv_at hl 1 rfl) ?_
      refine va_get (D := (dC, dI)) (ci := 7) (v := .ref (mo_a 2)) (C := R_Model) (T := T_Model) (N := 27) hx hb hts in_Model hown hK hP 0 rfl rfl 4 (by decide) (hts _ t_828) (fun _ h9 => h9) rfl d_Model_read_171 ?_
      refine lv_iload_n hx hb d_Model_read_174 rfl (lv_at hl 0 rfl) ?_
      obtain ⟨h_41, hf⟩ := gd_ex hf
      refine va_iald (f := Mo_ht mo_39) hx hb hK hP 2 0 rfl rfl (inb_in h_41) d_Model_read_175 ?_
      obtain ⟨h_42, hf⟩ := gd_ex hf
      refine va_iast (f := Mo_ht mo_39) hx hb hK hP hD hS 2 0 rfl rfl (inb_in h_42) d_Model_read_176 (fun H locs hP hD hS => ?_)
      obtain ⟨mo_43, emo_43, hf⟩ := lt_ex hf
      try dsimp only at hf
      have hP : va_P (dC, dI) vwCl (wMo cI cZ cJ mo_a mo_43) H := by rw [emo_43]; exact hP
      have hD : va_D A (wMo cI cZ cJ mo_a mo_43) := by rw [emo_43]; exact hD
      refine lv_aload_n hx hb d_Model_read_177 rfl (lv_at hl 1 rfl) ?_
      refine va_get (D := (dC, dI)) (ci := 7) (v := .ref (mo_a 4)) (C := R_Model) (T := T_Model) (N := 27) hx hb hts in_Model hown hK hP 0 rfl rfl 6 (by decide) (hts _ t_830) (fun _ h9 => h9) rfl d_Model_read_178 ?_
      refine lv_iload_n hx hb d_Model_read_181 rfl (lv_at hl 2 rfl) ?_
      refine lv_aload_n hx hb d_Model_read_182 rfl (lv_at hl 1 rfl) ?_
      refine va_get (D := (dC, dI)) (ci := 7) (v := .ref (mo_a 4)) (C := R_Model) (T := T_Model) (N := 27) hx hb hts in_Model hown hK hP 0 rfl rfl 6 (by decide) (hts _ t_830) (fun _ h9 => h9) rfl d_Model_read_183 ?_
      refine lv_iload_n hx hb d_Model_read_186 rfl (lv_at hl 0 rfl) ?_
      obtain ⟨h_45, hf⟩ := gd_ex hf
      refine va_zald (f := Mo_ex mo_43) hx hb hK hP 4 1 rfl rfl (inb_in h_45) d_Model_read_187 ?_
      obtain ⟨h_46, hf⟩ := gd_ex hf
      refine va_zast (f := Mo_ex mo_43) hx hb hK hP hD hS 4 1 rfl rfl (inb_in h_46) d_Model_read_188 (fun H locs hP hD hS => ?_)
      obtain ⟨mo_47, emo_47, hf⟩ := lt_ex hf
      try dsimp only at hf
      have hP : va_P (dC, dI) vwCl (wMo cI cZ cJ mo_a mo_47) H := by rw [emo_47]; exact hP
      have hD : va_D A (wMo cI cZ cJ mo_a mo_47) := by rw [emo_47]; exact hD
      refine lv_aload_n hx hb d_Model_read_189 rfl (lv_at hl 1 rfl) ?_
      refine va_get (D := (dC, dI)) (ci := 7) (v := .ref (mo_a 5)) (C := R_Model) (T := T_Model) (N := 27) hx hb hts in_Model hown hK hP 0 rfl rfl 7 (by decide) (hts _ t_831) (fun _ h9 => h9) rfl d_Model_read_190 ?_
      refine lv_iload_n hx hb d_Model_read_193 rfl (lv_at hl 2 rfl) ?_
      refine lv_aload_n hx hb d_Model_read_194 rfl (lv_at hl 1 rfl) ?_
      refine va_get (D := (dC, dI)) (ci := 7) (v := .ref (mo_a 5)) (C := R_Model) (T := T_Model) (N := 27) hx hb hts in_Model hown hK hP 0 rfl rfl 7 (by decide) (hts _ t_831) (fun _ h9 => h9) rfl d_Model_read_195 ?_
      refine lv_iload_n hx hb d_Model_read_198 rfl (lv_at hl 0 rfl) ?_
      obtain ⟨h_49, hf⟩ := gd_ex hf
      refine va_iald (f := Mo_bs mo_47) hx hb hK hP 5 0 rfl rfl (inb_in h_49) d_Model_read_199 ?_
      obtain ⟨h_50, hf⟩ := gd_ex hf
      refine va_iast (f := Mo_bs mo_47) hx hb hK hP hD hS 5 0 rfl rfl (inb_in h_50) d_Model_read_200 (fun H locs hP hD hS => ?_)
      obtain ⟨mo_51, emo_51, hf⟩ := lt_ex hf
      try dsimp only at hf
      have hP : va_P (dC, dI) vwCl (wMo cI cZ cJ mo_a mo_51) H := by rw [emo_51]; exact hP
      have hD : va_D A (wMo cI cZ cJ mo_a mo_51) := by rw [emo_51]; exact hD
      refine lv_aload_n hx hb d_Model_read_201 rfl (lv_at hl 1 rfl) ?_
      refine va_get (D := (dC, dI)) (ci := 7) (v := .ref (mo_a 6)) (C := R_Model) (T := T_Model) (N := 27) hx hb hts in_Model hown hK hP 0 rfl rfl 8 (by decide) (hts _ t_832) (fun _ h9 => h9) rfl d_Model_read_202 ?_
      refine lv_iload_n hx hb d_Model_read_205 rfl (lv_at hl 2 rfl) ?_
      refine lv_aload_n hx hb d_Model_read_206 rfl (lv_at hl 1 rfl) ?_
      refine va_get (D := (dC, dI)) (ci := 7) (v := .ref (mo_a 6)) (C := R_Model) (T := T_Model) (N := 27) hx hb hts in_Model hown hK hP 0 rfl rfl 8 (by decide) (hts _ t_832) (fun _ h9 => h9) rfl d_Model_read_207 ?_
      refine lv_iload_n hx hb d_Model_read_210 rfl (lv_at hl 0 rfl) ?_
      obtain ⟨h_53, hf⟩ := gd_ex hf
      refine va_iald (f := Mo_dx mo_51) hx hb hK hP 6 0 rfl rfl (inb_in h_53) d_Model_read_211 ?_
      obtain ⟨h_54, hf⟩ := gd_ex hf
      refine va_iast (f := Mo_dx mo_51) hx hb hK hP hD hS 6 0 rfl rfl (inb_in h_54) d_Model_read_212 (fun H locs hP hD hS => ?_)
      obtain ⟨mo_55, emo_55, hf⟩ := lt_ex hf
      try dsimp only at hf
      have hP : va_P (dC, dI) vwCl (wMo cI cZ cJ mo_a mo_55) H := by rw [emo_55]; exact hP
      have hD : va_D A (wMo cI cZ cJ mo_a mo_55) := by rw [emo_55]; exact hD
      refine lv_aload_n hx hb d_Model_read_213 rfl (lv_at hl 1 rfl) ?_
      refine va_get (D := (dC, dI)) (ci := 7) (v := .ref (mo_a 7)) (C := R_Model) (T := T_Model) (N := 27) hx hb hts in_Model hown hK hP 0 rfl rfl 9 (by decide) (hts _ t_833) (fun _ h9 => h9) rfl d_Model_read_214 ?_
      refine lv_iload_n hx hb d_Model_read_217 rfl (lv_at hl 2 rfl) ?_
      refine lv_aload_n hx hb d_Model_read_218 rfl (lv_at hl 1 rfl) ?_
      refine va_get (D := (dC, dI)) (ci := 7) (v := .ref (mo_a 7)) (C := R_Model) (T := T_Model) (N := 27) hx hb hts in_Model hown hK hP 0 rfl rfl 9 (by decide) (hts _ t_833) (fun _ h9 => h9) rfl d_Model_read_219 ?_
      refine lv_iload_n hx hb d_Model_read_222 rfl (lv_at hl 0 rfl) ?_
      obtain ⟨h_57, hf⟩ := gd_ex hf
      refine va_iald (f := Mo_dy mo_55) hx hb hK hP 7 0 rfl rfl (inb_in h_57) d_Model_read_223 ?_
      obtain ⟨h_58, hf⟩ := gd_ex hf
      refine va_iast (f := Mo_dy mo_55) hx hb hK hP hD hS 7 0 rfl rfl (inb_in h_58) d_Model_read_224 (fun H locs hP hD hS => ?_)
      obtain ⟨mo_59, emo_59, hf⟩ := lt_ex hf
      try dsimp only at hf
      have hP : va_P (dC, dI) vwCl (wMo cI cZ cJ mo_a mo_59) H := by rw [emo_59]; exact hP
      have hD : va_D A (wMo cI cZ cJ mo_a mo_59) := by rw [emo_59]; exact hD
      refine lv_iconst (v := 0) hx hb d_Model_read_225 (by decide) ?_
      refine lv_istore (lv' := [(4, .int 0), (3, .int x3_36), (0, .ref (mo_a 0)), (2, .int x2)]) hx hb d_Model_read_226 hl (by decide) rfl (fun ls hl => ?_)
      refine L_Model_read_228 C0 (fun H locs ls mo_68 hP hD hS hl hf => ?_) 100000 _ _ _ mo_59 0 hP hD hS (lv_sub hl [2, 3, 1, 0] rfl) hf
      try dsimp only at hf
      obtain ⟨x2_69, ex2_69, hf⟩ := lt_ex hf
      try dsimp only at hf
      refine lv_iinc (v := x2_69) (lv' := [(2, .int x2_69), (0, .ref (mo_a 0))]) hx hb d_Model_read_265 hl (k := 1) rfl (by rw [ex2_69]; rfl) (by decide) rfl (fun ls hl => ?_)
      refine lv_goto (tgt := 140) hx hb d_Model_read_268 (by decide) ?_
      exact ih _ _ _ mo_68 x2_69 hP hD hS (lv_sub hl [1, 0] rfl) hf
set_option maxHeartbeats 4000000 in
set_option maxRecDepth 100000 in
theorem B_Model_read {cells slots : Nat} {dC : Nat → ClassId} {dI : Nat → Nat → Nat} {cI cZ cJ : ClassId} {mo_a : Nat → Nat} {mo : Mo} {res : Int32 × Mo} (C0 : cxt p c m s args R cells slots R_Model c_Model_read tb 5 (dC, dI) vwCl (TYS cI cZ cJ) A 7 168)
    (hr127 : ∀ (H : Heap) (locs : List Loc) (ls : Array Slot) (v : Int32) (mo' : Mo), va_P (dC, dI) vwCl (wMo cI cZ cJ mo_a mo') H → va_D A (wMo cI cZ cJ mo_a mo') → va_S A s.heap H locs → some (v, mo') = some res → W p l e R s m args below meth c H locs cells slots Q (F0 m 127 ls [.int v]))
    (hr275 : ∀ (H : Heap) (locs : List Loc) (ls : Array Slot) (v : Int32) (mo' : Mo), va_P (dC, dI) vwCl (wMo cI cZ cJ mo_a mo') H → va_D A (wMo cI cZ cJ mo_a mo') → va_S A s.heap H locs → some (v, mo') = some res → W p l e R s m args below meth c H locs cells slots Q (F0 m 275 ls [.int v]))
    {H : Heap} {locs : List Loc} {ls : Array Slot} (hP : va_P (dC, dI) vwCl (wMo cI cZ cJ mo_a mo) H) (hD : va_D A (wMo cI cZ cJ mo_a mo)) (hS : va_S A s.heap H locs) (hl : lv_has ls 5 [(0, .ref (mo_a 0))]) (hf : f_Model_read mo = some res) : W p l e R s m args below meth c H locs cells slots Q (F0 m 0 ls []) := by
  obtain ⟨hx, hb, hml, hown, hts, hK, hA, hRf, hRl, hN, hRc⟩ := id C0
  rw [f_Model_read] at hf
  refine lv_aload_n hx hb d_Model_read_0 rfl (lv_at hl 0 rfl) ?_
  refine lv_iconst (v := 0) hx hb d_Model_read_1 (by decide) ?_
  refine va_put (D := (dC, dI)) (ci := 7) (v := .int 0) (ty := .int) (C := R_Model) (T := T_Model) (N := 27) hx hb hts in_Model ty_Model tyok_Model nm_Model hown hK hP hD hS 0 rfl rfl 0 (by decide) (hts _ t_824) (fun _ h9 => h9) rfl (by decide +kernel) rfl rfl (Nat.le_of_ble_eq_true rfl) d_Model_read_2 (fun H locs hP hD hS => ?_)
  obtain ⟨mo_1, emo_1, hf⟩ := lt_ex hf
  try dsimp only at hf
  have hP : va_P (dC, dI) vwCl (wMo cI cZ cJ mo_a mo_1) H := by rw [emo_1]; exact hP
  have hD : va_D A (wMo cI cZ cJ mo_a mo_1) := by rw [emo_1]; exact hD
  refine lv_aload_n hx hb d_Model_read_5 rfl (lv_at hl 0 rfl) ?_
  refine lv_iconst (v := (-1)) hx hb d_Model_read_6 (by decide) ?_
  refine va_put (D := (dC, dI)) (ci := 7) (v := .int (-1)) (ty := .int) (C := R_Model) (T := T_Model) (N := 27) hx hb hts in_Model ty_Model tyok_Model nm_Model hown hK hP hD hS 0 rfl rfl 26 (by decide) (hts _ t_850) (fun _ h9 => h9) rfl (by decide +kernel) rfl rfl (Nat.le_of_ble_eq_true rfl) d_Model_read_7 (fun H locs hP hD hS => ?_)
  obtain ⟨mo_3, emo_3, hf⟩ := lt_ex hf
  try dsimp only at hf
  have hP : va_P (dC, dI) vwCl (wMo cI cZ cJ mo_a mo_3) H := by rw [emo_3]; exact hP
  have hD : va_D A (wMo cI cZ cJ mo_a mo_3) := by rw [emo_3]; exact hD
  refine lv_aload_n hx hb d_Model_read_10 rfl (lv_at hl 0 rfl) ?_
  refine lv_iconst (v := 0) hx hb d_Model_read_11 (by decide) ?_
  refine va_put (D := (dC, dI)) (ci := 7) (v := .int 0) (ty := .int) (C := R_Model) (T := T_Model) (N := 27) hx hb hts in_Model ty_Model tyok_Model nm_Model hown hK hP hD hS 0 rfl rfl 19 (by decide) (hts _ t_843) (fun _ h9 => h9) rfl (by decide +kernel) rfl rfl (Nat.le_of_ble_eq_true rfl) d_Model_read_12 (fun H locs hP hD hS => ?_)
  obtain ⟨mo_5, emo_5, hf⟩ := lt_ex hf
  try dsimp only at hf
  have hP : va_P (dC, dI) vwCl (wMo cI cZ cJ mo_a mo_5) H := by rw [emo_5]; exact hP
  have hD : va_D A (wMo cI cZ cJ mo_a mo_5) := by rw [emo_5]; exact hD
  refine lv_aload_n hx hb d_Model_read_15 rfl (lv_at hl 0 rfl) ?_
  obtain ⟨mo_7, hf1, hf⟩ := bd_ex hf
  try dsimp only at hf
  have hPc := hP.sub (ws' := (wMo cI cZ cJ mo_a mo_5)) [0, 1, 2, 3, 4, 5, 6, 7, 8, 9, 10, 11, 12, 13, 14, 15] rfl
  have hDc := hD.sub (ws' := (wMo cI cZ cJ mo_a mo_5)) [0, 1, 2, 3, 4, 5, 6, 7, 8, 9, 10, 11, 12, 13, 14, 15] (by decide) rfl
  have hFc := va_free (wc := (wMo cI cZ cJ mo_a mo_5)) hD hS hA [0, 1, 2, 3, 4, 5, 6, 7, 8, 9, 10, 11, 12, 13, 14, 15] rfl
  refine va_callv (va_runV (As := []) (rest := []) ⟨hx, hb, hml, hown, hts⟩ (k_Model_beginBits l dC dI cI cZ cJ mo_a H.size hf1) (cwV 0 hts (gV t_964 t_966 t_28 t_63 t_967) rfl rfl rfl hd_Model_beginBits ⟨Nat.le_trans (Nat.le_of_ble_eq_true rfl) hRf, Nat.le_trans (Nat.le_of_ble_eq_true rfl) hRl⟩) ⟨kP_blind, va_recv hK hP (ci := 7) (q0 := 0) rfl rfl, kP_at hPc hK hDc hN⟩ rfl rfl hl.1 rfl (lv_room (Nat.le_of_ble_eq_true rfl)) d_Model_read_16 hRc) hS (fun q _ h => hFc q h) hFc (fun u t H1 locs ht hvm hw hB hz1 hk1 hS => ?_)
  obtain ⟨hP, hD⟩ := kQ_join (wr := ([] : va_W)) (w1 := (wMo cI cZ cJ mo_a mo_7)) hP hD [0, 1, 2, 3, 4, 5, 6, 7, 8, 9, 10, 11, 12, 13, 14, 15] [] rfl rfl (by decide) (by decide) ht hk1 hFc hB
  generalize H1 = H at hP hS ⊢
  have hP : va_P (dC, dI) vwCl (wMo cI cZ cJ mo_a mo_7) H := hP.sub [0, 1, 2, 3, 4, 5, 6, 7, 8, 9, 10, 11, 12, 13, 14, 15] rfl
  have hD : va_D A (wMo cI cZ cJ mo_a mo_7) := hD.sub [0, 1, 2, 3, 4, 5, 6, 7, 8, 9, 10, 11, 12, 13, 14, 15] (by decide) rfl
  refine lv_aload_n hx hb d_Model_read_19 rfl (lv_at hl 0 rfl) ?_
  refine lv_lconst (v := 0) hx hb d_Model_read_20 (by decide) ?_
  refine va_put (D := (dC, dI)) (ci := 7) (v := .long 0) (ty := .long) (C := R_Model) (T := T_Model) (N := 27) hx hb hts in_Model ty_Model tyok_Model nm_Model hown hK hP hD hS 0 rfl rfl 24 (by decide) (hts _ t_848) (fun _ h9 => h9) rfl (by decide +kernel) rfl rfl (Nat.le_of_ble_eq_true rfl) d_Model_read_21 (fun H locs hP hD hS => ?_)
  obtain ⟨mo_8, emo_8, hf⟩ := lt_ex hf
  try dsimp only at hf
  have hP : va_P (dC, dI) vwCl (wMo cI cZ cJ mo_a mo_8) H := by rw [emo_8]; exact hP
  have hD : va_D A (wMo cI cZ cJ mo_a mo_8) := by rw [emo_8]; exact hD
  refine lv_iconst (v := 0) hx hb d_Model_read_24 (by decide) ?_
  refine lv_istore_n (lv' := [(1, .int 0), (0, .ref (mo_a 0))]) hx hb d_Model_read_25 rfl hl (by decide) rfl (fun ls hl => ?_)
  refine L_Model_read_26 C0 (fun H locs ls mo_18 hP hD hS hl hf => ?_) 100000 _ _ _ mo_8 0 hP hD hS (lv_sub hl [1, 0] rfl) hf
  try dsimp only at hf
  refine lv_aload_n hx hb d_Model_read_62 rfl (lv_at hl 0 rfl) ?_
  obtain ⟨⟨r_19, mo_20⟩, hf1, hf⟩ := bd_ex hf
  try dsimp only at hf
  have hPc := hP.sub (ws' := (wMo cI cZ cJ mo_a mo_18)) [0, 1, 2, 3, 4, 5, 6, 7, 8, 9, 10, 11, 12, 13, 14, 15] rfl
  have hDc := hD.sub (ws' := (wMo cI cZ cJ mo_a mo_18)) [0, 1, 2, 3, 4, 5, 6, 7, 8, 9, 10, 11, 12, 13, 14, 15] (by decide) rfl
  have hFc := va_free (wc := (wMo cI cZ cJ mo_a mo_18)) hD hS hA [0, 1, 2, 3, 4, 5, 6, 7, 8, 9, 10, 11, 12, 13, 14, 15] rfl
  refine va_calli (va_runV (As := []) (rest := []) ⟨hx, hb, hml, hown, hts⟩ (k_Model_takeNumber l dC dI cI cZ cJ mo_a H.size hf1) (cwV 0 hts (gV t_1055 t_1057 t_45 t_63 t_1058) rfl rfl rfl hd_Model_takeNumber ⟨Nat.le_trans (Nat.le_of_ble_eq_true rfl) hRf, Nat.le_trans (Nat.le_of_ble_eq_true rfl) hRl⟩) ⟨kP_blind, va_recv hK hP (ci := 7) (q0 := 0) rfl rfl, kP_at hPc hK hDc hN⟩ rfl rfl hl.1 rfl (lv_room (Nat.le_of_ble_eq_true rfl)) d_Model_read_63 hRc) hS (fun q _ h => hFc q h) hFc (fun r9 u t H1 locs ht hvm hw hB hz1 hk1 hS => ?_)
  rw [hw]
  obtain ⟨hP, hD⟩ := kQ_join (wr := ([] : va_W)) (w1 := (wMo cI cZ cJ mo_a mo_20)) hP hD [0, 1, 2, 3, 4, 5, 6, 7, 8, 9, 10, 11, 12, 13, 14, 15] [] rfl rfl (by decide) (by decide) ht hk1 hFc hB
  generalize H1 = H at hP hS ⊢
  have hP : va_P (dC, dI) vwCl (wMo cI cZ cJ mo_a mo_20) H := hP.sub [0, 1, 2, 3, 4, 5, 6, 7, 8, 9, 10, 11, 12, 13, 14, 15] rfl
  have hD : va_D A (wMo cI cZ cJ mo_a mo_20) := hD.sub [0, 1, 2, 3, 4, 5, 6, 7, 8, 9, 10, 11, 12, 13, 14, 15] (by decide) rfl
  refine lv_istore_n (lv' := [(1, .int r_19), (0, .ref (mo_a 0))]) hx hb d_Model_read_66 rfl hl (by decide) rfl (fun ls hl => ?_)
  refine lv_aload_n hx hb d_Model_read_67 rfl (lv_at hl 1 rfl) ?_
  refine va_get (D := (dC, dI)) (ci := 7) (v := .int (Mo_why mo_20)) (C := R_Model) (T := T_Model) (N := 27) hx hb hts in_Model hown hK hP 0 rfl rfl 26 (by decide) (hts _ t_850) (fun _ h9 => h9) rfl d_Model_read_68 ?_
  have J85_21 : ∀ (H : Heap) (locs : List Loc) (ls : Array Slot) (mo_21 : Mo), va_P (dC, dI) vwCl (wMo cI cZ cJ mo_a mo_21) H → va_D A (wMo cI cZ cJ mo_a mo_21) → va_S A s.heap H locs → lv_has ls 5 [(0, .ref (mo_a 0)), (1, .int r_19)] → j_Model_read_85_22 r_19 mo_21 = some res → W p l e R s m args below meth c H locs cells slots Q (F0 m 85 ls []) := by
    intro H locs ls mo_21 hP hD hS hl hf
    rw [j_Model_read_85_22] at hf
    refine lv_aload_n hx hb d_Model_read_85 rfl (lv_at hl 0 rfl) ?_
    refine va_get (D := (dC, dI)) (ci := 7) (v := .int (Mo_why mo_21)) (C := R_Model) (T := T_Model) (N := 27) hx hb hts in_Model hown hK hP 0 rfl rfl 26 (by decide) (hts _ t_850) (fun _ h9 => h9) rfl d_Model_read_86 ?_
    have J97_23 : ∀ (H : Heap) (locs : List Loc) (ls : Array Slot) (mo_23 : Mo), va_P (dC, dI) vwCl (wMo cI cZ cJ mo_a mo_23) H → va_D A (wMo cI cZ cJ mo_a mo_23) → va_S A s.heap H locs → lv_has ls 5 [(0, .ref (mo_a 0)), (1, .int r_19)] → j_Model_read_97_24 r_19 mo_23 = some res → W p l e R s m args below meth c H locs cells slots Q (F0 m 97 ls []) := by
      intro H locs ls mo_23 hP hD hS hl hf
      rw [j_Model_read_97_24] at hf
      refine lv_aload_n hx hb d_Model_read_97 rfl (lv_at hl 0 rfl) ?_
      refine va_get (D := (dC, dI)) (ci := 7) (v := .int (Mo_why mo_23)) (C := R_Model) (T := T_Model) (N := 27) hx hb hts in_Model hown hK hP 0 rfl rfl 26 (by decide) (hts _ t_850) (fun _ h9 => h9) rfl d_Model_read_98 ?_
      have J109_25 : ∀ (H : Heap) (locs : List Loc) (ls : Array Slot) (mo_25 : Mo), va_P (dC, dI) vwCl (wMo cI cZ cJ mo_a mo_25) H → va_D A (wMo cI cZ cJ mo_a mo_25) → va_S A s.heap H locs → lv_has ls 5 [(0, .ref (mo_a 0)), (1, .int r_19)] → j_Model_read_109_26 r_19 mo_25 = some res → W p l e R s m args below meth c H locs cells slots Q (F0 m 109 ls []) := by
        intro H locs ls mo_25 hP hD hS hl hf
        rw [j_Model_read_109_26] at hf
        refine lv_aload_n hx hb d_Model_read_109 rfl (lv_at hl 0 rfl) ?_
        refine lv_iconst (v := 0) hx hb d_Model_read_110 (by decide) ?_
        refine va_put (D := (dC, dI)) (ci := 7) (v := .int 0) (ty := .int) (C := R_Model) (T := T_Model) (N := 27) hx hb hts in_Model ty_Model tyok_Model nm_Model hown hK hP hD hS 0 rfl rfl 18 (by decide) (hts _ t_842) (fun _ h9 => h9) rfl (by decide +kernel) rfl rfl (Nat.le_of_ble_eq_true rfl) d_Model_read_111 (fun H locs hP hD hS => ?_)
        obtain ⟨mo_27, emo_27, hf⟩ := lt_ex hf
        try dsimp only at hf
        have hP : va_P (dC, dI) vwCl (wMo cI cZ cJ mo_a mo_27) H := by rw [emo_27]; exact hP
        have hD : va_D A (wMo cI cZ cJ mo_a mo_27) := by rw [emo_27]; exact hD
        refine lv_aload_n hx hb d_Model_read_114 rfl (lv_at hl 0 rfl) ?_
        refine va_get (D := (dC, dI)) (ci := 7) (v := .int (Mo_why mo_27)) (C := R_Model) (T := T_Model) (N := 27) hx hb hts in_Model hown hK hP 0 rfl rfl 26 (by decide) (hts _ t_850) (fun _ h9 => h9) rfl d_Model_read_115 ?_
        refine lv_if_lt (tgt := 128) hx hb d_Model_read_118 (by decide) (fun c_29 => ?_) (fun c_29 => ?_)
        · rw [if_pos c_29] at hf
          refine lv_aload_n hx hb d_Model_read_128 rfl (lv_at hl 0 rfl) ?_
          refine lv_iload_n hx hb d_Model_read_129 rfl (lv_at hl 1 rfl) ?_
          refine va_put (D := (dC, dI)) (ci := 7) (v := .int r_19) (ty := .int) (C := R_Model) (T := T_Model) (N := 27) hx hb hts in_Model ty_Model tyok_Model nm_Model hown hK hP hD hS 0 rfl rfl 2 (by decide) (hts _ t_826) (fun _ h9 => h9) rfl (by decide +kernel) rfl rfl (Nat.le_of_ble_eq_true rfl) d_Model_read_130 (fun H locs hP hD hS => ?_)
          obtain ⟨mo_30, emo_30, hf⟩ := lt_ex hf
          try dsimp only at hf
          have hP : va_P (dC, dI) vwCl (wMo cI cZ cJ mo_a mo_30) H := by rw [emo_30]; exact hP
          have hD : va_D A (wMo cI cZ cJ mo_a mo_30) := by rw [emo_30]; exact hD
          refine lv_aload_n hx hb d_Model_read_133 rfl (lv_at hl 0 rfl) ?_
          refine lv_iconst (v := 0) hx hb d_Model_read_134 (by decide) ?_
          refine va_put (D := (dC, dI)) (ci := 7) (v := .int 0) (ty := .int) (C := R_Model) (T := T_Model) (N := 27) hx hb hts in_Model ty_Model tyok_Model nm_Model hown hK hP hD hS 0 rfl rfl 12 (by decide) (hts _ t_836) (fun _ h9 => h9) rfl (by decide +kernel) rfl rfl (Nat.le_of_ble_eq_true rfl) d_Model_read_135 (fun H locs hP hD hS => ?_)
          obtain ⟨mo_32, emo_32, hf⟩ := lt_ex hf
          try dsimp only at hf
          have hP : va_P (dC, dI) vwCl (wMo cI cZ cJ mo_a mo_32) H := by rw [emo_32]; exact hP
          have hD : va_D A (wMo cI cZ cJ mo_a mo_32) := by rw [emo_32]; exact hD
          refine lv_iconst (v := 0) hx hb d_Model_read_138 (by decide) ?_
          refine lv_istore_n (lv' := [(2, .int 0), (0, .ref (mo_a 0)), (1, .int r_19)]) hx hb d_Model_read_139 rfl hl (by decide) rfl (fun ls hl => ?_)
          refine L_Model_read_140 C0 (fun H locs ls mo_70 hP hD hS hl hf => ?_) 100000 _ _ _ mo_32 0 hP hD hS (lv_sub hl [1, 0] rfl) hf
          try dsimp only at hf
          refine lv_aload_n hx hb d_Model_read_271 rfl (lv_at hl 0 rfl) ?_
          refine va_get (D := (dC, dI)) (ci := 7) (v := .int (Mo_n mo_70)) (C := R_Model) (T := T_Model) (N := 27) hx hb hts in_Model hown hK hP 0 rfl rfl 2 (by decide) (hts _ t_826) (fun _ h9 => h9) rfl d_Model_read_272 ?_
          exact hr275 _ _ _ (Mo_n mo_70) mo_70 hP hD hS hf
        · rw [if_neg c_29] at hf
          refine lv_iconst (v := (-1)) hx hb d_Model_read_121 (by decide) ?_
          refine lv_aload_n hx hb d_Model_read_122 rfl (lv_at hl 0 rfl) ?_
          refine va_get (D := (dC, dI)) (ci := 7) (v := .int (Mo_why mo_27)) (C := R_Model) (T := T_Model) (N := 27) hx hb hts in_Model hown hK hP 0 rfl rfl 26 (by decide) (hts _ t_850) (fun _ h9 => h9) rfl d_Model_read_123 ?_
          refine lv_isub hx hb d_Model_read_126 ?_
          exact hr127 _ _ _ ((-1) - (Mo_why mo_27)) mo_27 hP hD hS hf
      refine lv_if_ge (tgt := 109) hx hb d_Model_read_101 (by decide) (fun c_71 => ?_) (fun c_71 => ?_)
      · rw [if_pos c_71] at hf
        exact J109_25 _ _ _ mo_23 hP hD hS (lv_sub hl [0, 1] rfl) hf
      · rw [if_neg c_71] at hf
        refine lv_aload_n hx hb d_Model_read_104 rfl (lv_at hl 0 rfl) ?_
        refine lv_iload_n hx hb d_Model_read_105 rfl (lv_at hl 1 rfl) ?_
        obtain ⟨mo_72, hf1, hf⟩ := bd_ex hf
        try dsimp only at hf
        have hPc := hP.sub (ws' := (wMo cI cZ cJ mo_a mo_23)) [0, 1, 2, 3, 4, 5, 6, 7, 8, 9, 10, 11, 12, 13, 14, 15] rfl
        have hDc := hD.sub (ws' := (wMo cI cZ cJ mo_a mo_23)) [0, 1, 2, 3, 4, 5, 6, 7, 8, 9, 10, 11, 12, 13, 14, 15] (by decide) rfl
        have hFc := va_free (wc := (wMo cI cZ cJ mo_a mo_23)) hD hS hA [0, 1, 2, 3, 4, 5, 6, 7, 8, 9, 10, 11, 12, 13, 14, 15] rfl
        refine va_callv (va_runV (As := [.int r_19]) (rest := []) ⟨hx, hb, hml, hown, hts⟩ (k_Model_readExports l dC dI cI cZ cJ mo_a H.size hf1) (cwV 1 hts (gV t_1079 t_1081 t_51 t_63 t_1082) rfl rfl rfl hd_Model_readExports ⟨Nat.le_trans (Nat.le_of_ble_eq_true rfl) hRf, Nat.le_trans (Nat.le_of_ble_eq_true rfl) hRl⟩) ⟨kP_blind, va_recv hK hP (ci := 7) (q0 := 0) rfl rfl, kP_at hPc hK hDc hN⟩ rfl rfl hl.1 rfl (lv_room (Nat.le_of_ble_eq_true rfl)) d_Model_read_106 hRc) hS (fun q _ h => hFc q h) hFc (fun u t H1 locs ht hvm hw hB hz1 hk1 hS => ?_)
        obtain ⟨hP, hD⟩ := kQ_join (wr := ([] : va_W)) (w1 := (wMo cI cZ cJ mo_a mo_72)) hP hD [0, 1, 2, 3, 4, 5, 6, 7, 8, 9, 10, 11, 12, 13, 14, 15] [] rfl rfl (by decide) (by decide) ht hk1 hFc hB
        generalize H1 = H at hP hS ⊢
        have hP : va_P (dC, dI) vwCl (wMo cI cZ cJ mo_a mo_72) H := hP.sub [0, 1, 2, 3, 4, 5, 6, 7, 8, 9, 10, 11, 12, 13, 14, 15] rfl
        have hD : va_D A (wMo cI cZ cJ mo_a mo_72) := hD.sub [0, 1, 2, 3, 4, 5, 6, 7, 8, 9, 10, 11, 12, 13, 14, 15] (by decide) rfl
        exact J109_25 _ _ _ mo_72 hP hD hS (lv_sub hl [0, 1] rfl) hf
    refine lv_if_ge (tgt := 97) hx hb d_Model_read_89 (by decide) (fun c_73 => ?_) (fun c_73 => ?_)
    · rw [if_pos c_73] at hf
      exact J97_23 _ _ _ mo_21 hP hD hS (lv_sub hl [0, 1] rfl) hf
    · rw [if_neg c_73] at hf
      refine lv_aload_n hx hb d_Model_read_92 rfl (lv_at hl 0 rfl) ?_
      refine lv_iload_n hx hb d_Model_read_93 rfl (lv_at hl 1 rfl) ?_
      obtain ⟨mo_74, hf1, hf⟩ := bd_ex hf
      try dsimp only at hf
      have hPc := hP.sub (ws' := (wMo cI cZ cJ mo_a mo_21)) [0, 1, 2, 3, 4, 5, 6, 7, 8, 9, 10, 11, 12, 13, 14, 15] rfl
      have hDc := hD.sub (ws' := (wMo cI cZ cJ mo_a mo_21)) [0, 1, 2, 3, 4, 5, 6, 7, 8, 9, 10, 11, 12, 13, 14, 15] (by decide) rfl
      have hFc := va_free (wc := (wMo cI cZ cJ mo_a mo_21)) hD hS hA [0, 1, 2, 3, 4, 5, 6, 7, 8, 9, 10, 11, 12, 13, 14, 15] rfl
      refine va_callv (va_runV (As := [.int r_19]) (rest := []) ⟨hx, hb, hml, hown, hts⟩ (k_Model_readClasses l dC dI cI cZ cJ mo_a H.size hf1) (cwV 1 hts (gV t_1067 t_1069 t_48 t_63 t_1070) rfl rfl rfl hd_Model_readClasses ⟨Nat.le_trans (Nat.le_of_ble_eq_true rfl) hRf, Nat.le_trans (Nat.le_of_ble_eq_true rfl) hRl⟩) ⟨kP_blind, va_recv hK hP (ci := 7) (q0 := 0) rfl rfl, kP_at hPc hK hDc hN⟩ rfl rfl hl.1 rfl (lv_room (Nat.le_of_ble_eq_true rfl)) d_Model_read_94 hRc) hS (fun q _ h => hFc q h) hFc (fun u t H1 locs ht hvm hw hB hz1 hk1 hS => ?_)
      obtain ⟨hP, hD⟩ := kQ_join (wr := ([] : va_W)) (w1 := (wMo cI cZ cJ mo_a mo_74)) hP hD [0, 1, 2, 3, 4, 5, 6, 7, 8, 9, 10, 11, 12, 13, 14, 15] [] rfl rfl (by decide) (by decide) ht hk1 hFc hB
      generalize H1 = H at hP hS ⊢
      have hP : va_P (dC, dI) vwCl (wMo cI cZ cJ mo_a mo_74) H := hP.sub [0, 1, 2, 3, 4, 5, 6, 7, 8, 9, 10, 11, 12, 13, 14, 15] rfl
      have hD : va_D A (wMo cI cZ cJ mo_a mo_74) := hD.sub [0, 1, 2, 3, 4, 5, 6, 7, 8, 9, 10, 11, 12, 13, 14, 15] (by decide) rfl
      exact J97_23 _ _ _ mo_74 hP hD hS (lv_sub hl [0, 1] rfl) hf
  refine lv_if_ge (tgt := 85) hx hb d_Model_read_71 (by decide) (fun c_75 => ?_) (fun c_75 => ?_)
  · rw [if_pos c_75] at hf
    exact J85_21 _ _ _ mo_20 hP hD hS (lv_sub hl [1, 0] rfl) hf
  · rw [if_neg c_75] at hf
    refine lv_iload_n hx hb d_Model_read_74 rfl (lv_at hl 0 rfl) ?_
    refine lv_bipush (v := 40) hx hb d_Model_read_75 (by decide) ?_
    refine lv_icmp_le (tgt := 85) hx hb d_Model_read_77 (by decide) (fun c_76 => ?_) (fun c_76 => ?_)
    · rw [if_pos c_76] at hf
      exact J85_21 _ _ _ mo_20 hP hD hS (lv_sub hl [1, 0] rfl) hf
    · rw [if_neg c_76] at hf
      refine lv_aload_n hx hb d_Model_read_80 rfl (lv_at hl 1 rfl) ?_
      refine lv_iconst (v := 0) hx hb d_Model_read_81 (by decide) ?_
      refine va_put (D := (dC, dI)) (ci := 7) (v := .int 0) (ty := .int) (C := R_Model) (T := T_Model) (N := 27) hx hb hts in_Model ty_Model tyok_Model nm_Model hown hK hP hD hS 0 rfl rfl 26 (by decide) (hts _ t_850) (fun _ h9 => h9) rfl (by decide +kernel) rfl rfl (Nat.le_of_ble_eq_true rfl) d_Model_read_82 (fun H locs hP hD hS => ?_)
      obtain ⟨mo_77, emo_77, hf⟩ := lt_ex hf
      try dsimp only at hf
      have hP : va_P (dC, dI) vwCl (wMo cI cZ cJ mo_a mo_77) H := by rw [emo_77]; exact hP
      have hD : va_D A (wMo cI cZ cJ mo_a mo_77) := by rw [emo_77]; exact hD
      exact J85_21 _ _ _ mo_77 hP hD hS (lv_sub hl [1, 0] rfl) hf
end
set_option maxHeartbeats 4000000 in
set_option maxRecDepth 100000 in
theorem k_Model_read (l : Launch) (dC : Nat → ClassId) (dI : Nat → Nat → Nat) (cI cZ cJ : ClassId) (mo_a : Nat → Nat) (sz : Nat) {mo : Mo} {r : Int32} {mo' : Mo} (hf : f_Model_read mo = some (r, mo')) :
    Met l y_Model_read ws_Model_read ({ frames := 7, cells := 0, slots := 0, locals := 168 }) (va_Pc [.ref (mo_a 0)] (kP (dC, dI) vwCl (TYS cI cZ cJ) (wMo cI cZ cJ mo_a mo) sz)) (va_Qi (fun (q : Int32) (_ : Unit) => q = r) (fun _ t => kQ (dC, dI) vwCl (TYS cI cZ cJ) (wMo cI cZ cJ mo_a mo) sz (wMo cI cZ cJ mo_a mo') t) (va_A (wMo cI cZ cJ mo_a mo) sz)) 0 0 (va_A (wMo cI cZ cJ mo_a mo) sz) := by
  refine Met.ofW (cc := c_Model_read) (maxL := 5) (ret := (some .int)) (by decide) rfl ?_
  intro p e s m args below meth c s₁ B hml hv
  obtain ⟨rfl, hsz, hP, hK, hD0, hN⟩ := hv
  have hr := B.returns
  have hlocks := B.notSynchronized
  subst hsz
  have hD := hD0.self (sz := s.heap.size)
  have hl := lv_entry ([.ref (mo_a 0)]) (n := 5) (Nat.le_of_ble_eq_true rfl)
  rw [lg_entry_eq]
  generalize (lg_sl ([.ref (mo_a 0)]) ++ List.replicate (5 - (lg_sl ([.ref (mo_a 0)])).length) Slot.unset).toArray = ls at hl ⊢
  refine B_Model_read (A := va_A (wMo cI cZ cJ mo_a mo) s.heap.size) ⟨B.exec, B.bytes, hml, findClass_of_methodNamed B.named, fun w h => atoms_spec (ws := ws_Model_read) B.pre w (List.mem_cons_of_mem _ h), hK, fun q h => Or.inr h, Nat.le_of_ble_eq_true rfl, Nat.le_of_ble_eq_true rfl, hN, Nat.le_of_ble_eq_true rfl, Nat.le_of_ble_eq_true rfl⟩ (fun H locs ls v mo'1 hP hD hS hf => ?_) (fun H locs ls v mo'1 hP hD hS hf => ?_) hP hD va_S.rf hl hf
  · cases hf
    exact W.iret B.exec B.bytes hr (fun t ht hW => ⟨⟨_, (), rfl, rfl, ⟨by rw [ht]; exact hP, va_K.moved hW.alike hK, hD⟩⟩, hS.F ht⟩) hS.2.2 d_Model_read_127
  · cases hf
    exact W.iret B.exec B.bytes hr (fun t ht hW => ⟨⟨_, (), rfl, rfl, ⟨by rw [ht]; exact hP, va_K.moved hW.alike hK, hD⟩⟩, hS.F ht⟩) hS.2.2 d_Model_read_275

/-! Model_told -/
def l_Model_told_41 (mo : Mo) (x1 : Int32) (x2 : Int32) (k72 : Int32 → Option (Int32 × Mo)) : Nat → Int32 → Int32 → Option (Int32 × Mo)
  | 0, _, _ => none
  | n + 1, x3, x4 => (if 16 ≤ x4 then k72 x3 else gd (inb ((16 * x1) + x4) 1280) <| bd (f_Model_ones (Mo_rw mo ((16 * x1) + x4).toNatClampNeg)) <| fun r_10 => lt' (x3 + r_10) <| fun x3_11 => lt' (x4 + 1) <| fun x4_12 => (l_Model_told_41 mo x1 x2 k72 n) x3_11 x4_12)
def j_Model_told_28_3 (mo : Mo) (x1 : Int32) (x2 : Int32) (z0_2 : Int32) : Option (Int32 × Mo) := bd (f_Model_refuses mo z0_2) <| fun (r_4, mo_5) => (if r_4 = 0 then l_Model_told_41 mo_5 x1 x2 (fun x3_13 => (if x2 = 0 then gd (inb x1 80) <| some (Mo_wd mo_5 x1.toNatClampNeg, mo_5) else if x2 = 1 then gd (inb x1 80) <| some (Mo_ht mo_5 x1.toNatClampNeg, mo_5) else if x2 = 2 then some (x3_13, mo_5) else if x2 = 3 then gd (inb x1 80) <| (if (Mo_ex mo_5 x1.toNatClampNeg) = 0 then some (0, mo_5) else some (1, mo_5)) else if x2 = 4 then gd (inb x1 80) <| some (Mo_bs mo_5 x1.toNatClampNeg, mo_5) else if x2 = 5 then gd (inb x1 80) <| some (Mo_dx mo_5 x1.toNatClampNeg, mo_5) else if x2 = 6 then gd (inb x1 80) <| some (Mo_dy mo_5 x1.toNatClampNeg, mo_5) else bd (f_Model_placeOf mo_5 x1) <| fun r_21 => some (r_21, mo_5))) 100000 0 0 else some (0, mo_5))
def f_Model_told (mo : Mo) (x1 : Int32) (x2 : Int32) : Option (Int32 × Mo) := bd (f_Model_isSymbol mo x1) <| fun r_1 => (if r_1 = 0 then j_Model_told_28_3 mo x1 x2 1 else (if x2 < 0 then j_Model_told_28_3 mo x1 x2 2 else (if x2 ≤ 7 then j_Model_told_28_3 mo x1 x2 0 else j_Model_told_28_3 mo x1 x2 2)))
section
variable {p : Program} {l : Launch} {e : Env} {R : Room} {s : State} {m : MethodId} {args : Array Value} {below : List Frame} {meth : Method} {c : Code} {Q : State → Prop} {A : Nat → Prop}
set_option maxHeartbeats 4000000 in
set_option maxRecDepth 100000 in
theorem L_Model_told_41 {cells slots : Nat} {dC : Nat → ClassId} {dI : Nat → Nat → Nat} {cI cZ cJ : ClassId} {mo_a : Nat → Nat} {mo : Mo} {x1 : Int32} {x2 : Int32} {k72 : Int32 → Option (Int32 × Mo)} {res : Int32 × Mo} (C0 : cxt p c m s args R cells slots R_Model c_Model_told tb 5 (dC, dI) vwCl (TYS cI cZ cJ) A 2 45)
    (hk72 : ∀ (H : Heap) (locs : List Loc) (ls : Array Slot) (x3_7 : Int32), va_P (dC, dI) vwCl (wMo cI cZ cJ mo_a mo) H → va_D A (wMo cI cZ cJ mo_a mo) → va_S A s.heap H locs → lv_has ls 5 [(0, .ref (mo_a 0)), (1, .int x1), (2, .int x2), (3, .int x3_7)] → k72 x3_7 = some res → W p l e R s m args below meth c H locs cells slots Q (F0 m 72 ls [])) :
    ∀ (n : Nat) (H : Heap) (locs : List Loc) (ls : Array Slot) (x3 : Int32) (x4 : Int32), va_P (dC, dI) vwCl (wMo cI cZ cJ mo_a mo) H → va_D A (wMo cI cZ cJ mo_a mo) → va_S A s.heap H locs → lv_has ls 5 [(0, .ref (mo_a 0)), (1, .int x1), (2, .int x2), (3, .int x3), (4, .int x4)] → l_Model_told_41 mo x1 x2 k72 n x3 x4 = some res → W p l e R s m args below meth c H locs cells slots Q (F0 m 41 ls []) := by
  obtain ⟨hx, hb, hml, hown, hts, hK, hA, hRf, hRl, hN, hRc⟩ := id C0
  intro n
  induction n with
  | zero =>
    intro H locs ls x3 x4 hP hD hS hl hf
    exact absurd hf (by simp [l_Model_told_41])
  | succ n ih =>
    intro H locs ls x3 x4 hP hD hS hl hf
    rw [l_Model_told_41] at hf
    refine lv_iload hx hb d_Model_told_41 (lv_at hl 4 rfl) ?_
    refine lv_bipush (v := 16) hx hb d_Model_told_43 (by decide) ?_
    refine lv_icmp_ge (tgt := 72) hx hb d_Model_told_45 (by decide) (fun c_8 => ?_) (fun c_8 => ?_)
    · rw [if_pos c_8] at hf
      exact hk72 _ _ _ x3 hP hD hS (lv_sub hl [0, 1, 2, 3] rfl) hf
    · rw [if_neg c_8] at hf
      refine lv_iload_n hx hb d_Model_told_48 rfl (lv_at hl 3 rfl) ?_
      refine lv_aload_n hx hb d_Model_told_49 rfl (lv_at hl 0 rfl) ?_
      refine va_get (D := (dC, dI)) (ci := 7) (v := .ref (mo_a 3)) (C := R_Model) (T := T_Model) (N := 27) hx hb hts in_Model hown hK hP 0 rfl rfl 5 (by decide) (hts _ t_829) (fun _ h9 => h9) rfl d_Model_told_50 ?_
      refine lv_bipush (v := 16) hx hb d_Model_told_53 (by decide) ?_
      refine lv_iload_n hx hb d_Model_told_55 rfl (lv_at hl 1 rfl) ?_
      refine lv_imul hx hb d_Model_told_56 ?_
      refine lv_iload hx hb d_Model_told_57 (lv_at hl 4 rfl) ?_
      refine lv_iadd hx hb d_Model_told_59 ?_
      obtain ⟨h_9, hf⟩ := gd_ex hf
      refine va_iald (f := Mo_rw mo) hx hb hK hP 3 0 rfl rfl (inb_in h_9) d_Model_told_60 ?_
      obtain ⟨r_10, hf1, hf⟩ := bd_ex hf
      try dsimp only at hf
      have hPc := hP.sub (ws' := ([] : va_W)) [] rfl
      have hDc := hD.sub (ws' := ([] : va_W)) [] (by decide) rfl
      have hFc := va_free (wc := ([] : va_W)) hD hS hA [] rfl
      refine va_calli (va_runS (As := [.int (Mo_rw mo ((16 * x1) + x4).toNatClampNeg)]) (rest := [.int x3]) ⟨hx, hb, hml, hown, hts⟩ (k_Model_ones l dC dI cI cZ cJ H.size hf1) (cwS 1 hts (gS t_938 t_939 t_63 t_940) rfl rfl rfl hd_Model_ones ⟨Nat.le_trans (Nat.le_of_ble_eq_true rfl) hRf, Nat.le_trans (Nat.le_of_ble_eq_true rfl) hRl⟩) ⟨kP_blind, kP_at hPc hK hDc hN⟩ rfl rfl hl.1 rfl (lv_room (Nat.le_of_ble_eq_true rfl)) d_Model_told_61 hRc) hS (fun q _ h => hFc q h) hFc (fun r9 u t H1 locs ht hvm hw hB hz1 hk1 hS => ?_)
      rw [hw]
      obtain ⟨hP, hD⟩ := kQ_join (wr := (wMo cI cZ cJ mo_a mo)) (w1 := ([] : va_W)) hP hD [] [0, 1, 2, 3, 4, 5, 6, 7, 8, 9, 10, 11, 12, 13, 14, 15] rfl rfl (by decide) (by decide) ht hk1 hFc hB
      generalize H1 = H at hP hS ⊢
      have hP : va_P (dC, dI) vwCl (wMo cI cZ cJ mo_a mo) H := hP.sub [0, 1, 2, 3, 4, 5, 6, 7, 8, 9, 10, 11, 12, 13, 14, 15] rfl
      have hD : va_D A (wMo cI cZ cJ mo_a mo) := hD.sub [0, 1, 2, 3, 4, 5, 6, 7, 8, 9, 10, 11, 12, 13, 14, 15] (by decide) rfl
      refine lv_iadd hx hb d_Model_told_64 ?_
      obtain ⟨x3_11, ex3_11, hf⟩ := lt_ex hf
      try dsimp only at hf
      refine tp_i ex3_11 ?_
      refine lv_istore_n (lv' := [(3, .int x3_11), (0, .ref (mo_a 0)), (1, .int x1), (2, .int x2), (4, .int x4)]) hx hb d_Model_told_65 rfl hl (by decide) rfl (fun ls hl => ?_)
      obtain ⟨x4_12, ex4_12, hf⟩ := lt_ex hf
      try dsimp only at hf
      refine lv_iinc (v := x4_12) (lv' := [(4, .int x4_12), (3, .int x3_11), (0, .ref (mo_a 0)), (1, .int x1), (2, .int x2)]) hx hb d_Model_told_66 hl (k := 4) rfl (by rw [ex4_12]; rfl) (by decide) rfl (fun ls hl => ?_)
      refine lv_goto (tgt := 41) hx hb d_Model_told_69 (by decide) ?_
      exact ih _ _ _ x3_11 x4_12 hP hD hS (lv_sub hl [2, 3, 4, 1, 0] rfl) hf
set_option maxHeartbeats 4000000 in
set_option maxRecDepth 100000 in
theorem B_Model_told {cells slots : Nat} {dC : Nat → ClassId} {dI : Nat → Nat → Nat} {cI cZ cJ : ClassId} {mo_a : Nat → Nat} {mo : Mo} {x1 : Int32} {x2 : Int32} {res : Int32 × Mo} (C0 : cxt p c m s args R cells slots R_Model c_Model_told tb 5 (dC, dI) vwCl (TYS cI cZ cJ) A 2 45)
    (hr35 : ∀ (H : Heap) (locs : List Loc) (ls : Array Slot) (v : Int32) (mo' : Mo), va_P (dC, dI) vwCl (wMo cI cZ cJ mo_a mo') H → va_D A (wMo cI cZ cJ mo_a mo') → va_S A s.heap H locs → some (v, mo') = some res → W p l e R s m args below meth c H locs cells slots Q (F0 m 35 ls [.int v]))
    (hr122 : ∀ (H : Heap) (locs : List Loc) (ls : Array Slot) (v : Int32) (mo' : Mo), va_P (dC, dI) vwCl (wMo cI cZ cJ mo_a mo') H → va_D A (wMo cI cZ cJ mo_a mo') → va_S A s.heap H locs → some (v, mo') = some res → W p l e R s m args below meth c H locs cells slots Q (F0 m 122 ls [.int v]))
    (hr129 : ∀ (H : Heap) (locs : List Loc) (ls : Array Slot) (v : Int32) (mo' : Mo), va_P (dC, dI) vwCl (wMo cI cZ cJ mo_a mo') H → va_D A (wMo cI cZ cJ mo_a mo') → va_S A s.heap H locs → some (v, mo') = some res → W p l e R s m args below meth c H locs cells slots Q (F0 m 129 ls [.int v]))
    (hr131 : ∀ (H : Heap) (locs : List Loc) (ls : Array Slot) (v : Int32) (mo' : Mo), va_P (dC, dI) vwCl (wMo cI cZ cJ mo_a mo') H → va_D A (wMo cI cZ cJ mo_a mo') → va_S A s.heap H locs → some (v, mo') = some res → W p l e R s m args below meth c H locs cells slots Q (F0 m 131 ls [.int v]))
    (hr146 : ∀ (H : Heap) (locs : List Loc) (ls : Array Slot) (v : Int32) (mo' : Mo), va_P (dC, dI) vwCl (wMo cI cZ cJ mo_a mo') H → va_D A (wMo cI cZ cJ mo_a mo') → va_S A s.heap H locs → some (v, mo') = some res → W p l e R s m args below meth c H locs cells slots Q (F0 m 146 ls [.int v]))
    (hr153 : ∀ (H : Heap) (locs : List Loc) (ls : Array Slot) (v : Int32) (mo' : Mo), va_P (dC, dI) vwCl (wMo cI cZ cJ mo_a mo') H → va_D A (wMo cI cZ cJ mo_a mo') → va_S A s.heap H locs → some (v, mo') = some res → W p l e R s m args below meth c H locs cells slots Q (F0 m 153 ls [.int v]))
    (hr160 : ∀ (H : Heap) (locs : List Loc) (ls : Array Slot) (v : Int32) (mo' : Mo), va_P (dC, dI) vwCl (wMo cI cZ cJ mo_a mo') H → va_D A (wMo cI cZ cJ mo_a mo') → va_S A s.heap H locs → some (v, mo') = some res → W p l e R s m args below meth c H locs cells slots Q (F0 m 160 ls [.int v]))
    (hr167 : ∀ (H : Heap) (locs : List Loc) (ls : Array Slot) (v : Int32) (mo' : Mo), va_P (dC, dI) vwCl (wMo cI cZ cJ mo_a mo') H → va_D A (wMo cI cZ cJ mo_a mo') → va_S A s.heap H locs → some (v, mo') = some res → W p l e R s m args below meth c H locs cells slots Q (F0 m 167 ls [.int v]))
    (hr173 : ∀ (H : Heap) (locs : List Loc) (ls : Array Slot) (v : Int32) (mo' : Mo), va_P (dC, dI) vwCl (wMo cI cZ cJ mo_a mo') H → va_D A (wMo cI cZ cJ mo_a mo') → va_S A s.heap H locs → some (v, mo') = some res → W p l e R s m args below meth c H locs cells slots Q (F0 m 173 ls [.int v]))
    {H : Heap} {locs : List Loc} {ls : Array Slot} (hP : va_P (dC, dI) vwCl (wMo cI cZ cJ mo_a mo) H) (hD : va_D A (wMo cI cZ cJ mo_a mo)) (hS : va_S A s.heap H locs) (hl : lv_has ls 5 [(0, .ref (mo_a 0)), (1, .int x1), (2, .int x2)]) (hf : f_Model_told mo x1 x2 = some res) : W p l e R s m args below meth c H locs cells slots Q (F0 m 0 ls []) := by
  obtain ⟨hx, hb, hml, hown, hts, hK, hA, hRf, hRl, hN, hRc⟩ := id C0
  rw [f_Model_told] at hf
  refine lv_aload_n hx hb d_Model_told_0 rfl (lv_at hl 0 rfl) ?_
  refine lv_aload_n hx hb d_Model_told_1 rfl (lv_at hl 0 rfl) ?_
  refine lv_iload_n hx hb d_Model_told_2 rfl (lv_at hl 1 rfl) ?_
  obtain ⟨r_1, hf1, hf⟩ := bd_ex hf
  try dsimp only at hf
  have hPc := hP.sub (ws' := (wMo cI cZ cJ mo_a mo)) [0, 1, 2, 3, 4, 5, 6, 7, 8, 9, 10, 11, 12, 13, 14, 15] rfl
  have hDc := hD.sub (ws' := (wMo cI cZ cJ mo_a mo)) [0, 1, 2, 3, 4, 5, 6, 7, 8, 9, 10, 11, 12, 13, 14, 15] (by decide) rfl
  have hFc := va_free (wc := (wMo cI cZ cJ mo_a mo)) hD hS hA [0, 1, 2, 3, 4, 5, 6, 7, 8, 9, 10, 11, 12, 13, 14, 15] rfl
  refine va_calli (va_runV (As := [.int x1]) (rest := [.ref (mo_a 0)]) ⟨hx, hb, hml, hown, hts⟩ (k_Model_isSymbol l dC dI cI cZ cJ mo_a H.size hf1) (cwV 1 hts (gV t_926 t_928 t_25 t_63 t_929) rfl rfl rfl hd_Model_isSymbol ⟨Nat.le_trans (Nat.le_of_ble_eq_true rfl) hRf, Nat.le_trans (Nat.le_of_ble_eq_true rfl) hRl⟩) ⟨kP_blind, va_recv hK hP (ci := 7) (q0 := 0) rfl rfl, kP_at hPc hK hDc hN⟩ rfl rfl hl.1 rfl (lv_room (Nat.le_of_ble_eq_true rfl)) d_Model_told_3 hRc) hS (fun q _ h => hFc q h) hFc (fun r9 u t H1 locs ht hvm hw hB hz1 hk1 hS => ?_)
  rw [hw.1]
  obtain ⟨hP, hD⟩ := kQ_join (wr := ([] : va_W)) (w1 := (wMo cI cZ cJ mo_a mo)) hP hD [0, 1, 2, 3, 4, 5, 6, 7, 8, 9, 10, 11, 12, 13, 14, 15] [] rfl rfl (by decide) (by decide) ht hk1 hFc hB
  generalize H1 = H at hP hS ⊢
  have hP : va_P (dC, dI) vwCl (wMo cI cZ cJ mo_a mo) H := hP.sub [0, 1, 2, 3, 4, 5, 6, 7, 8, 9, 10, 11, 12, 13, 14, 15] rfl
  have hD : va_D A (wMo cI cZ cJ mo_a mo) := hD.sub [0, 1, 2, 3, 4, 5, 6, 7, 8, 9, 10, 11, 12, 13, 14, 15] (by decide) rfl
  have J28_2 : ∀ (H : Heap) (locs : List Loc) (ls : Array Slot) (z0_2 : Int32), va_P (dC, dI) vwCl (wMo cI cZ cJ mo_a mo) H → va_D A (wMo cI cZ cJ mo_a mo) → va_S A s.heap H locs → lv_has ls 5 [(0, .ref (mo_a 0)), (1, .int x1), (2, .int x2)] → j_Model_told_28_3 mo x1 x2 z0_2 = some res → W p l e R s m args below meth c H locs cells slots Q (F0 m 28 ls [.int z0_2, .ref (mo_a 0)]) := by
    intro H locs ls z0_2 hP hD hS hl hf
    rw [j_Model_told_28_3] at hf
    obtain ⟨⟨r_4, mo_5⟩, hf1, hf⟩ := bd_ex hf
    try dsimp only at hf
    have hPc := hP.sub (ws' := (wMo cI cZ cJ mo_a mo)) [0, 1, 2, 3, 4, 5, 6, 7, 8, 9, 10, 11, 12, 13, 14, 15] rfl
    have hDc := hD.sub (ws' := (wMo cI cZ cJ mo_a mo)) [0, 1, 2, 3, 4, 5, 6, 7, 8, 9, 10, 11, 12, 13, 14, 15] (by decide) rfl
    have hFc := va_free (wc := (wMo cI cZ cJ mo_a mo)) hD hS hA [0, 1, 2, 3, 4, 5, 6, 7, 8, 9, 10, 11, 12, 13, 14, 15] rfl
    refine va_calli (va_runV (As := [.int z0_2]) (rest := []) ⟨hx, hb, hml, hown, hts⟩ (k_Model_refuses l dC dI cI cZ cJ mo_a H.size hf1) (cwV 1 hts (gV t_914 t_916 t_23 t_63 t_917) rfl rfl rfl hd_Model_refuses ⟨Nat.le_trans (Nat.le_of_ble_eq_true rfl) hRf, Nat.le_trans (Nat.le_of_ble_eq_true rfl) hRl⟩) ⟨kP_blind, va_recv hK hP (ci := 7) (q0 := 0) rfl rfl, kP_at hPc hK hDc hN⟩ rfl rfl hl.1 rfl (lv_room (Nat.le_of_ble_eq_true rfl)) d_Model_told_28 hRc) hS (fun q _ h => hFc q h) hFc (fun r9 u t H1 locs ht hvm hw hB hz1 hk1 hS => ?_)
    rw [hw.1]
    obtain ⟨hP, hD⟩ := kQ_join (wr := ([] : va_W)) (w1 := (wMo cI cZ cJ mo_a mo_5)) hP hD [0, 1, 2, 3, 4, 5, 6, 7, 8, 9, 10, 11, 12, 13, 14, 15] [] rfl rfl (by decide) (by decide) ht hk1 hFc hB
    generalize H1 = H at hP hS ⊢
    have hP : va_P (dC, dI) vwCl (wMo cI cZ cJ mo_a mo_5) H := hP.sub [0, 1, 2, 3, 4, 5, 6, 7, 8, 9, 10, 11, 12, 13, 14, 15] rfl
    have hD : va_D A (wMo cI cZ cJ mo_a mo_5) := hD.sub [0, 1, 2, 3, 4, 5, 6, 7, 8, 9, 10, 11, 12, 13, 14, 15] (by decide) rfl
    refine lv_if_eq (tgt := 36) hx hb d_Model_told_31 (by decide) (fun c_6 => ?_) (fun c_6 => ?_)
    · rw [if_pos c_6] at hf
      refine lv_iconst (v := 0) hx hb d_Model_told_36 (by decide) ?_
      refine lv_istore_n (lv' := [(3, .int 0), (0, .ref (mo_a 0)), (1, .int x1), (2, .int x2)]) hx hb d_Model_told_37 rfl hl (by decide) rfl (fun ls hl => ?_)
      refine lv_iconst (v := 0) hx hb d_Model_told_38 (by decide) ?_
      refine lv_istore (lv' := [(4, .int 0), (3, .int 0), (0, .ref (mo_a 0)), (1, .int x1), (2, .int x2)]) hx hb d_Model_told_39 hl (by decide) rfl (fun ls hl => ?_)
      refine L_Model_told_41 C0 (fun H locs ls x3_13 hP hD hS hl hf => ?_) 100000 _ _ _ 0 0 hP hD hS (lv_sub hl [2, 3, 4, 1, 0] rfl) hf
      try dsimp only at hf
      refine lv_iload_n hx hb d_Model_told_72 rfl (lv_at hl 2 rfl) ?_
      by_cases c_73_0 : x2 = 0
      · rw [if_pos c_73_0] at hf
        refine lv_tableIn (off := 43) (tgt := 116) hx hb d_Model_told_73 (by rw [c_73_0]; decide) (by rw [c_73_0]; decide) (by rw [c_73_0]; decide) (by decide) ?_
        refine lv_aload_n hx hb d_Model_told_116 rfl (lv_at hl 0 rfl) ?_
        refine va_get (D := (dC, dI)) (ci := 7) (v := .ref (mo_a 1)) (C := R_Model) (T := T_Model) (N := 27) hx hb hts in_Model hown hK hP 0 rfl rfl 3 (by decide) (hts _ t_827) (fun _ h9 => h9) rfl d_Model_told_117 ?_
        refine lv_iload_n hx hb d_Model_told_120 rfl (lv_at hl 1 rfl) ?_
        obtain ⟨h_14, hf⟩ := gd_ex hf
        refine va_iald (f := Mo_wd mo_5) hx hb hK hP 1 0 rfl rfl (inb_in h_14) d_Model_told_121 ?_
        exact hr122 _ _ _ (Mo_wd mo_5 x1.toNatClampNeg) mo_5 hP hD hS hf
      rw [if_neg c_73_0] at hf
      by_cases c_73_1 : x2 = 1
      · rw [if_pos c_73_1] at hf
        refine lv_tableIn (off := 50) (tgt := 123) hx hb d_Model_told_73 (by rw [c_73_1]; decide) (by rw [c_73_1]; decide) (by rw [c_73_1]; decide) (by decide) ?_
        refine lv_aload_n hx hb d_Model_told_123 rfl (lv_at hl 0 rfl) ?_
        refine va_get (D := (dC, dI)) (ci := 7) (v := .ref (mo_a 2)) (C := R_Model) (T := T_Model) (N := 27) hx hb hts in_Model hown hK hP 0 rfl rfl 4 (by decide) (hts _ t_828) (fun _ h9 => h9) rfl d_Model_told_124 ?_
        refine lv_iload_n hx hb d_Model_told_127 rfl (lv_at hl 1 rfl) ?_
        obtain ⟨h_15, hf⟩ := gd_ex hf
        refine va_iald (f := Mo_ht mo_5) hx hb hK hP 2 0 rfl rfl (inb_in h_15) d_Model_told_128 ?_
        exact hr129 _ _ _ (Mo_ht mo_5 x1.toNatClampNeg) mo_5 hP hD hS hf
      rw [if_neg c_73_1] at hf
      by_cases c_73_2 : x2 = 2
      · rw [if_pos c_73_2] at hf
        refine lv_tableIn (off := 57) (tgt := 130) hx hb d_Model_told_73 (by rw [c_73_2]; decide) (by rw [c_73_2]; decide) (by rw [c_73_2]; decide) (by decide) ?_
        refine lv_iload_n hx hb d_Model_told_130 rfl (lv_at hl 3 rfl) ?_
        exact hr131 _ _ _ x3_13 mo_5 hP hD hS hf
      rw [if_neg c_73_2] at hf
      by_cases c_73_3 : x2 = 3
      · rw [if_pos c_73_3] at hf
        refine lv_tableIn (off := 59) (tgt := 132) hx hb d_Model_told_73 (by rw [c_73_3]; decide) (by rw [c_73_3]; decide) (by rw [c_73_3]; decide) (by decide) ?_
        refine lv_aload_n hx hb d_Model_told_132 rfl (lv_at hl 0 rfl) ?_
        refine va_get (D := (dC, dI)) (ci := 7) (v := .ref (mo_a 4)) (C := R_Model) (T := T_Model) (N := 27) hx hb hts in_Model hown hK hP 0 rfl rfl 6 (by decide) (hts _ t_830) (fun _ h9 => h9) rfl d_Model_told_133 ?_
        refine lv_iload_n hx hb d_Model_told_136 rfl (lv_at hl 1 rfl) ?_
        obtain ⟨h_16, hf⟩ := gd_ex hf
        refine va_zald (f := Mo_ex mo_5) hx hb hK hP 4 1 rfl rfl (inb_in h_16) d_Model_told_137 ?_
        refine lv_if_eq (tgt := 145) hx hb d_Model_told_138 (by decide) (fun c_17 => ?_) (fun c_17 => ?_)
        · rw [if_pos c_17] at hf
          refine lv_iconst (v := 0) hx hb d_Model_told_145 (by decide) ?_
          exact hr146 _ _ _ 0 mo_5 hP hD hS hf
        · rw [if_neg c_17] at hf
          refine lv_iconst (v := 1) hx hb d_Model_told_141 (by decide) ?_
          refine lv_goto (tgt := 146) hx hb d_Model_told_142 (by decide) ?_
          exact hr146 _ _ _ 1 mo_5 hP hD hS hf
      rw [if_neg c_73_3] at hf
      by_cases c_73_4 : x2 = 4
      · rw [if_pos c_73_4] at hf
        refine lv_tableIn (off := 74) (tgt := 147) hx hb d_Model_told_73 (by rw [c_73_4]; decide) (by rw [c_73_4]; decide) (by rw [c_73_4]; decide) (by decide) ?_
        refine lv_aload_n hx hb d_Model_told_147 rfl (lv_at hl 0 rfl) ?_
        refine va_get (D := (dC, dI)) (ci := 7) (v := .ref (mo_a 5)) (C := R_Model) (T := T_Model) (N := 27) hx hb hts in_Model hown hK hP 0 rfl rfl 7 (by decide) (hts _ t_831) (fun _ h9 => h9) rfl d_Model_told_148 ?_
        refine lv_iload_n hx hb d_Model_told_151 rfl (lv_at hl 1 rfl) ?_
        obtain ⟨h_18, hf⟩ := gd_ex hf
        refine va_iald (f := Mo_bs mo_5) hx hb hK hP 5 0 rfl rfl (inb_in h_18) d_Model_told_152 ?_
        exact hr153 _ _ _ (Mo_bs mo_5 x1.toNatClampNeg) mo_5 hP hD hS hf
      rw [if_neg c_73_4] at hf
      by_cases c_73_5 : x2 = 5
      · rw [if_pos c_73_5] at hf
        refine lv_tableIn (off := 81) (tgt := 154) hx hb d_Model_told_73 (by rw [c_73_5]; decide) (by rw [c_73_5]; decide) (by rw [c_73_5]; decide) (by decide) ?_
        refine lv_aload_n hx hb d_Model_told_154 rfl (lv_at hl 0 rfl) ?_
        refine va_get (D := (dC, dI)) (ci := 7) (v := .ref (mo_a 6)) (C := R_Model) (T := T_Model) (N := 27) hx hb hts in_Model hown hK hP 0 rfl rfl 8 (by decide) (hts _ t_832) (fun _ h9 => h9) rfl d_Model_told_155 ?_
        refine lv_iload_n hx hb d_Model_told_158 rfl (lv_at hl 1 rfl) ?_
        obtain ⟨h_19, hf⟩ := gd_ex hf
        refine va_iald (f := Mo_dx mo_5) hx hb hK hP 6 0 rfl rfl (inb_in h_19) d_Model_told_159 ?_
        exact hr160 _ _ _ (Mo_dx mo_5 x1.toNatClampNeg) mo_5 hP hD hS hf
      rw [if_neg c_73_5] at hf
      by_cases c_73_6 : x2 = 6
      · rw [if_pos c_73_6] at hf
        refine lv_tableIn (off := 88) (tgt := 161) hx hb d_Model_told_73 (by rw [c_73_6]; decide) (by rw [c_73_6]; decide) (by rw [c_73_6]; decide) (by decide) ?_
        refine lv_aload_n hx hb d_Model_told_161 rfl (lv_at hl 0 rfl) ?_
        refine va_get (D := (dC, dI)) (ci := 7) (v := .ref (mo_a 7)) (C := R_Model) (T := T_Model) (N := 27) hx hb hts in_Model hown hK hP 0 rfl rfl 9 (by decide) (hts _ t_833) (fun _ h9 => h9) rfl d_Model_told_162 ?_
        refine lv_iload_n hx hb d_Model_told_165 rfl (lv_at hl 1 rfl) ?_
        obtain ⟨h_20, hf⟩ := gd_ex hf
        refine va_iald (f := Mo_dy mo_5) hx hb hK hP 7 0 rfl rfl (inb_in h_20) d_Model_told_166 ?_
        exact hr167 _ _ _ (Mo_dy mo_5 x1.toNatClampNeg) mo_5 hP hD hS hf
      rw [if_neg c_73_6] at hf
      refine lv_tableOut (tgt := 168) hx hb d_Model_told_73 (sw_out7 c_73_0 c_73_1 c_73_2 c_73_3 c_73_4 c_73_5 c_73_6) (by decide) ?_
      refine lv_aload_n hx hb d_Model_told_168 rfl (lv_at hl 0 rfl) ?_
      refine lv_iload_n hx hb d_Model_told_169 rfl (lv_at hl 1 rfl) ?_
      obtain ⟨r_21, hf1, hf⟩ := bd_ex hf
      try dsimp only at hf
      have hPc := hP.sub (ws' := (wMo cI cZ cJ mo_a mo_5)) [0, 1, 2, 3, 4, 5, 6, 7, 8, 9, 10, 11, 12, 13, 14, 15] rfl
      have hDc := hD.sub (ws' := (wMo cI cZ cJ mo_a mo_5)) [0, 1, 2, 3, 4, 5, 6, 7, 8, 9, 10, 11, 12, 13, 14, 15] (by decide) rfl
      have hFc := va_free (wc := (wMo cI cZ cJ mo_a mo_5)) hD hS hA [0, 1, 2, 3, 4, 5, 6, 7, 8, 9, 10, 11, 12, 13, 14, 15] rfl
      refine va_calli (va_runV (As := [.int x1]) (rest := []) ⟨hx, hb, hml, hown, hts⟩ (k_Model_placeOf l dC dI cI cZ cJ mo_a H.size hf1) (cwV 1 hts (gV t_970 t_972 t_29 t_63 t_973) rfl rfl rfl hd_Model_placeOf ⟨Nat.le_trans (Nat.le_of_ble_eq_true rfl) hRf, Nat.le_trans (Nat.le_of_ble_eq_true rfl) hRl⟩) ⟨kP_blind, va_recv hK hP (ci := 7) (q0 := 0) rfl rfl, kP_at hPc hK hDc hN⟩ rfl rfl hl.1 rfl (lv_room (Nat.le_of_ble_eq_true rfl)) d_Model_told_170 hRc) hS (fun q _ h => hFc q h) hFc (fun r9 u t H1 locs ht hvm hw hB hz1 hk1 hS => ?_)
      rw [hw]
      obtain ⟨hP, hD⟩ := kQ_join (wr := ([] : va_W)) (w1 := (wMo cI cZ cJ mo_a mo_5)) hP hD [0, 1, 2, 3, 4, 5, 6, 7, 8, 9, 10, 11, 12, 13, 14, 15] [] rfl rfl (by decide) (by decide) ht hk1 hFc hB
      generalize H1 = H at hP hS ⊢
      have hP : va_P (dC, dI) vwCl (wMo cI cZ cJ mo_a mo_5) H := hP.sub [0, 1, 2, 3, 4, 5, 6, 7, 8, 9, 10, 11, 12, 13, 14, 15] rfl
      have hD : va_D A (wMo cI cZ cJ mo_a mo_5) := hD.sub [0, 1, 2, 3, 4, 5, 6, 7, 8, 9, 10, 11, 12, 13, 14, 15] (by decide) rfl
      exact hr173 _ _ _ r_21 mo_5 hP hD hS hf
    · rw [if_neg c_6] at hf
      refine lv_iconst (v := 0) hx hb d_Model_told_34 (by decide) ?_
      exact hr35 _ _ _ 0 mo_5 hP hD hS hf
  refine lv_if_ne (tgt := 13) hx hb d_Model_told_6 (by decide) (fun c_22 => ?_) (fun c_22 => ?_)
  · rw [if_neg c_22] at hf
    refine lv_iload_n hx hb d_Model_told_13 rfl (lv_at hl 2 rfl) ?_
    refine lv_if_lt (tgt := 23) hx hb d_Model_told_14 (by decide) (fun c_23 => ?_) (fun c_23 => ?_)
    · rw [if_pos c_23] at hf
      refine lv_iconst (v := 2) hx hb d_Model_told_23 (by decide) ?_
      refine lv_goto (tgt := 28) hx hb d_Model_told_24 (by decide) ?_
      exact J28_2 _ _ _ 2 hP hD hS (lv_sub hl [0, 1, 2] rfl) hf
    · rw [if_neg c_23] at hf
      refine lv_iload_n hx hb d_Model_told_17 rfl (lv_at hl 2 rfl) ?_
      refine lv_bipush (v := 7) hx hb d_Model_told_18 (by decide) ?_
      refine lv_icmp_le (tgt := 27) hx hb d_Model_told_20 (by decide) (fun c_24 => ?_) (fun c_24 => ?_)
      · rw [if_pos c_24] at hf
        refine lv_iconst (v := 0) hx hb d_Model_told_27 (by decide) ?_
        exact J28_2 _ _ _ 0 hP hD hS (lv_sub hl [0, 1, 2] rfl) hf
      · rw [if_neg c_24] at hf
        refine lv_iconst (v := 2) hx hb d_Model_told_23 (by decide) ?_
        refine lv_goto (tgt := 28) hx hb d_Model_told_24 (by decide) ?_
        exact J28_2 _ _ _ 2 hP hD hS (lv_sub hl [0, 1, 2] rfl) hf
  · rw [if_pos c_22] at hf
    refine lv_iconst (v := 1) hx hb d_Model_told_9 (by decide) ?_
    refine lv_goto (tgt := 28) hx hb d_Model_told_10 (by decide) ?_
    exact J28_2 _ _ _ 1 hP hD hS (lv_sub hl [0, 1, 2] rfl) hf
end
set_option maxHeartbeats 4000000 in
set_option maxRecDepth 100000 in
theorem k_Model_told (l : Launch) (dC : Nat → ClassId) (dI : Nat → Nat → Nat) (cI cZ cJ : ClassId) (mo_a : Nat → Nat) (sz : Nat) {mo : Mo} {x1 : Int32} {x2 : Int32} {r : Int32} {mo' : Mo} (hf : f_Model_told mo x1 x2 = some (r, mo')) :
    Met l y_Model_told ws_Model_told ({ frames := 2, cells := 0, slots := 0, locals := 45 }) (va_Pc [.ref (mo_a 0), .int x1, .int x2] (kP (dC, dI) vwCl (TYS cI cZ cJ) (wMo cI cZ cJ mo_a mo) sz)) (va_Qi (fun (q : Int32) (_ : Unit) => q = r) (fun _ t => kQ (dC, dI) vwCl (TYS cI cZ cJ) (wMo cI cZ cJ mo_a mo) sz (wMo cI cZ cJ mo_a mo') t) (va_A (wMo cI cZ cJ mo_a mo) sz)) 0 0 (va_A (wMo cI cZ cJ mo_a mo) sz) := by
  refine Met.ofW (cc := c_Model_told) (maxL := 5) (ret := (some .int)) (by decide) rfl ?_
  intro p e s m args below meth c s₁ B hml hv
  obtain ⟨rfl, hsz, hP, hK, hD0, hN⟩ := hv
  have hr := B.returns
  have hlocks := B.notSynchronized
  subst hsz
  have hD := hD0.self (sz := s.heap.size)
  have hl := lv_entry ([.ref (mo_a 0), .int x1, .int x2]) (n := 5) (Nat.le_of_ble_eq_true rfl)
  rw [lg_entry_eq]
  generalize (lg_sl ([.ref (mo_a 0), .int x1, .int x2]) ++ List.replicate (5 - (lg_sl ([.ref (mo_a 0), .int x1, .int x2])).length) Slot.unset).toArray = ls at hl ⊢
  refine B_Model_told (A := va_A (wMo cI cZ cJ mo_a mo) s.heap.size) ⟨B.exec, B.bytes, hml, findClass_of_methodNamed B.named, fun w h => atoms_spec (ws := ws_Model_told) B.pre w (List.mem_cons_of_mem _ h), hK, fun q h => Or.inr h, Nat.le_of_ble_eq_true rfl, Nat.le_of_ble_eq_true rfl, hN, Nat.le_of_ble_eq_true rfl, Nat.le_of_ble_eq_true rfl⟩ (fun H locs ls v mo'1 hP hD hS hf => ?_) (fun H locs ls v mo'1 hP hD hS hf => ?_) (fun H locs ls v mo'1 hP hD hS hf => ?_) (fun H locs ls v mo'1 hP hD hS hf => ?_) (fun H locs ls v mo'1 hP hD hS hf => ?_) (fun H locs ls v mo'1 hP hD hS hf => ?_) (fun H locs ls v mo'1 hP hD hS hf => ?_) (fun H locs ls v mo'1 hP hD hS hf => ?_) (fun H locs ls v mo'1 hP hD hS hf => ?_) hP hD va_S.rf hl hf
  · cases hf
    exact W.iret B.exec B.bytes hr (fun t ht hW => ⟨⟨_, (), rfl, rfl, ⟨by rw [ht]; exact hP, va_K.moved hW.alike hK, hD⟩⟩, hS.F ht⟩) hS.2.2 d_Model_told_35
  · cases hf
    exact W.iret B.exec B.bytes hr (fun t ht hW => ⟨⟨_, (), rfl, rfl, ⟨by rw [ht]; exact hP, va_K.moved hW.alike hK, hD⟩⟩, hS.F ht⟩) hS.2.2 d_Model_told_122
  · cases hf
    exact W.iret B.exec B.bytes hr (fun t ht hW => ⟨⟨_, (), rfl, rfl, ⟨by rw [ht]; exact hP, va_K.moved hW.alike hK, hD⟩⟩, hS.F ht⟩) hS.2.2 d_Model_told_129
  · cases hf
    exact W.iret B.exec B.bytes hr (fun t ht hW => ⟨⟨_, (), rfl, rfl, ⟨by rw [ht]; exact hP, va_K.moved hW.alike hK, hD⟩⟩, hS.F ht⟩) hS.2.2 d_Model_told_131
  · cases hf
    exact W.iret B.exec B.bytes hr (fun t ht hW => ⟨⟨_, (), rfl, rfl, ⟨by rw [ht]; exact hP, va_K.moved hW.alike hK, hD⟩⟩, hS.F ht⟩) hS.2.2 d_Model_told_146
  · cases hf
    exact W.iret B.exec B.bytes hr (fun t ht hW => ⟨⟨_, (), rfl, rfl, ⟨by rw [ht]; exact hP, va_K.moved hW.alike hK, hD⟩⟩, hS.F ht⟩) hS.2.2 d_Model_told_153
  · cases hf
    exact W.iret B.exec B.bytes hr (fun t ht hW => ⟨⟨_, (), rfl, rfl, ⟨by rw [ht]; exact hP, va_K.moved hW.alike hK, hD⟩⟩, hS.F ht⟩) hS.2.2 d_Model_told_160
  · cases hf
    exact W.iret B.exec B.bytes hr (fun t ht hW => ⟨⟨_, (), rfl, rfl, ⟨by rw [ht]; exact hP, va_K.moved hW.alike hK, hD⟩⟩, hS.F ht⟩) hS.2.2 d_Model_told_167
  · cases hf
    exact W.iret B.exec B.bytes hr (fun t ht hW => ⟨⟨_, (), rfl, rfl, ⟨by rw [ht]; exact hP, va_K.moved hW.alike hK, hD⟩⟩, hS.F ht⟩) hS.2.2 d_Model_told_173

/-! Model_differs -/
def l_Model_differs_37 (mo : Mo) (x1 : Int32) (x2 : Int32) (k81 : Int32 → Option (Int32)) : Nat → Int32 → Int32 → Option (Int32)
  | 0, _, _ => none
  | n + 1, x3, x4 => (if 16 ≤ x4 then k81 x3 else gd (inb ((16 * x1) + x4) 1280) <| gd (inb ((16 * x2) + x4) 1280) <| bd (f_Model_ones ((Mo_rw mo ((16 * x1) + x4).toNatClampNeg) ^^^ (Mo_rw mo ((16 * x2) + x4).toNatClampNeg))) <| fun r_11 => lt' (x3 + r_11) <| fun x3_12 => lt' (x4 + 1) <| fun x4_13 => (l_Model_differs_37 mo x1 x2 k81 n) x3_12 x4_13)
def f_Model_differs (mo : Mo) (x1 : Int32) (x2 : Int32) : Option (Int32) := gd (inb x1 80) <| gd (inb x2 80) <| (if (Mo_wd mo x1.toNatClampNeg) = (Mo_wd mo x2.toNatClampNeg) then gd (inb x1 80) <| gd (inb x2 80) <| (if (Mo_ht mo x1.toNatClampNeg) = (Mo_ht mo x2.toNatClampNeg) then l_Model_differs_37 mo x1 x2 (fun x3_14 => some x3_14) 100000 0 0 else some (-1)) else some (-1))
section
variable {p : Program} {l : Launch} {e : Env} {R : Room} {s : State} {m : MethodId} {args : Array Value} {below : List Frame} {meth : Method} {c : Code} {Q : State → Prop} {A : Nat → Prop}
set_option maxHeartbeats 4000000 in
set_option maxRecDepth 100000 in
theorem L_Model_differs_37 {cells slots : Nat} {dC : Nat → ClassId} {dI : Nat → Nat → Nat} {cI cZ cJ : ClassId} {mo_a : Nat → Nat} {mo : Mo} {x1 : Int32} {x2 : Int32} {k81 : Int32 → Option (Int32)} {res : Int32} (C0 : cxt p c m s args R cells slots R_Model c_Model_differs tb 5 (dC, dI) vwCl (TYS cI cZ cJ) A 1 22)
    (hk81 : ∀ (H : Heap) (locs : List Loc) (ls : Array Slot) (x3_7 : Int32), va_P (dC, dI) vwCl (wMo cI cZ cJ mo_a mo) H → va_D A (wMo cI cZ cJ mo_a mo) → va_S A s.heap H locs → lv_has ls 5 [(3, .int x3_7)] → k81 x3_7 = some res → W p l e R s m args below meth c H locs cells slots Q (F0 m 81 ls [])) :
    ∀ (n : Nat) (H : Heap) (locs : List Loc) (ls : Array Slot) (x3 : Int32) (x4 : Int32), va_P (dC, dI) vwCl (wMo cI cZ cJ mo_a mo) H → va_D A (wMo cI cZ cJ mo_a mo) → va_S A s.heap H locs → lv_has ls 5 [(0, .ref (mo_a 0)), (1, .int x1), (2, .int x2), (3, .int x3), (4, .int x4)] → l_Model_differs_37 mo x1 x2 k81 n x3 x4 = some res → W p l e R s m args below meth c H locs cells slots Q (F0 m 37 ls []) := by
  obtain ⟨hx, hb, hml, hown, hts, hK, hA, hRf, hRl, hN, hRc⟩ := id C0
  intro n
  induction n with
  | zero =>
    intro H locs ls x3 x4 hP hD hS hl hf
    exact absurd hf (by simp [l_Model_differs_37])
  | succ n ih =>
    intro H locs ls x3 x4 hP hD hS hl hf
    rw [l_Model_differs_37] at hf
    refine lv_iload hx hb d_Model_differs_37 (lv_at hl 4 rfl) ?_
    refine lv_bipush (v := 16) hx hb d_Model_differs_39 (by decide) ?_
    refine lv_icmp_ge (tgt := 81) hx hb d_Model_differs_41 (by decide) (fun c_8 => ?_) (fun c_8 => ?_)
    · rw [if_pos c_8] at hf
      exact hk81 _ _ _ x3 hP hD hS (lv_sub hl [3] rfl) hf
    · rw [if_neg c_8] at hf
      refine lv_iload_n hx hb d_Model_differs_44 rfl (lv_at hl 3 rfl) ?_
      refine lv_aload_n hx hb d_Model_differs_45 rfl (lv_at hl 0 rfl) ?_
      refine va_get (D := (dC, dI)) (ci := 7) (v := .ref (mo_a 3)) (C := R_Model) (T := T_Model) (N := 27) hx hb hts in_Model hown hK hP 0 rfl rfl 5 (by decide) (hts _ t_829) (fun _ h9 => h9) rfl d_Model_differs_46 ?_
      refine lv_bipush (v := 16) hx hb d_Model_differs_49 (by decide) ?_
      refine lv_iload_n hx hb d_Model_differs_51 rfl (lv_at hl 1 rfl) ?_
      refine lv_imul hx hb d_Model_differs_52 ?_
      refine lv_iload hx hb d_Model_differs_53 (lv_at hl 4 rfl) ?_
      refine lv_iadd hx hb d_Model_differs_55 ?_
      obtain ⟨h_9, hf⟩ := gd_ex hf
      refine va_iald (f := Mo_rw mo) hx hb hK hP 3 0 rfl rfl (inb_in h_9) d_Model_differs_56 ?_
      refine lv_aload_n hx hb d_Model_differs_57 rfl (lv_at hl 0 rfl) ?_
      refine va_get (D := (dC, dI)) (ci := 7) (v := .ref (mo_a 3)) (C := R_Model) (T := T_Model) (N := 27) hx hb hts in_Model hown hK hP 0 rfl rfl 5 (by decide) (hts _ t_829) (fun _ h9 => h9) rfl d_Model_differs_58 ?_
      refine lv_bipush (v := 16) hx hb d_Model_differs_61 (by decide) ?_
      refine lv_iload_n hx hb d_Model_differs_63 rfl (lv_at hl 2 rfl) ?_
      refine lv_imul hx hb d_Model_differs_64 ?_
      refine lv_iload hx hb d_Model_differs_65 (lv_at hl 4 rfl) ?_
      refine lv_iadd hx hb d_Model_differs_67 ?_
      obtain ⟨h_10, hf⟩ := gd_ex hf
      refine va_iald (f := Mo_rw mo) hx hb hK hP 3 0 rfl rfl (inb_in h_10) d_Model_differs_68 ?_
      refine lv_ixor hx hb d_Model_differs_69 ?_
      obtain ⟨r_11, hf1, hf⟩ := bd_ex hf
      try dsimp only at hf
      have hPc := hP.sub (ws' := ([] : va_W)) [] rfl
      have hDc := hD.sub (ws' := ([] : va_W)) [] (by decide) rfl
      have hFc := va_free (wc := ([] : va_W)) hD hS hA [] rfl
      refine va_calli (va_runS (As := [.int ((Mo_rw mo ((16 * x1) + x4).toNatClampNeg) ^^^ (Mo_rw mo ((16 * x2) + x4).toNatClampNeg))]) (rest := [.int x3]) ⟨hx, hb, hml, hown, hts⟩ (k_Model_ones l dC dI cI cZ cJ H.size hf1) (cwS 1 hts (gS t_938 t_939 t_63 t_940) rfl rfl rfl hd_Model_ones ⟨Nat.le_trans (Nat.le_of_ble_eq_true rfl) hRf, Nat.le_trans (Nat.le_of_ble_eq_true rfl) hRl⟩) ⟨kP_blind, kP_at hPc hK hDc hN⟩ rfl rfl hl.1 rfl (lv_room (Nat.le_of_ble_eq_true rfl)) d_Model_differs_70 hRc) hS (fun q _ h => hFc q h) hFc (fun r9 u t H1 locs ht hvm hw hB hz1 hk1 hS => ?_)
      rw [hw]
      obtain ⟨hP, hD⟩ := kQ_join (wr := (wMo cI cZ cJ mo_a mo)) (w1 := ([] : va_W)) hP hD [] [0, 1, 2, 3, 4, 5, 6, 7, 8, 9, 10, 11, 12, 13, 14, 15] rfl rfl (by decide) (by decide) ht hk1 hFc hB
      generalize H1 = H at hP hS ⊢
      have hP : va_P (dC, dI) vwCl (wMo cI cZ cJ mo_a mo) H := hP.sub [0, 1, 2, 3, 4, 5, 6, 7, 8, 9, 10, 11, 12, 13, 14, 15] rfl
      have hD : va_D A (wMo cI cZ cJ mo_a mo) := hD.sub [0, 1, 2, 3, 4, 5, 6, 7, 8, 9, 10, 11, 12, 13, 14, 15] (by decide) rfl
      refine lv_iadd hx hb d_Model_differs_73 ?_
      obtain ⟨x3_12, ex3_12, hf⟩ := lt_ex hf
      try dsimp only at hf
      refine tp_i ex3_12 ?_
      refine lv_istore_n (lv' := [(3, .int x3_12), (0, .ref (mo_a 0)), (1, .int x1), (2, .int x2), (4, .int x4)]) hx hb d_Model_differs_74 rfl hl (by decide) rfl (fun ls hl => ?_)
      obtain ⟨x4_13, ex4_13, hf⟩ := lt_ex hf
      try dsimp only at hf
      refine lv_iinc (v := x4_13) (lv' := [(4, .int x4_13), (3, .int x3_12), (0, .ref (mo_a 0)), (1, .int x1), (2, .int x2)]) hx hb d_Model_differs_75 hl (k := 4) rfl (by rw [ex4_13]; rfl) (by decide) rfl (fun ls hl => ?_)
      refine lv_goto (tgt := 37) hx hb d_Model_differs_78 (by decide) ?_
      exact ih _ _ _ x3_12 x4_13 hP hD hS (lv_sub hl [2, 3, 4, 1, 0] rfl) hf
set_option maxHeartbeats 4000000 in
set_option maxRecDepth 100000 in
theorem B_Model_differs {cells slots : Nat} {dC : Nat → ClassId} {dI : Nat → Nat → Nat} {cI cZ cJ : ClassId} {mo_a : Nat → Nat} {mo : Mo} {x1 : Int32} {x2 : Int32} {res : Int32} (C0 : cxt p c m s args R cells slots R_Model c_Model_differs tb 5 (dC, dI) vwCl (TYS cI cZ cJ) A 1 22)
    (hr31 : ∀ (H : Heap) (locs : List Loc) (ls : Array Slot) (v : Int32), va_P (dC, dI) vwCl (wMo cI cZ cJ mo_a mo) H → va_D A (wMo cI cZ cJ mo_a mo) → va_S A s.heap H locs → some v = some res → W p l e R s m args below meth c H locs cells slots Q (F0 m 31 ls [.int v]))
    (hr82 : ∀ (H : Heap) (locs : List Loc) (ls : Array Slot) (v : Int32), va_P (dC, dI) vwCl (wMo cI cZ cJ mo_a mo) H → va_D A (wMo cI cZ cJ mo_a mo) → va_S A s.heap H locs → some v = some res → W p l e R s m args below meth c H locs cells slots Q (F0 m 82 ls [.int v]))
    {H : Heap} {locs : List Loc} {ls : Array Slot} (hP : va_P (dC, dI) vwCl (wMo cI cZ cJ mo_a mo) H) (hD : va_D A (wMo cI cZ cJ mo_a mo)) (hS : va_S A s.heap H locs) (hl : lv_has ls 5 [(0, .ref (mo_a 0)), (1, .int x1), (2, .int x2)]) (hf : f_Model_differs mo x1 x2 = some res) : W p l e R s m args below meth c H locs cells slots Q (F0 m 0 ls []) := by
  obtain ⟨hx, hb, hml, hown, hts, hK, hA, hRf, hRl, hN, hRc⟩ := id C0
  rw [f_Model_differs] at hf
  refine lv_aload_n hx hb d_Model_differs_0 rfl (lv_at hl 0 rfl) ?_
  refine va_get (D := (dC, dI)) (ci := 7) (v := .ref (mo_a 1)) (C := R_Model) (T := T_Model) (N := 27) hx hb hts in_Model hown hK hP 0 rfl rfl 3 (by decide) (hts _ t_827) (fun _ h9 => h9) rfl d_Model_differs_1 ?_
  refine lv_iload_n hx hb d_Model_differs_4 rfl (lv_at hl 1 rfl) ?_
  obtain ⟨h_1, hf⟩ := gd_ex hf
  refine va_iald (f := Mo_wd mo) hx hb hK hP 1 0 rfl rfl (inb_in h_1) d_Model_differs_5 ?_
  refine lv_aload_n hx hb d_Model_differs_6 rfl (lv_at hl 0 rfl) ?_
  refine va_get (D := (dC, dI)) (ci := 7) (v := .ref (mo_a 1)) (C := R_Model) (T := T_Model) (N := 27) hx hb hts in_Model hown hK hP 0 rfl rfl 3 (by decide) (hts _ t_827) (fun _ h9 => h9) rfl d_Model_differs_7 ?_
  refine lv_iload_n hx hb d_Model_differs_10 rfl (lv_at hl 2 rfl) ?_
  obtain ⟨h_2, hf⟩ := gd_ex hf
  refine va_iald (f := Mo_wd mo) hx hb hK hP 1 0 rfl rfl (inb_in h_2) d_Model_differs_11 ?_
  refine lv_icmp_ne (tgt := 30) hx hb d_Model_differs_12 (by decide) (fun c_3 => ?_) (fun c_3 => ?_)
  · rw [if_neg c_3] at hf
    refine lv_iconst (v := (-1)) hx hb d_Model_differs_30 (by decide) ?_
    exact hr31 _ _ _ (-1) hP hD hS hf
  · rw [if_pos c_3] at hf
    refine lv_aload_n hx hb d_Model_differs_15 rfl (lv_at hl 0 rfl) ?_
    refine va_get (D := (dC, dI)) (ci := 7) (v := .ref (mo_a 2)) (C := R_Model) (T := T_Model) (N := 27) hx hb hts in_Model hown hK hP 0 rfl rfl 4 (by decide) (hts _ t_828) (fun _ h9 => h9) rfl d_Model_differs_16 ?_
    refine lv_iload_n hx hb d_Model_differs_19 rfl (lv_at hl 1 rfl) ?_
    obtain ⟨h_4, hf⟩ := gd_ex hf
    refine va_iald (f := Mo_ht mo) hx hb hK hP 2 0 rfl rfl (inb_in h_4) d_Model_differs_20 ?_
    refine lv_aload_n hx hb d_Model_differs_21 rfl (lv_at hl 0 rfl) ?_
    refine va_get (D := (dC, dI)) (ci := 7) (v := .ref (mo_a 2)) (C := R_Model) (T := T_Model) (N := 27) hx hb hts in_Model hown hK hP 0 rfl rfl 4 (by decide) (hts _ t_828) (fun _ h9 => h9) rfl d_Model_differs_22 ?_
    refine lv_iload_n hx hb d_Model_differs_25 rfl (lv_at hl 2 rfl) ?_
    obtain ⟨h_5, hf⟩ := gd_ex hf
    refine va_iald (f := Mo_ht mo) hx hb hK hP 2 0 rfl rfl (inb_in h_5) d_Model_differs_26 ?_
    refine lv_icmp_eq (tgt := 32) hx hb d_Model_differs_27 (by decide) (fun c_6 => ?_) (fun c_6 => ?_)
    · rw [if_pos c_6] at hf
      refine lv_iconst (v := 0) hx hb d_Model_differs_32 (by decide) ?_
      refine lv_istore_n (lv' := [(3, .int 0), (0, .ref (mo_a 0)), (1, .int x1), (2, .int x2)]) hx hb d_Model_differs_33 rfl hl (by decide) rfl (fun ls hl => ?_)
      refine lv_iconst (v := 0) hx hb d_Model_differs_34 (by decide) ?_
      refine lv_istore (lv' := [(4, .int 0), (3, .int 0), (0, .ref (mo_a 0)), (1, .int x1), (2, .int x2)]) hx hb d_Model_differs_35 hl (by decide) rfl (fun ls hl => ?_)
      refine L_Model_differs_37 C0 (fun H locs ls x3_14 hP hD hS hl hf => ?_) 100000 _ _ _ 0 0 hP hD hS (lv_sub hl [2, 3, 4, 1, 0] rfl) hf
      try dsimp only at hf
      refine lv_iload_n hx hb d_Model_differs_81 rfl (lv_at hl 0 rfl) ?_
      exact hr82 _ _ _ x3_14 hP hD hS hf
    · rw [if_neg c_6] at hf
      refine lv_iconst (v := (-1)) hx hb d_Model_differs_30 (by decide) ?_
      exact hr31 _ _ _ (-1) hP hD hS hf
end
set_option maxHeartbeats 4000000 in
set_option maxRecDepth 100000 in
theorem k_Model_differs (l : Launch) (dC : Nat → ClassId) (dI : Nat → Nat → Nat) (cI cZ cJ : ClassId) (mo_a : Nat → Nat) (sz : Nat) {mo : Mo} {x1 : Int32} {x2 : Int32} {r : Int32} (hf : f_Model_differs mo x1 x2 = some r) :
    Met l y_Model_differs ws_Model_differs ({ frames := 1, cells := 0, slots := 0, locals := 22 }) (va_Pc [.ref (mo_a 0), .int x1, .int x2] (kP (dC, dI) vwCl (TYS cI cZ cJ) (wMo cI cZ cJ mo_a mo) sz)) (va_Qi (fun (q : Int32) (_ : Unit) => q = r) (fun _ t => kQ (dC, dI) vwCl (TYS cI cZ cJ) (wMo cI cZ cJ mo_a mo) sz (wMo cI cZ cJ mo_a mo) t) (va_A (wMo cI cZ cJ mo_a mo) sz)) 0 0 (va_A (wMo cI cZ cJ mo_a mo) sz) := by
  refine Met.ofW (cc := c_Model_differs) (maxL := 5) (ret := (some .int)) (by decide) rfl ?_
  intro p e s m args below meth c s₁ B hml hv
  obtain ⟨rfl, hsz, hP, hK, hD0, hN⟩ := hv
  have hr := B.returns
  have hlocks := B.notSynchronized
  subst hsz
  have hD := hD0.self (sz := s.heap.size)
  have hl := lv_entry ([.ref (mo_a 0), .int x1, .int x2]) (n := 5) (Nat.le_of_ble_eq_true rfl)
  rw [lg_entry_eq]
  generalize (lg_sl ([.ref (mo_a 0), .int x1, .int x2]) ++ List.replicate (5 - (lg_sl ([.ref (mo_a 0), .int x1, .int x2])).length) Slot.unset).toArray = ls at hl ⊢
  refine B_Model_differs (A := va_A (wMo cI cZ cJ mo_a mo) s.heap.size) ⟨B.exec, B.bytes, hml, findClass_of_methodNamed B.named, fun w h => atoms_spec (ws := ws_Model_differs) B.pre w (List.mem_cons_of_mem _ h), hK, fun q h => Or.inr h, Nat.le_of_ble_eq_true rfl, Nat.le_of_ble_eq_true rfl, hN, Nat.le_of_ble_eq_true rfl, Nat.le_of_ble_eq_true rfl⟩ (fun H locs ls v hP hD hS hf => ?_) (fun H locs ls v hP hD hS hf => ?_) hP hD va_S.rf hl hf
  · cases hf
    exact W.iret B.exec B.bytes hr (fun t ht hW => ⟨⟨_, (), rfl, rfl, ⟨by rw [ht]; exact hP, va_K.moved hW.alike hK, hD⟩⟩, hS.F ht⟩) hS.2.2 d_Model_differs_31
  · cases hf
    exact W.iret B.exec B.bytes hr (fun t ht hW => ⟨⟨_, (), rfl, rfl, ⟨by rw [ht]; exact hP, va_K.moved hW.alike hK, hD⟩⟩, hS.F ht⟩) hS.2.2 d_Model_differs_82

/-! Model_likeness -/
def j_Model_likeness_22_3 (mo : Mo) (x1 : Int32) (x2 : Int32) (z0_2 : Int32) : Option (Int32 × Mo) := bd (f_Model_refuses mo z0_2) <| fun (r_4, mo_5) => (if r_4 = 0 then bd (f_Model_differs mo_5 x1 x2) <| fun r_7 => some (r_7, mo_5) else some (0, mo_5))
def f_Model_likeness (mo : Mo) (x1 : Int32) (x2 : Int32) : Option (Int32 × Mo) := bd (f_Model_isSymbol mo x1) <| fun r_1 => (if r_1 = 0 then j_Model_likeness_22_3 mo x1 x2 1 else bd (f_Model_isSymbol mo x2) <| fun r_9 => (if r_9 = 0 then j_Model_likeness_22_3 mo x1 x2 1 else j_Model_likeness_22_3 mo x1 x2 0))
section
variable {p : Program} {l : Launch} {e : Env} {R : Room} {s : State} {m : MethodId} {args : Array Value} {below : List Frame} {meth : Method} {c : Code} {Q : State → Prop} {A : Nat → Prop}
set_option maxHeartbeats 4000000 in
set_option maxRecDepth 100000 in
theorem B_Model_likeness {cells slots : Nat} {dC : Nat → ClassId} {dI : Nat → Nat → Nat} {cI cZ cJ : ClassId} {mo_a : Nat → Nat} {mo : Mo} {x1 : Int32} {x2 : Int32} {res : Int32 × Mo} (C0 : cxt p c m s args R cells slots R_Model c_Model_likeness tb 3 (dC, dI) vwCl (TYS cI cZ cJ) A 2 46)
    (hr38 : ∀ (H : Heap) (locs : List Loc) (ls : Array Slot) (v : Int32) (mo' : Mo), va_P (dC, dI) vwCl (wMo cI cZ cJ mo_a mo') H → va_D A (wMo cI cZ cJ mo_a mo') → va_S A s.heap H locs → some (v, mo') = some res → W p l e R s m args below meth c H locs cells slots Q (F0 m 38 ls [.int v]))
    {H : Heap} {locs : List Loc} {ls : Array Slot} (hP : va_P (dC, dI) vwCl (wMo cI cZ cJ mo_a mo) H) (hD : va_D A (wMo cI cZ cJ mo_a mo)) (hS : va_S A s.heap H locs) (hl : lv_has ls 3 [(0, .ref (mo_a 0)), (1, .int x1), (2, .int x2)]) (hf : f_Model_likeness mo x1 x2 = some res) : W p l e R s m args below meth c H locs cells slots Q (F0 m 0 ls []) := by
  obtain ⟨hx, hb, hml, hown, hts, hK, hA, hRf, hRl, hN, hRc⟩ := id C0
  rw [f_Model_likeness] at hf
  refine lv_aload_n hx hb d_Model_likeness_0 rfl (lv_at hl 0 rfl) ?_
  refine lv_aload_n hx hb d_Model_likeness_1 rfl (lv_at hl 0 rfl) ?_
  refine lv_iload_n hx hb d_Model_likeness_2 rfl (lv_at hl 1 rfl) ?_
  obtain ⟨r_1, hf1, hf⟩ := bd_ex hf
  try dsimp only at hf
  have hPc := hP.sub (ws' := (wMo cI cZ cJ mo_a mo)) [0, 1, 2, 3, 4, 5, 6, 7, 8, 9, 10, 11, 12, 13, 14, 15] rfl
  have hDc := hD.sub (ws' := (wMo cI cZ cJ mo_a mo)) [0, 1, 2, 3, 4, 5, 6, 7, 8, 9, 10, 11, 12, 13, 14, 15] (by decide) rfl
  have hFc := va_free (wc := (wMo cI cZ cJ mo_a mo)) hD hS hA [0, 1, 2, 3, 4, 5, 6, 7, 8, 9, 10, 11, 12, 13, 14, 15] rfl
  refine va_calli (va_runV (As := [.int x1]) (rest := [.ref (mo_a 0)]) ⟨hx, hb, hml, hown, hts⟩ (k_Model_isSymbol l dC dI cI cZ cJ mo_a H.size hf1) (cwV 1 hts (gV t_926 t_928 t_25 t_63 t_929) rfl rfl rfl hd_Model_isSymbol ⟨Nat.le_trans (Nat.le_of_ble_eq_true rfl) hRf, Nat.le_trans (Nat.le_of_ble_eq_true rfl) hRl⟩) ⟨kP_blind, va_recv hK hP (ci := 7) (q0 := 0) rfl rfl, kP_at hPc hK hDc hN⟩ rfl rfl hl.1 rfl (lv_room (Nat.le_of_ble_eq_true rfl)) d_Model_likeness_3 hRc) hS (fun q _ h => hFc q h) hFc (fun r9 u t H1 locs ht hvm hw hB hz1 hk1 hS => ?_)
  rw [hw.1]
  obtain ⟨hP, hD⟩ := kQ_join (wr := ([] : va_W)) (w1 := (wMo cI cZ cJ mo_a mo)) hP hD [0, 1, 2, 3, 4, 5, 6, 7, 8, 9, 10, 11, 12, 13, 14, 15] [] rfl rfl (by decide) (by decide) ht hk1 hFc hB
  generalize H1 = H at hP hS ⊢
  have hP : va_P (dC, dI) vwCl (wMo cI cZ cJ mo_a mo) H := hP.sub [0, 1, 2, 3, 4, 5, 6, 7, 8, 9, 10, 11, 12, 13, 14, 15] rfl
  have hD : va_D A (wMo cI cZ cJ mo_a mo) := hD.sub [0, 1, 2, 3, 4, 5, 6, 7, 8, 9, 10, 11, 12, 13, 14, 15] (by decide) rfl
  have J22_2 : ∀ (H : Heap) (locs : List Loc) (ls : Array Slot) (z0_2 : Int32), va_P (dC, dI) vwCl (wMo cI cZ cJ mo_a mo) H → va_D A (wMo cI cZ cJ mo_a mo) → va_S A s.heap H locs → lv_has ls 3 [(0, .ref (mo_a 0)), (1, .int x1), (2, .int x2)] → j_Model_likeness_22_3 mo x1 x2 z0_2 = some res → W p l e R s m args below meth c H locs cells slots Q (F0 m 22 ls [.int z0_2, .ref (mo_a 0)]) := by
    intro H locs ls z0_2 hP hD hS hl hf
    rw [j_Model_likeness_22_3] at hf
    obtain ⟨⟨r_4, mo_5⟩, hf1, hf⟩ := bd_ex hf
    try dsimp only at hf
    have hPc := hP.sub (ws' := (wMo cI cZ cJ mo_a mo)) [0, 1, 2, 3, 4, 5, 6, 7, 8, 9, 10, 11, 12, 13, 14, 15] rfl
    have hDc := hD.sub (ws' := (wMo cI cZ cJ mo_a mo)) [0, 1, 2, 3, 4, 5, 6, 7, 8, 9, 10, 11, 12, 13, 14, 15] (by decide) rfl
    have hFc := va_free (wc := (wMo cI cZ cJ mo_a mo)) hD hS hA [0, 1, 2, 3, 4, 5, 6, 7, 8, 9, 10, 11, 12, 13, 14, 15] rfl
    refine va_calli (va_runV (As := [.int z0_2]) (rest := []) ⟨hx, hb, hml, hown, hts⟩ (k_Model_refuses l dC dI cI cZ cJ mo_a H.size hf1) (cwV 1 hts (gV t_914 t_916 t_23 t_63 t_917) rfl rfl rfl hd_Model_refuses ⟨Nat.le_trans (Nat.le_of_ble_eq_true rfl) hRf, Nat.le_trans (Nat.le_of_ble_eq_true rfl) hRl⟩) ⟨kP_blind, va_recv hK hP (ci := 7) (q0 := 0) rfl rfl, kP_at hPc hK hDc hN⟩ rfl rfl hl.1 rfl (lv_room (Nat.le_of_ble_eq_true rfl)) d_Model_likeness_22 hRc) hS (fun q _ h => hFc q h) hFc (fun r9 u t H1 locs ht hvm hw hB hz1 hk1 hS => ?_)
    rw [hw.1]
    obtain ⟨hP, hD⟩ := kQ_join (wr := ([] : va_W)) (w1 := (wMo cI cZ cJ mo_a mo_5)) hP hD [0, 1, 2, 3, 4, 5, 6, 7, 8, 9, 10, 11, 12, 13, 14, 15] [] rfl rfl (by decide) (by decide) ht hk1 hFc hB
    generalize H1 = H at hP hS ⊢
    have hP : va_P (dC, dI) vwCl (wMo cI cZ cJ mo_a mo_5) H := hP.sub [0, 1, 2, 3, 4, 5, 6, 7, 8, 9, 10, 11, 12, 13, 14, 15] rfl
    have hD : va_D A (wMo cI cZ cJ mo_a mo_5) := hD.sub [0, 1, 2, 3, 4, 5, 6, 7, 8, 9, 10, 11, 12, 13, 14, 15] (by decide) rfl
    refine lv_if_eq (tgt := 32) hx hb d_Model_likeness_25 (by decide) (fun c_6 => ?_) (fun c_6 => ?_)
    · rw [if_pos c_6] at hf
      refine lv_aload_n hx hb d_Model_likeness_32 rfl (lv_at hl 0 rfl) ?_
      refine lv_iload_n hx hb d_Model_likeness_33 rfl (lv_at hl 1 rfl) ?_
      refine lv_iload_n hx hb d_Model_likeness_34 rfl (lv_at hl 2 rfl) ?_
      obtain ⟨r_7, hf1, hf⟩ := bd_ex hf
      try dsimp only at hf
      have hPc := hP.sub (ws' := (wMo cI cZ cJ mo_a mo_5)) [0, 1, 2, 3, 4, 5, 6, 7, 8, 9, 10, 11, 12, 13, 14, 15] rfl
      have hDc := hD.sub (ws' := (wMo cI cZ cJ mo_a mo_5)) [0, 1, 2, 3, 4, 5, 6, 7, 8, 9, 10, 11, 12, 13, 14, 15] (by decide) rfl
      have hFc := va_free (wc := (wMo cI cZ cJ mo_a mo_5)) hD hS hA [0, 1, 2, 3, 4, 5, 6, 7, 8, 9, 10, 11, 12, 13, 14, 15] rfl
      refine va_calli (va_runV (As := [.int x1, .int x2]) (rest := []) ⟨hx, hb, hml, hown, hts⟩ (k_Model_differs l dC dI cI cZ cJ mo_a H.size hf1) (cwV 2 hts (gV t_1091 t_1093 t_52 t_63 t_1094) rfl rfl rfl hd_Model_differs ⟨Nat.le_trans (Nat.le_of_ble_eq_true rfl) hRf, Nat.le_trans (Nat.le_of_ble_eq_true rfl) hRl⟩) ⟨kP_blind, va_recv hK hP (ci := 7) (q0 := 0) rfl rfl, kP_at hPc hK hDc hN⟩ rfl rfl hl.1 rfl (lv_room (Nat.le_of_ble_eq_true rfl)) d_Model_likeness_35 hRc) hS (fun q _ h => hFc q h) hFc (fun r9 u t H1 locs ht hvm hw hB hz1 hk1 hS => ?_)
      rw [hw]
      obtain ⟨hP, hD⟩ := kQ_join (wr := ([] : va_W)) (w1 := (wMo cI cZ cJ mo_a mo_5)) hP hD [0, 1, 2, 3, 4, 5, 6, 7, 8, 9, 10, 11, 12, 13, 14, 15] [] rfl rfl (by decide) (by decide) ht hk1 hFc hB
      generalize H1 = H at hP hS ⊢
      have hP : va_P (dC, dI) vwCl (wMo cI cZ cJ mo_a mo_5) H := hP.sub [0, 1, 2, 3, 4, 5, 6, 7, 8, 9, 10, 11, 12, 13, 14, 15] rfl
      have hD : va_D A (wMo cI cZ cJ mo_a mo_5) := hD.sub [0, 1, 2, 3, 4, 5, 6, 7, 8, 9, 10, 11, 12, 13, 14, 15] (by decide) rfl
      exact hr38 _ _ _ r_7 mo_5 hP hD hS hf
    · rw [if_neg c_6] at hf
      refine lv_iconst (v := 0) hx hb d_Model_likeness_28 (by decide) ?_
      refine lv_goto (tgt := 38) hx hb d_Model_likeness_29 (by decide) ?_
      exact hr38 _ _ _ 0 mo_5 hP hD hS hf
  refine lv_if_eq (tgt := 21) hx hb d_Model_likeness_6 (by decide) (fun c_8 => ?_) (fun c_8 => ?_)
  · rw [if_pos c_8] at hf
    refine lv_iconst (v := 1) hx hb d_Model_likeness_21 (by decide) ?_
    exact J22_2 _ _ _ 1 hP hD hS (lv_sub hl [0, 1, 2] rfl) hf
  · rw [if_neg c_8] at hf
    refine lv_aload_n hx hb d_Model_likeness_9 rfl (lv_at hl 0 rfl) ?_
    refine lv_iload_n hx hb d_Model_likeness_10 rfl (lv_at hl 2 rfl) ?_
    obtain ⟨r_9, hf1, hf⟩ := bd_ex hf
    try dsimp only at hf
    have hPc := hP.sub (ws' := (wMo cI cZ cJ mo_a mo)) [0, 1, 2, 3, 4, 5, 6, 7, 8, 9, 10, 11, 12, 13, 14, 15] rfl
    have hDc := hD.sub (ws' := (wMo cI cZ cJ mo_a mo)) [0, 1, 2, 3, 4, 5, 6, 7, 8, 9, 10, 11, 12, 13, 14, 15] (by decide) rfl
    have hFc := va_free (wc := (wMo cI cZ cJ mo_a mo)) hD hS hA [0, 1, 2, 3, 4, 5, 6, 7, 8, 9, 10, 11, 12, 13, 14, 15] rfl
    refine va_calli (va_runV (As := [.int x2]) (rest := [.ref (mo_a 0)]) ⟨hx, hb, hml, hown, hts⟩ (k_Model_isSymbol l dC dI cI cZ cJ mo_a H.size hf1) (cwV 1 hts (gV t_926 t_928 t_25 t_63 t_929) rfl rfl rfl hd_Model_isSymbol ⟨Nat.le_trans (Nat.le_of_ble_eq_true rfl) hRf, Nat.le_trans (Nat.le_of_ble_eq_true rfl) hRl⟩) ⟨kP_blind, va_recv hK hP (ci := 7) (q0 := 0) rfl rfl, kP_at hPc hK hDc hN⟩ rfl rfl hl.1 rfl (lv_room (Nat.le_of_ble_eq_true rfl)) d_Model_likeness_11 hRc) hS (fun q _ h => hFc q h) hFc (fun r9 u t H1 locs ht hvm hw hB hz1 hk1 hS => ?_)
    rw [hw.1]
    obtain ⟨hP, hD⟩ := kQ_join (wr := ([] : va_W)) (w1 := (wMo cI cZ cJ mo_a mo)) hP hD [0, 1, 2, 3, 4, 5, 6, 7, 8, 9, 10, 11, 12, 13, 14, 15] [] rfl rfl (by decide) (by decide) ht hk1 hFc hB
    generalize H1 = H at hP hS ⊢
    have hP : va_P (dC, dI) vwCl (wMo cI cZ cJ mo_a mo) H := hP.sub [0, 1, 2, 3, 4, 5, 6, 7, 8, 9, 10, 11, 12, 13, 14, 15] rfl
    have hD : va_D A (wMo cI cZ cJ mo_a mo) := hD.sub [0, 1, 2, 3, 4, 5, 6, 7, 8, 9, 10, 11, 12, 13, 14, 15] (by decide) rfl
    refine lv_if_eq (tgt := 21) hx hb d_Model_likeness_14 (by decide) (fun c_10 => ?_) (fun c_10 => ?_)
    · rw [if_pos c_10] at hf
      refine lv_iconst (v := 1) hx hb d_Model_likeness_21 (by decide) ?_
      exact J22_2 _ _ _ 1 hP hD hS (lv_sub hl [0, 1, 2] rfl) hf
    · rw [if_neg c_10] at hf
      refine lv_iconst (v := 0) hx hb d_Model_likeness_17 (by decide) ?_
      refine lv_goto (tgt := 22) hx hb d_Model_likeness_18 (by decide) ?_
      exact J22_2 _ _ _ 0 hP hD hS (lv_sub hl [0, 1, 2] rfl) hf
end
set_option maxHeartbeats 4000000 in
set_option maxRecDepth 100000 in
theorem k_Model_likeness (l : Launch) (dC : Nat → ClassId) (dI : Nat → Nat → Nat) (cI cZ cJ : ClassId) (mo_a : Nat → Nat) (sz : Nat) {mo : Mo} {x1 : Int32} {x2 : Int32} {r : Int32} {mo' : Mo} (hf : f_Model_likeness mo x1 x2 = some (r, mo')) :
    Met l y_Model_likeness ws_Model_likeness ({ frames := 2, cells := 0, slots := 0, locals := 46 }) (va_Pc [.ref (mo_a 0), .int x1, .int x2] (kP (dC, dI) vwCl (TYS cI cZ cJ) (wMo cI cZ cJ mo_a mo) sz)) (va_Qi (fun (q : Int32) (_ : Unit) => q = r) (fun _ t => kQ (dC, dI) vwCl (TYS cI cZ cJ) (wMo cI cZ cJ mo_a mo) sz (wMo cI cZ cJ mo_a mo') t) (va_A (wMo cI cZ cJ mo_a mo) sz)) 0 0 (va_A (wMo cI cZ cJ mo_a mo) sz) := by
  refine Met.ofW (cc := c_Model_likeness) (maxL := 3) (ret := (some .int)) (by decide) rfl ?_
  intro p e s m args below meth c s₁ B hml hv
  obtain ⟨rfl, hsz, hP, hK, hD0, hN⟩ := hv
  have hr := B.returns
  have hlocks := B.notSynchronized
  subst hsz
  have hD := hD0.self (sz := s.heap.size)
  have hl := lv_entry ([.ref (mo_a 0), .int x1, .int x2]) (n := 3) (Nat.le_of_ble_eq_true rfl)
  rw [lg_entry_eq]
  generalize (lg_sl ([.ref (mo_a 0), .int x1, .int x2]) ++ List.replicate (3 - (lg_sl ([.ref (mo_a 0), .int x1, .int x2])).length) Slot.unset).toArray = ls at hl ⊢
  refine B_Model_likeness (A := va_A (wMo cI cZ cJ mo_a mo) s.heap.size) ⟨B.exec, B.bytes, hml, findClass_of_methodNamed B.named, fun w h => atoms_spec (ws := ws_Model_likeness) B.pre w (List.mem_cons_of_mem _ h), hK, fun q h => Or.inr h, Nat.le_of_ble_eq_true rfl, Nat.le_of_ble_eq_true rfl, hN, Nat.le_of_ble_eq_true rfl, Nat.le_of_ble_eq_true rfl⟩ (fun H locs ls v mo'1 hP hD hS hf => ?_) hP hD va_S.rf hl hf
  · cases hf
    exact W.iret B.exec B.bytes hr (fun t ht hW => ⟨⟨_, (), rfl, rfl, ⟨by rw [ht]; exact hP, va_K.moved hW.alike hK, hD⟩⟩, hS.F ht⟩) hS.2.2 d_Model_likeness_38

/-! Model_classes -/
def l_Model_classes_33 (mo : Mo) (x1 : Int32) (x2 : Int32) (x3 : Int32) (k76 : Int32 → Option (Int32 × Mo)) : Nat → Int32 → Option (Int32 × Mo)
  | 0, _ => none
  | n + 1, x4 => (if x2 ≤ x4 then k76 x4 else gd (inb x4 40) <| bd (f_Model_differs mo (Mo_fc mo x4.toNatClampNeg) x3) <| fun r_12 => (if r_12 < 0 then lt' (x4 + 1) <| fun x4_14 => (l_Model_classes_33 mo x1 x2 x3 k76 n) x4_14 else gd (inb x4 40) <| bd (f_Model_differs mo (Mo_fc mo x4.toNatClampNeg) x3) <| fun r_16 => (if r_16 ≤ x1 then k76 x4 else lt' (x4 + 1) <| fun x4_18 => (l_Model_classes_33 mo x1 x2 x3 k76 n) x4_18)))
def l_Model_classes_22 (x1 : Int32) (k107 : Mo → Int32 → Option (Int32 × Mo)) : Nat → Mo → Int32 → Int32 → Option (Int32 × Mo)
  | 0, _, _, _ => none
  | n + 1, mo, x2, x3 => (if (Mo_n mo) ≤ x3 then k107 mo x2 else l_Model_classes_33 mo x1 x2 x3 (fun x4_19 => gd (inb x3 40) <| lt' (Mo_s_co mo (upd (Mo_co mo) x3.toNatClampNeg x4_19)) <| fun mo_21 => (if x4_19 = x2 then gd (inb x4_19 40) <| lt' (Mo_s_fc mo_21 (upd (Mo_fc mo_21) x4_19.toNatClampNeg x3)) <| fun mo_26 => lt' (x2 + 1) <| fun x2_28 => lt' (x3 + 1) <| fun x3_29 => (l_Model_classes_22 x1 k107 n) mo_26 x2_28 x3_29 else lt' (x3 + 1) <| fun x3_24 => (l_Model_classes_22 x1 k107 n) mo_21 x2 x3_24)) 100000 0)
def j_Model_classes_10_2 (mo : Mo) (x1 : Int32) (z0_1 : Int32) : Option (Int32 × Mo) := bd (f_Model_refuses mo z0_1) <| fun (r_3, mo_4) => (if r_3 = 0 then l_Model_classes_22 x1 (fun mo_30 x2_31 => lt' (Mo_s_cl mo_30 (Mo_n mo_30)) <| fun mo_32 => some (x2_31, mo_32)) 100000 mo_4 0 0 else some (0, mo_4))
def f_Model_classes (mo : Mo) (x1 : Int32) : Option (Int32 × Mo) := (if 0 ≤ x1 then j_Model_classes_10_2 mo x1 0 else j_Model_classes_10_2 mo x1 1)
section
variable {p : Program} {l : Launch} {e : Env} {R : Room} {s : State} {m : MethodId} {args : Array Value} {below : List Frame} {meth : Method} {c : Code} {Q : State → Prop} {A : Nat → Prop}
set_option maxHeartbeats 4000000 in
set_option maxRecDepth 100000 in
theorem L_Model_classes_33 {cells slots : Nat} {dC : Nat → ClassId} {dI : Nat → Nat → Nat} {cI cZ cJ : ClassId} {mo_a : Nat → Nat} {mo : Mo} {x1 : Int32} {x2 : Int32} {x3 : Int32} {k76 : Int32 → Option (Int32 × Mo)} {res : Int32 × Mo} (C0 : cxt p c m s args R cells slots R_Model c_Model_classes tb 5 (dC, dI) vwCl (TYS cI cZ cJ) A 2 46)
    (hk76 : ∀ (H : Heap) (locs : List Loc) (ls : Array Slot) (x4_9 : Int32), va_P (dC, dI) vwCl (wMo cI cZ cJ mo_a mo) H → va_D A (wMo cI cZ cJ mo_a mo) → va_S A s.heap H locs → lv_has ls 5 [(0, .ref (mo_a 0)), (1, .int x1), (2, .int x2), (3, .int x3), (4, .int x4_9)] → k76 x4_9 = some res → W p l e R s m args below meth c H locs cells slots Q (F0 m 76 ls [])) :
    ∀ (n : Nat) (H : Heap) (locs : List Loc) (ls : Array Slot) (x4 : Int32), va_P (dC, dI) vwCl (wMo cI cZ cJ mo_a mo) H → va_D A (wMo cI cZ cJ mo_a mo) → va_S A s.heap H locs → lv_has ls 5 [(0, .ref (mo_a 0)), (1, .int x1), (2, .int x2), (3, .int x3), (4, .int x4)] → l_Model_classes_33 mo x1 x2 x3 k76 n x4 = some res → W p l e R s m args below meth c H locs cells slots Q (F0 m 33 ls []) := by
  obtain ⟨hx, hb, hml, hown, hts, hK, hA, hRf, hRl, hN, hRc⟩ := id C0
  intro n
  induction n with
  | zero =>
    intro H locs ls x4 hP hD hS hl hf
    exact absurd hf (by simp [l_Model_classes_33])
  | succ n ih =>
    intro H locs ls x4 hP hD hS hl hf
    rw [l_Model_classes_33] at hf
    refine lv_iload hx hb d_Model_classes_33 (lv_at hl 4 rfl) ?_
    refine lv_iload_n hx hb d_Model_classes_35 rfl (lv_at hl 2 rfl) ?_
    refine lv_icmp_ge (tgt := 76) hx hb d_Model_classes_36 (by decide) (fun c_10 => ?_) (fun c_10 => ?_)
    · rw [if_pos c_10] at hf
      exact hk76 _ _ _ x4 hP hD hS (lv_sub hl [0, 1, 2, 3, 4] rfl) hf
    · rw [if_neg c_10] at hf
      refine lv_aload_n hx hb d_Model_classes_39 rfl (lv_at hl 0 rfl) ?_
      refine lv_aload_n hx hb d_Model_classes_40 rfl (lv_at hl 0 rfl) ?_
      refine va_get (D := (dC, dI)) (ci := 7) (v := .ref (mo_a 11)) (C := R_Model) (T := T_Model) (N := 27) hx hb hts in_Model hown hK hP 0 rfl rfl 14 (by decide) (hts _ t_838) (fun _ h9 => h9) rfl d_Model_classes_41 ?_
      refine lv_iload hx hb d_Model_classes_44 (lv_at hl 4 rfl) ?_
      obtain ⟨h_11, hf⟩ := gd_ex hf
      refine va_iald (f := Mo_fc mo) hx hb hK hP 11 0 rfl rfl (inb_in h_11) d_Model_classes_46 ?_
      refine lv_iload_n hx hb d_Model_classes_47 rfl (lv_at hl 3 rfl) ?_
      obtain ⟨r_12, hf1, hf⟩ := bd_ex hf
      try dsimp only at hf
      have hPc := hP.sub (ws' := (wMo cI cZ cJ mo_a mo)) [0, 1, 2, 3, 4, 5, 6, 7, 8, 9, 10, 11, 12, 13, 14, 15] rfl
      have hDc := hD.sub (ws' := (wMo cI cZ cJ mo_a mo)) [0, 1, 2, 3, 4, 5, 6, 7, 8, 9, 10, 11, 12, 13, 14, 15] (by decide) rfl
      have hFc := va_free (wc := (wMo cI cZ cJ mo_a mo)) hD hS hA [0, 1, 2, 3, 4, 5, 6, 7, 8, 9, 10, 11, 12, 13, 14, 15] rfl
      refine va_calli (va_runV (As := [.int (Mo_fc mo x4.toNatClampNeg), .int x3]) (rest := []) ⟨hx, hb, hml, hown, hts⟩ (k_Model_differs l dC dI cI cZ cJ mo_a H.size hf1) (cwV 2 hts (gV t_1091 t_1093 t_52 t_63 t_1094) rfl rfl rfl hd_Model_differs ⟨Nat.le_trans (Nat.le_of_ble_eq_true rfl) hRf, Nat.le_trans (Nat.le_of_ble_eq_true rfl) hRl⟩) ⟨kP_blind, va_recv hK hP (ci := 7) (q0 := 0) rfl rfl, kP_at hPc hK hDc hN⟩ rfl rfl hl.1 rfl (lv_room (Nat.le_of_ble_eq_true rfl)) d_Model_classes_48 hRc) hS (fun q _ h => hFc q h) hFc (fun r9 u t H1 locs ht hvm hw hB hz1 hk1 hS => ?_)
      rw [hw]
      obtain ⟨hP, hD⟩ := kQ_join (wr := ([] : va_W)) (w1 := (wMo cI cZ cJ mo_a mo)) hP hD [0, 1, 2, 3, 4, 5, 6, 7, 8, 9, 10, 11, 12, 13, 14, 15] [] rfl rfl (by decide) (by decide) ht hk1 hFc hB
      generalize H1 = H at hP hS ⊢
      have hP : va_P (dC, dI) vwCl (wMo cI cZ cJ mo_a mo) H := hP.sub [0, 1, 2, 3, 4, 5, 6, 7, 8, 9, 10, 11, 12, 13, 14, 15] rfl
      have hD : va_D A (wMo cI cZ cJ mo_a mo) := hD.sub [0, 1, 2, 3, 4, 5, 6, 7, 8, 9, 10, 11, 12, 13, 14, 15] (by decide) rfl
      refine lv_if_lt (tgt := 70) hx hb d_Model_classes_51 (by decide) (fun c_13 => ?_) (fun c_13 => ?_)
      · rw [if_pos c_13] at hf
        obtain ⟨x4_14, ex4_14, hf⟩ := lt_ex hf
        try dsimp only at hf
        refine lv_iinc (v := x4_14) (lv' := [(4, .int x4_14), (0, .ref (mo_a 0)), (1, .int x1), (2, .int x2), (3, .int x3)]) hx hb d_Model_classes_70 hl (k := 4) rfl (by rw [ex4_14]; rfl) (by decide) rfl (fun ls hl => ?_)
        refine lv_goto (tgt := 33) hx hb d_Model_classes_73 (by decide) ?_
        exact ih _ _ _ x4_14 hP hD hS (lv_sub hl [1, 2, 3, 4, 0] rfl) hf
      · rw [if_neg c_13] at hf
        refine lv_aload_n hx hb d_Model_classes_54 rfl (lv_at hl 0 rfl) ?_
        refine lv_aload_n hx hb d_Model_classes_55 rfl (lv_at hl 0 rfl) ?_
        refine va_get (D := (dC, dI)) (ci := 7) (v := .ref (mo_a 11)) (C := R_Model) (T := T_Model) (N := 27) hx hb hts in_Model hown hK hP 0 rfl rfl 14 (by decide) (hts _ t_838) (fun _ h9 => h9) rfl d_Model_classes_56 ?_
        refine lv_iload hx hb d_Model_classes_59 (lv_at hl 4 rfl) ?_
        obtain ⟨h_15, hf⟩ := gd_ex hf
        refine va_iald (f := Mo_fc mo) hx hb hK hP 11 0 rfl rfl (inb_in h_15) d_Model_classes_61 ?_
        refine lv_iload_n hx hb d_Model_classes_62 rfl (lv_at hl 3 rfl) ?_
        obtain ⟨r_16, hf1, hf⟩ := bd_ex hf
        try dsimp only at hf
        have hPc := hP.sub (ws' := (wMo cI cZ cJ mo_a mo)) [0, 1, 2, 3, 4, 5, 6, 7, 8, 9, 10, 11, 12, 13, 14, 15] rfl
        have hDc := hD.sub (ws' := (wMo cI cZ cJ mo_a mo)) [0, 1, 2, 3, 4, 5, 6, 7, 8, 9, 10, 11, 12, 13, 14, 15] (by decide) rfl
        have hFc := va_free (wc := (wMo cI cZ cJ mo_a mo)) hD hS hA [0, 1, 2, 3, 4, 5, 6, 7, 8, 9, 10, 11, 12, 13, 14, 15] rfl
        refine va_calli (va_runV (As := [.int (Mo_fc mo x4.toNatClampNeg), .int x3]) (rest := []) ⟨hx, hb, hml, hown, hts⟩ (k_Model_differs l dC dI cI cZ cJ mo_a H.size hf1) (cwV 2 hts (gV t_1091 t_1093 t_52 t_63 t_1094) rfl rfl rfl hd_Model_differs ⟨Nat.le_trans (Nat.le_of_ble_eq_true rfl) hRf, Nat.le_trans (Nat.le_of_ble_eq_true rfl) hRl⟩) ⟨kP_blind, va_recv hK hP (ci := 7) (q0 := 0) rfl rfl, kP_at hPc hK hDc hN⟩ rfl rfl hl.1 rfl (lv_room (Nat.le_of_ble_eq_true rfl)) d_Model_classes_63 hRc) hS (fun q _ h => hFc q h) hFc (fun r9 u t H1 locs ht hvm hw hB hz1 hk1 hS => ?_)
        rw [hw]
        obtain ⟨hP, hD⟩ := kQ_join (wr := ([] : va_W)) (w1 := (wMo cI cZ cJ mo_a mo)) hP hD [0, 1, 2, 3, 4, 5, 6, 7, 8, 9, 10, 11, 12, 13, 14, 15] [] rfl rfl (by decide) (by decide) ht hk1 hFc hB
        generalize H1 = H at hP hS ⊢
        have hP : va_P (dC, dI) vwCl (wMo cI cZ cJ mo_a mo) H := hP.sub [0, 1, 2, 3, 4, 5, 6, 7, 8, 9, 10, 11, 12, 13, 14, 15] rfl
        have hD : va_D A (wMo cI cZ cJ mo_a mo) := hD.sub [0, 1, 2, 3, 4, 5, 6, 7, 8, 9, 10, 11, 12, 13, 14, 15] (by decide) rfl
        refine lv_iload_n hx hb d_Model_classes_66 rfl (lv_at hl 1 rfl) ?_
        refine lv_icmp_le (tgt := 76) hx hb d_Model_classes_67 (by decide) (fun c_17 => ?_) (fun c_17 => ?_)
        · rw [if_pos c_17] at hf
          exact hk76 _ _ _ x4 hP hD hS (lv_sub hl [0, 1, 2, 3, 4] rfl) hf
        · rw [if_neg c_17] at hf
          obtain ⟨x4_18, ex4_18, hf⟩ := lt_ex hf
          try dsimp only at hf
          refine lv_iinc (v := x4_18) (lv' := [(4, .int x4_18), (0, .ref (mo_a 0)), (1, .int x1), (2, .int x2), (3, .int x3)]) hx hb d_Model_classes_70 hl (k := 4) rfl (by rw [ex4_18]; rfl) (by decide) rfl (fun ls hl => ?_)
          refine lv_goto (tgt := 33) hx hb d_Model_classes_73 (by decide) ?_
          exact ih _ _ _ x4_18 hP hD hS (lv_sub hl [1, 2, 3, 4, 0] rfl) hf
set_option maxHeartbeats 4000000 in
set_option maxRecDepth 100000 in
theorem L_Model_classes_22 {cells slots : Nat} {dC : Nat → ClassId} {dI : Nat → Nat → Nat} {cI cZ cJ : ClassId} {mo_a : Nat → Nat} {x1 : Int32} {k107 : Mo → Int32 → Option (Int32 × Mo)} {res : Int32 × Mo} (C0 : cxt p c m s args R cells slots R_Model c_Model_classes tb 5 (dC, dI) vwCl (TYS cI cZ cJ) A 2 46)
    (hk107 : ∀ (H : Heap) (locs : List Loc) (ls : Array Slot) (mo_6 : Mo) (x2_7 : Int32), va_P (dC, dI) vwCl (wMo cI cZ cJ mo_a mo_6) H → va_D A (wMo cI cZ cJ mo_a mo_6) → va_S A s.heap H locs → lv_has ls 5 [(0, .ref (mo_a 0)), (2, .int x2_7)] → k107 mo_6 x2_7 = some res → W p l e R s m args below meth c H locs cells slots Q (F0 m 107 ls [])) :
    ∀ (n : Nat) (H : Heap) (locs : List Loc) (ls : Array Slot) (mo : Mo) (x2 : Int32) (x3 : Int32), va_P (dC, dI) vwCl (wMo cI cZ cJ mo_a mo) H → va_D A (wMo cI cZ cJ mo_a mo) → va_S A s.heap H locs → lv_has ls 5 [(0, .ref (mo_a 0)), (1, .int x1), (2, .int x2), (3, .int x3)] → l_Model_classes_22 x1 k107 n mo x2 x3 = some res → W p l e R s m args below meth c H locs cells slots Q (F0 m 22 ls []) := by
  obtain ⟨hx, hb, hml, hown, hts, hK, hA, hRf, hRl, hN, hRc⟩ := id C0
  intro n
  induction n with
  | zero =>
    intro H locs ls mo x2 x3 hP hD hS hl hf
    exact absurd hf (by simp [l_Model_classes_22])
  | succ n ih =>
    intro H locs ls mo x2 x3 hP hD hS hl hf
    rw [l_Model_classes_22] at hf
    refine lv_iload_n hx hb d_Model_classes_22 rfl (lv_at hl 3 rfl) ?_
    refine lv_aload_n hx hb d_Model_classes_23 rfl (lv_at hl 0 rfl) ?_
    refine va_get (D := (dC, dI)) (ci := 7) (v := .int (Mo_n mo)) (C := R_Model) (T := T_Model) (N := 27) hx hb hts in_Model hown hK hP 0 rfl rfl 2 (by decide) (hts _ t_826) (fun _ h9 => h9) rfl d_Model_classes_24 ?_
    refine lv_icmp_ge (tgt := 107) hx hb d_Model_classes_27 (by decide) (fun c_8 => ?_) (fun c_8 => ?_)
    · rw [if_pos c_8] at hf
      exact hk107 _ _ _ mo x2 hP hD hS (lv_sub hl [0, 2] rfl) hf
    · rw [if_neg c_8] at hf
      refine lv_iconst (v := 0) hx hb d_Model_classes_30 (by decide) ?_
      refine lv_istore (lv' := [(4, .int 0), (0, .ref (mo_a 0)), (1, .int x1), (2, .int x2), (3, .int x3)]) hx hb d_Model_classes_31 hl (by decide) rfl (fun ls hl => ?_)
      refine L_Model_classes_33 C0 (fun H locs ls x4_19 hP hD hS hl hf => ?_) 100000 _ _ _ 0 hP hD hS (lv_sub hl [1, 2, 3, 4, 0] rfl) hf
      try dsimp only at hf
      refine lv_aload_n hx hb d_Model_classes_76 rfl (lv_at hl 0 rfl) ?_
      refine va_get (D := (dC, dI)) (ci := 7) (v := .ref (mo_a 10)) (C := R_Model) (T := T_Model) (N := 27) hx hb hts in_Model hown hK hP 0 rfl rfl 13 (by decide) (hts _ t_837) (fun _ h9 => h9) rfl d_Model_classes_77 ?_
      refine lv_iload_n hx hb d_Model_classes_80 rfl (lv_at hl 3 rfl) ?_
      refine lv_iload hx hb d_Model_classes_81 (lv_at hl 4 rfl) ?_
      obtain ⟨h_20, hf⟩ := gd_ex hf
      refine va_iast (f := Mo_co mo) hx hb hK hP hD hS 10 0 rfl rfl (inb_in h_20) d_Model_classes_83 (fun H locs hP hD hS => ?_)
      obtain ⟨mo_21, emo_21, hf⟩ := lt_ex hf
      try dsimp only at hf
      have hP : va_P (dC, dI) vwCl (wMo cI cZ cJ mo_a mo_21) H := by rw [emo_21]; exact hP
      have hD : va_D A (wMo cI cZ cJ mo_a mo_21) := by rw [emo_21]; exact hD
      refine lv_iload hx hb d_Model_classes_84 (lv_at hl 4 rfl) ?_
      refine lv_iload_n hx hb d_Model_classes_86 rfl (lv_at hl 2 rfl) ?_
      refine lv_icmp_ne (tgt := 101) hx hb d_Model_classes_87 (by decide) (fun c_23 => ?_) (fun c_23 => ?_)
      · rw [if_neg c_23] at hf
        obtain ⟨x3_24, ex3_24, hf⟩ := lt_ex hf
        try dsimp only at hf
        refine lv_iinc (v := x3_24) (lv' := [(3, .int x3_24), (0, .ref (mo_a 0)), (1, .int x1), (2, .int x2), (4, .int x4_19)]) hx hb d_Model_classes_101 hl (k := 3) rfl (by rw [ex3_24]; rfl) (by decide) rfl (fun ls hl => ?_)
        refine lv_goto (tgt := 22) hx hb d_Model_classes_104 (by decide) ?_
        exact ih _ _ _ mo_21 x2 x3_24 hP hD hS (lv_sub hl [1, 2, 3, 0] rfl) hf
      · rw [if_pos c_23] at hf
        refine lv_aload_n hx hb d_Model_classes_90 rfl (lv_at hl 0 rfl) ?_
        refine va_get (D := (dC, dI)) (ci := 7) (v := .ref (mo_a 11)) (C := R_Model) (T := T_Model) (N := 27) hx hb hts in_Model hown hK hP 0 rfl rfl 14 (by decide) (hts _ t_838) (fun _ h9 => h9) rfl d_Model_classes_91 ?_
        refine lv_iload hx hb d_Model_classes_94 (lv_at hl 4 rfl) ?_
        refine lv_iload_n hx hb d_Model_classes_96 rfl (lv_at hl 3 rfl) ?_
        obtain ⟨h_25, hf⟩ := gd_ex hf
        refine va_iast (f := Mo_fc mo_21) hx hb hK hP hD hS 11 0 rfl rfl (inb_in h_25) d_Model_classes_97 (fun H locs hP hD hS => ?_)
        obtain ⟨mo_26, emo_26, hf⟩ := lt_ex hf
        try dsimp only at hf
        have hP : va_P (dC, dI) vwCl (wMo cI cZ cJ mo_a mo_26) H := by rw [emo_26]; exact hP
        have hD : va_D A (wMo cI cZ cJ mo_a mo_26) := by rw [emo_26]; exact hD
        obtain ⟨x2_28, ex2_28, hf⟩ := lt_ex hf
        try dsimp only at hf
        refine lv_iinc (v := x2_28) (lv' := [(2, .int x2_28), (0, .ref (mo_a 0)), (1, .int x1), (3, .int x3), (4, .int x4_19)]) hx hb d_Model_classes_98 hl (k := 2) rfl (by rw [ex2_28]; rfl) (by decide) rfl (fun ls hl => ?_)
        obtain ⟨x3_29, ex3_29, hf⟩ := lt_ex hf
        try dsimp only at hf
        refine lv_iinc (v := x3_29) (lv' := [(3, .int x3_29), (2, .int x2_28), (0, .ref (mo_a 0)), (1, .int x1), (4, .int x4_19)]) hx hb d_Model_classes_101 hl (k := 3) rfl (by rw [ex3_29]; rfl) (by decide) rfl (fun ls hl => ?_)
        refine lv_goto (tgt := 22) hx hb d_Model_classes_104 (by decide) ?_
        exact ih _ _ _ mo_26 x2_28 x3_29 hP hD hS (lv_sub hl [2, 3, 1, 0] rfl) hf
set_option maxHeartbeats 4000000 in
set_option maxRecDepth 100000 in
theorem B_Model_classes {cells slots : Nat} {dC : Nat → ClassId} {dI : Nat → Nat → Nat} {cI cZ cJ : ClassId} {mo_a : Nat → Nat} {mo : Mo} {x1 : Int32} {res : Int32 × Mo} (C0 : cxt p c m s args R cells slots R_Model c_Model_classes tb 5 (dC, dI) vwCl (TYS cI cZ cJ) A 2 46)
    (hr17 : ∀ (H : Heap) (locs : List Loc) (ls : Array Slot) (v : Int32) (mo' : Mo), va_P (dC, dI) vwCl (wMo cI cZ cJ mo_a mo') H → va_D A (wMo cI cZ cJ mo_a mo') → va_S A s.heap H locs → some (v, mo') = some res → W p l e R s m args below meth c H locs cells slots Q (F0 m 17 ls [.int v]))
    (hr116 : ∀ (H : Heap) (locs : List Loc) (ls : Array Slot) (v : Int32) (mo' : Mo), va_P (dC, dI) vwCl (wMo cI cZ cJ mo_a mo') H → va_D A (wMo cI cZ cJ mo_a mo') → va_S A s.heap H locs → some (v, mo') = some res → W p l e R s m args below meth c H locs cells slots Q (F0 m 116 ls [.int v]))
    {H : Heap} {locs : List Loc} {ls : Array Slot} (hP : va_P (dC, dI) vwCl (wMo cI cZ cJ mo_a mo) H) (hD : va_D A (wMo cI cZ cJ mo_a mo)) (hS : va_S A s.heap H locs) (hl : lv_has ls 5 [(0, .ref (mo_a 0)), (1, .int x1)]) (hf : f_Model_classes mo x1 = some res) : W p l e R s m args below meth c H locs cells slots Q (F0 m 0 ls []) := by
  obtain ⟨hx, hb, hml, hown, hts, hK, hA, hRf, hRl, hN, hRc⟩ := id C0
  rw [f_Model_classes] at hf
  refine lv_aload_n hx hb d_Model_classes_0 rfl (lv_at hl 0 rfl) ?_
  refine lv_iload_n hx hb d_Model_classes_1 rfl (lv_at hl 1 rfl) ?_
  have J10_1 : ∀ (H : Heap) (locs : List Loc) (ls : Array Slot) (z0_1 : Int32), va_P (dC, dI) vwCl (wMo cI cZ cJ mo_a mo) H → va_D A (wMo cI cZ cJ mo_a mo) → va_S A s.heap H locs → lv_has ls 5 [(0, .ref (mo_a 0)), (1, .int x1)] → j_Model_classes_10_2 mo x1 z0_1 = some res → W p l e R s m args below meth c H locs cells slots Q (F0 m 10 ls [.int z0_1, .ref (mo_a 0)]) := by
    intro H locs ls z0_1 hP hD hS hl hf
    rw [j_Model_classes_10_2] at hf
    obtain ⟨⟨r_3, mo_4⟩, hf1, hf⟩ := bd_ex hf
    try dsimp only at hf
    have hPc := hP.sub (ws' := (wMo cI cZ cJ mo_a mo)) [0, 1, 2, 3, 4, 5, 6, 7, 8, 9, 10, 11, 12, 13, 14, 15] rfl
    have hDc := hD.sub (ws' := (wMo cI cZ cJ mo_a mo)) [0, 1, 2, 3, 4, 5, 6, 7, 8, 9, 10, 11, 12, 13, 14, 15] (by decide) rfl
    have hFc := va_free (wc := (wMo cI cZ cJ mo_a mo)) hD hS hA [0, 1, 2, 3, 4, 5, 6, 7, 8, 9, 10, 11, 12, 13, 14, 15] rfl
    refine va_calli (va_runV (As := [.int z0_1]) (rest := []) ⟨hx, hb, hml, hown, hts⟩ (k_Model_refuses l dC dI cI cZ cJ mo_a H.size hf1) (cwV 1 hts (gV t_914 t_916 t_23 t_63 t_917) rfl rfl rfl hd_Model_refuses ⟨Nat.le_trans (Nat.le_of_ble_eq_true rfl) hRf, Nat.le_trans (Nat.le_of_ble_eq_true rfl) hRl⟩) ⟨kP_blind, va_recv hK hP (ci := 7) (q0 := 0) rfl rfl, kP_at hPc hK hDc hN⟩ rfl rfl hl.1 rfl (lv_room (Nat.le_of_ble_eq_true rfl)) d_Model_classes_10 hRc) hS (fun q _ h => hFc q h) hFc (fun r9 u t H1 locs ht hvm hw hB hz1 hk1 hS => ?_)
    rw [hw.1]
    obtain ⟨hP, hD⟩ := kQ_join (wr := ([] : va_W)) (w1 := (wMo cI cZ cJ mo_a mo_4)) hP hD [0, 1, 2, 3, 4, 5, 6, 7, 8, 9, 10, 11, 12, 13, 14, 15] [] rfl rfl (by decide) (by decide) ht hk1 hFc hB
    generalize H1 = H at hP hS ⊢
    have hP : va_P (dC, dI) vwCl (wMo cI cZ cJ mo_a mo_4) H := hP.sub [0, 1, 2, 3, 4, 5, 6, 7, 8, 9, 10, 11, 12, 13, 14, 15] rfl
    have hD : va_D A (wMo cI cZ cJ mo_a mo_4) := hD.sub [0, 1, 2, 3, 4, 5, 6, 7, 8, 9, 10, 11, 12, 13, 14, 15] (by decide) rfl
    refine lv_if_eq (tgt := 18) hx hb d_Model_classes_13 (by decide) (fun c_5 => ?_) (fun c_5 => ?_)
    · rw [if_pos c_5] at hf
      refine lv_iconst (v := 0) hx hb d_Model_classes_18 (by decide) ?_
      refine lv_istore_n (lv' := [(2, .int 0), (0, .ref (mo_a 0)), (1, .int x1)]) hx hb d_Model_classes_19 rfl hl (by decide) rfl (fun ls hl => ?_)
      refine lv_iconst (v := 0) hx hb d_Model_classes_20 (by decide) ?_
      refine lv_istore_n (lv' := [(3, .int 0), (2, .int 0), (0, .ref (mo_a 0)), (1, .int x1)]) hx hb d_Model_classes_21 rfl hl (by decide) rfl (fun ls hl => ?_)
      refine L_Model_classes_22 C0 (fun H locs ls mo_30 x2_31 hP hD hS hl hf => ?_) 100000 _ _ _ mo_4 0 0 hP hD hS (lv_sub hl [2, 3, 1, 0] rfl) hf
      try dsimp only at hf
      refine lv_aload_n hx hb d_Model_classes_107 rfl (lv_at hl 0 rfl) ?_
      refine lv_aload_n hx hb d_Model_classes_108 rfl (lv_at hl 0 rfl) ?_
      refine va_get (D := (dC, dI)) (ci := 7) (v := .int (Mo_n mo_30)) (C := R_Model) (T := T_Model) (N := 27) hx hb hts in_Model hown hK hP 0 rfl rfl 2 (by decide) (hts _ t_826) (fun _ h9 => h9) rfl d_Model_classes_109 ?_
      refine va_put (D := (dC, dI)) (ci := 7) (v := .int (Mo_n mo_30)) (ty := .int) (C := R_Model) (T := T_Model) (N := 27) hx hb hts in_Model ty_Model tyok_Model nm_Model hown hK hP hD hS 0 rfl rfl 12 (by decide) (hts _ t_836) (fun _ h9 => h9) rfl (by decide +kernel) rfl rfl (Nat.le_of_ble_eq_true rfl) d_Model_classes_112 (fun H locs hP hD hS => ?_)
      obtain ⟨mo_32, emo_32, hf⟩ := lt_ex hf
      try dsimp only at hf
      have hP : va_P (dC, dI) vwCl (wMo cI cZ cJ mo_a mo_32) H := by rw [emo_32]; exact hP
      have hD : va_D A (wMo cI cZ cJ mo_a mo_32) := by rw [emo_32]; exact hD
      refine lv_iload_n hx hb d_Model_classes_115 rfl (lv_at hl 1 rfl) ?_
      exact hr116 _ _ _ x2_31 mo_32 hP hD hS hf
    · rw [if_neg c_5] at hf
      refine lv_iconst (v := 0) hx hb d_Model_classes_16 (by decide) ?_
      exact hr17 _ _ _ 0 mo_4 hP hD hS hf
  refine lv_if_ge (tgt := 9) hx hb d_Model_classes_2 (by decide) (fun c_34 => ?_) (fun c_34 => ?_)
  · rw [if_pos c_34] at hf
    refine lv_iconst (v := 0) hx hb d_Model_classes_9 (by decide) ?_
    exact J10_1 _ _ _ 0 hP hD hS (lv_sub hl [0, 1] rfl) hf
  · rw [if_neg c_34] at hf
    refine lv_iconst (v := 1) hx hb d_Model_classes_5 (by decide) ?_
    refine lv_goto (tgt := 10) hx hb d_Model_classes_6 (by decide) ?_
    exact J10_1 _ _ _ 1 hP hD hS (lv_sub hl [0, 1] rfl) hf
end
set_option maxHeartbeats 4000000 in
set_option maxRecDepth 100000 in
theorem k_Model_classes (l : Launch) (dC : Nat → ClassId) (dI : Nat → Nat → Nat) (cI cZ cJ : ClassId) (mo_a : Nat → Nat) (sz : Nat) {mo : Mo} {x1 : Int32} {r : Int32} {mo' : Mo} (hf : f_Model_classes mo x1 = some (r, mo')) :
    Met l y_Model_classes ws_Model_classes ({ frames := 2, cells := 0, slots := 0, locals := 46 }) (va_Pc [.ref (mo_a 0), .int x1] (kP (dC, dI) vwCl (TYS cI cZ cJ) (wMo cI cZ cJ mo_a mo) sz)) (va_Qi (fun (q : Int32) (_ : Unit) => q = r) (fun _ t => kQ (dC, dI) vwCl (TYS cI cZ cJ) (wMo cI cZ cJ mo_a mo) sz (wMo cI cZ cJ mo_a mo') t) (va_A (wMo cI cZ cJ mo_a mo) sz)) 0 0 (va_A (wMo cI cZ cJ mo_a mo) sz) := by
  refine Met.ofW (cc := c_Model_classes) (maxL := 5) (ret := (some .int)) (by decide) rfl ?_
  intro p e s m args below meth c s₁ B hml hv
  obtain ⟨rfl, hsz, hP, hK, hD0, hN⟩ := hv
  have hr := B.returns
  have hlocks := B.notSynchronized
  subst hsz
  have hD := hD0.self (sz := s.heap.size)
  have hl := lv_entry ([.ref (mo_a 0), .int x1]) (n := 5) (Nat.le_of_ble_eq_true rfl)
  rw [lg_entry_eq]
  generalize (lg_sl ([.ref (mo_a 0), .int x1]) ++ List.replicate (5 - (lg_sl ([.ref (mo_a 0), .int x1])).length) Slot.unset).toArray = ls at hl ⊢
  refine B_Model_classes (A := va_A (wMo cI cZ cJ mo_a mo) s.heap.size) ⟨B.exec, B.bytes, hml, findClass_of_methodNamed B.named, fun w h => atoms_spec (ws := ws_Model_classes) B.pre w (List.mem_cons_of_mem _ h), hK, fun q h => Or.inr h, Nat.le_of_ble_eq_true rfl, Nat.le_of_ble_eq_true rfl, hN, Nat.le_of_ble_eq_true rfl, Nat.le_of_ble_eq_true rfl⟩ (fun H locs ls v mo'1 hP hD hS hf => ?_) (fun H locs ls v mo'1 hP hD hS hf => ?_) hP hD va_S.rf hl hf
  · cases hf
    exact W.iret B.exec B.bytes hr (fun t ht hW => ⟨⟨_, (), rfl, rfl, ⟨by rw [ht]; exact hP, va_K.moved hW.alike hK, hD⟩⟩, hS.F ht⟩) hS.2.2 d_Model_classes_17
  · cases hf
    exact W.iret B.exec B.bytes hr (fun t ht hW => ⟨⟨_, (), rfl, rfl, ⟨by rw [ht]; exact hP, va_K.moved hW.alike hK, hD⟩⟩, hS.F ht⟩) hS.2.2 d_Model_classes_116

/-! Model_cls -/
def j_Model_cls_14_3 (mo : Mo) (x1 : Int32) (z0_2 : Int32) : Option (Int32 × Mo) := bd (f_Model_refuses mo z0_2) <| fun (r_4, mo_5) => (if r_4 = 0 then (if (Mo_cl mo_5) ≤ x1 then some ((-1), mo_5) else gd (inb x1 40) <| some (Mo_co mo_5 x1.toNatClampNeg, mo_5)) else some (0, mo_5))
def f_Model_cls (mo : Mo) (x1 : Int32) : Option (Int32 × Mo) := bd (f_Model_isSymbol mo x1) <| fun r_1 => (if r_1 = 0 then j_Model_cls_14_3 mo x1 1 else j_Model_cls_14_3 mo x1 0)
section
variable {p : Program} {l : Launch} {e : Env} {R : Room} {s : State} {m : MethodId} {args : Array Value} {below : List Frame} {meth : Method} {c : Code} {Q : State → Prop} {A : Nat → Prop}
set_option maxHeartbeats 4000000 in
set_option maxRecDepth 100000 in
theorem B_Model_cls {cells slots : Nat} {dC : Nat → ClassId} {dI : Nat → Nat → Nat} {cI cZ cJ : ClassId} {mo_a : Nat → Nat} {mo : Mo} {x1 : Int32} {res : Int32 × Mo} (C0 : cxt p c m s args R cells slots R_Model c_Model_cls tb 2 (dC, dI) vwCl (TYS cI cZ cJ) A 1 21)
    (hr21 : ∀ (H : Heap) (locs : List Loc) (ls : Array Slot) (v : Int32) (mo' : Mo), va_P (dC, dI) vwCl (wMo cI cZ cJ mo_a mo') H → va_D A (wMo cI cZ cJ mo_a mo') → va_S A s.heap H locs → some (v, mo') = some res → W p l e R s m args below meth c H locs cells slots Q (F0 m 21 ls [.int v]))
    (hr40 : ∀ (H : Heap) (locs : List Loc) (ls : Array Slot) (v : Int32) (mo' : Mo), va_P (dC, dI) vwCl (wMo cI cZ cJ mo_a mo') H → va_D A (wMo cI cZ cJ mo_a mo') → va_S A s.heap H locs → some (v, mo') = some res → W p l e R s m args below meth c H locs cells slots Q (F0 m 40 ls [.int v]))
    {H : Heap} {locs : List Loc} {ls : Array Slot} (hP : va_P (dC, dI) vwCl (wMo cI cZ cJ mo_a mo) H) (hD : va_D A (wMo cI cZ cJ mo_a mo)) (hS : va_S A s.heap H locs) (hl : lv_has ls 2 [(0, .ref (mo_a 0)), (1, .int x1)]) (hf : f_Model_cls mo x1 = some res) : W p l e R s m args below meth c H locs cells slots Q (F0 m 0 ls []) := by
  obtain ⟨hx, hb, hml, hown, hts, hK, hA, hRf, hRl, hN, hRc⟩ := id C0
  rw [f_Model_cls] at hf
  refine lv_aload_n hx hb d_Model_cls_0 rfl (lv_at hl 0 rfl) ?_
  refine lv_aload_n hx hb d_Model_cls_1 rfl (lv_at hl 0 rfl) ?_
  refine lv_iload_n hx hb d_Model_cls_2 rfl (lv_at hl 1 rfl) ?_
  obtain ⟨r_1, hf1, hf⟩ := bd_ex hf
  try dsimp only at hf
  have hPc := hP.sub (ws' := (wMo cI cZ cJ mo_a mo)) [0, 1, 2, 3, 4, 5, 6, 7, 8, 9, 10, 11, 12, 13, 14, 15] rfl
  have hDc := hD.sub (ws' := (wMo cI cZ cJ mo_a mo)) [0, 1, 2, 3, 4, 5, 6, 7, 8, 9, 10, 11, 12, 13, 14, 15] (by decide) rfl
  have hFc := va_free (wc := (wMo cI cZ cJ mo_a mo)) hD hS hA [0, 1, 2, 3, 4, 5, 6, 7, 8, 9, 10, 11, 12, 13, 14, 15] rfl
  refine va_calli (va_runV (As := [.int x1]) (rest := [.ref (mo_a 0)]) ⟨hx, hb, hml, hown, hts⟩ (k_Model_isSymbol l dC dI cI cZ cJ mo_a H.size hf1) (cwV 1 hts (gV t_926 t_928 t_25 t_63 t_929) rfl rfl rfl hd_Model_isSymbol ⟨Nat.le_trans (Nat.le_of_ble_eq_true rfl) hRf, Nat.le_trans (Nat.le_of_ble_eq_true rfl) hRl⟩) ⟨kP_blind, va_recv hK hP (ci := 7) (q0 := 0) rfl rfl, kP_at hPc hK hDc hN⟩ rfl rfl hl.1 rfl (lv_room (Nat.le_of_ble_eq_true rfl)) d_Model_cls_3 hRc) hS (fun q _ h => hFc q h) hFc (fun r9 u t H1 locs ht hvm hw hB hz1 hk1 hS => ?_)
  rw [hw.1]
  obtain ⟨hP, hD⟩ := kQ_join (wr := ([] : va_W)) (w1 := (wMo cI cZ cJ mo_a mo)) hP hD [0, 1, 2, 3, 4, 5, 6, 7, 8, 9, 10, 11, 12, 13, 14, 15] [] rfl rfl (by decide) (by decide) ht hk1 hFc hB
  generalize H1 = H at hP hS ⊢
  have hP : va_P (dC, dI) vwCl (wMo cI cZ cJ mo_a mo) H := hP.sub [0, 1, 2, 3, 4, 5, 6, 7, 8, 9, 10, 11, 12, 13, 14, 15] rfl
  have hD : va_D A (wMo cI cZ cJ mo_a mo) := hD.sub [0, 1, 2, 3, 4, 5, 6, 7, 8, 9, 10, 11, 12, 13, 14, 15] (by decide) rfl
  have J14_2 : ∀ (H : Heap) (locs : List Loc) (ls : Array Slot) (z0_2 : Int32), va_P (dC, dI) vwCl (wMo cI cZ cJ mo_a mo) H → va_D A (wMo cI cZ cJ mo_a mo) → va_S A s.heap H locs → lv_has ls 2 [(0, .ref (mo_a 0)), (1, .int x1)] → j_Model_cls_14_3 mo x1 z0_2 = some res → W p l e R s m args below meth c H locs cells slots Q (F0 m 14 ls [.int z0_2, .ref (mo_a 0)]) := by
    intro H locs ls z0_2 hP hD hS hl hf
    rw [j_Model_cls_14_3] at hf
    obtain ⟨⟨r_4, mo_5⟩, hf1, hf⟩ := bd_ex hf
    try dsimp only at hf
    have hPc := hP.sub (ws' := (wMo cI cZ cJ mo_a mo)) [0, 1, 2, 3, 4, 5, 6, 7, 8, 9, 10, 11, 12, 13, 14, 15] rfl
    have hDc := hD.sub (ws' := (wMo cI cZ cJ mo_a mo)) [0, 1, 2, 3, 4, 5, 6, 7, 8, 9, 10, 11, 12, 13, 14, 15] (by decide) rfl
    have hFc := va_free (wc := (wMo cI cZ cJ mo_a mo)) hD hS hA [0, 1, 2, 3, 4, 5, 6, 7, 8, 9, 10, 11, 12, 13, 14, 15] rfl
    refine va_calli (va_runV (As := [.int z0_2]) (rest := []) ⟨hx, hb, hml, hown, hts⟩ (k_Model_refuses l dC dI cI cZ cJ mo_a H.size hf1) (cwV 1 hts (gV t_914 t_916 t_23 t_63 t_917) rfl rfl rfl hd_Model_refuses ⟨Nat.le_trans (Nat.le_of_ble_eq_true rfl) hRf, Nat.le_trans (Nat.le_of_ble_eq_true rfl) hRl⟩) ⟨kP_blind, va_recv hK hP (ci := 7) (q0 := 0) rfl rfl, kP_at hPc hK hDc hN⟩ rfl rfl hl.1 rfl (lv_room (Nat.le_of_ble_eq_true rfl)) d_Model_cls_14 hRc) hS (fun q _ h => hFc q h) hFc (fun r9 u t H1 locs ht hvm hw hB hz1 hk1 hS => ?_)
    rw [hw.1]
    obtain ⟨hP, hD⟩ := kQ_join (wr := ([] : va_W)) (w1 := (wMo cI cZ cJ mo_a mo_5)) hP hD [0, 1, 2, 3, 4, 5, 6, 7, 8, 9, 10, 11, 12, 13, 14, 15] [] rfl rfl (by decide) (by decide) ht hk1 hFc hB
    generalize H1 = H at hP hS ⊢
    have hP : va_P (dC, dI) vwCl (wMo cI cZ cJ mo_a mo_5) H := hP.sub [0, 1, 2, 3, 4, 5, 6, 7, 8, 9, 10, 11, 12, 13, 14, 15] rfl
    have hD : va_D A (wMo cI cZ cJ mo_a mo_5) := hD.sub [0, 1, 2, 3, 4, 5, 6, 7, 8, 9, 10, 11, 12, 13, 14, 15] (by decide) rfl
    refine lv_if_eq (tgt := 22) hx hb d_Model_cls_17 (by decide) (fun c_6 => ?_) (fun c_6 => ?_)
    · rw [if_pos c_6] at hf
      refine lv_iload_n hx hb d_Model_cls_22 rfl (lv_at hl 1 rfl) ?_
      refine lv_aload_n hx hb d_Model_cls_23 rfl (lv_at hl 0 rfl) ?_
      refine va_get (D := (dC, dI)) (ci := 7) (v := .int (Mo_cl mo_5)) (C := R_Model) (T := T_Model) (N := 27) hx hb hts in_Model hown hK hP 0 rfl rfl 12 (by decide) (hts _ t_836) (fun _ h9 => h9) rfl d_Model_cls_24 ?_
      refine lv_icmp_ge (tgt := 39) hx hb d_Model_cls_27 (by decide) (fun c_7 => ?_) (fun c_7 => ?_)
      · rw [if_pos c_7] at hf
        refine lv_iconst (v := (-1)) hx hb d_Model_cls_39 (by decide) ?_
        exact hr40 _ _ _ (-1) mo_5 hP hD hS hf
      · rw [if_neg c_7] at hf
        refine lv_aload_n hx hb d_Model_cls_30 rfl (lv_at hl 0 rfl) ?_
        refine va_get (D := (dC, dI)) (ci := 7) (v := .ref (mo_a 10)) (C := R_Model) (T := T_Model) (N := 27) hx hb hts in_Model hown hK hP 0 rfl rfl 13 (by decide) (hts _ t_837) (fun _ h9 => h9) rfl d_Model_cls_31 ?_
        refine lv_iload_n hx hb d_Model_cls_34 rfl (lv_at hl 1 rfl) ?_
        obtain ⟨h_8, hf⟩ := gd_ex hf
        refine va_iald (f := Mo_co mo_5) hx hb hK hP 10 0 rfl rfl (inb_in h_8) d_Model_cls_35 ?_
        refine lv_goto (tgt := 40) hx hb d_Model_cls_36 (by decide) ?_
        exact hr40 _ _ _ (Mo_co mo_5 x1.toNatClampNeg) mo_5 hP hD hS hf
    · rw [if_neg c_6] at hf
      refine lv_iconst (v := 0) hx hb d_Model_cls_20 (by decide) ?_
      exact hr21 _ _ _ 0 mo_5 hP hD hS hf
  refine lv_if_eq (tgt := 13) hx hb d_Model_cls_6 (by decide) (fun c_9 => ?_) (fun c_9 => ?_)
  · rw [if_pos c_9] at hf
    refine lv_iconst (v := 1) hx hb d_Model_cls_13 (by decide) ?_
    exact J14_2 _ _ _ 1 hP hD hS (lv_sub hl [0, 1] rfl) hf
  · rw [if_neg c_9] at hf
    refine lv_iconst (v := 0) hx hb d_Model_cls_9 (by decide) ?_
    refine lv_goto (tgt := 14) hx hb d_Model_cls_10 (by decide) ?_
    exact J14_2 _ _ _ 0 hP hD hS (lv_sub hl [0, 1] rfl) hf
end
set_option maxHeartbeats 4000000 in
set_option maxRecDepth 100000 in
theorem k_Model_cls (l : Launch) (dC : Nat → ClassId) (dI : Nat → Nat → Nat) (cI cZ cJ : ClassId) (mo_a : Nat → Nat) (sz : Nat) {mo : Mo} {x1 : Int32} {r : Int32} {mo' : Mo} (hf : f_Model_cls mo x1 = some (r, mo')) :
    Met l y_Model_cls ws_Model_cls ({ frames := 1, cells := 0, slots := 0, locals := 21 }) (va_Pc [.ref (mo_a 0), .int x1] (kP (dC, dI) vwCl (TYS cI cZ cJ) (wMo cI cZ cJ mo_a mo) sz)) (va_Qi (fun (q : Int32) (_ : Unit) => q = r) (fun _ t => kQ (dC, dI) vwCl (TYS cI cZ cJ) (wMo cI cZ cJ mo_a mo) sz (wMo cI cZ cJ mo_a mo') t) (va_A (wMo cI cZ cJ mo_a mo) sz)) 0 0 (va_A (wMo cI cZ cJ mo_a mo) sz) := by
  refine Met.ofW (cc := c_Model_cls) (maxL := 2) (ret := (some .int)) (by decide) rfl ?_
  intro p e s m args below meth c s₁ B hml hv
  obtain ⟨rfl, hsz, hP, hK, hD0, hN⟩ := hv
  have hr := B.returns
  have hlocks := B.notSynchronized
  subst hsz
  have hD := hD0.self (sz := s.heap.size)
  have hl := lv_entry ([.ref (mo_a 0), .int x1]) (n := 2) (Nat.le_of_ble_eq_true rfl)
  rw [lg_entry_eq]
  generalize (lg_sl ([.ref (mo_a 0), .int x1]) ++ List.replicate (2 - (lg_sl ([.ref (mo_a 0), .int x1])).length) Slot.unset).toArray = ls at hl ⊢
  refine B_Model_cls (A := va_A (wMo cI cZ cJ mo_a mo) s.heap.size) ⟨B.exec, B.bytes, hml, findClass_of_methodNamed B.named, fun w h => atoms_spec (ws := ws_Model_cls) B.pre w (List.mem_cons_of_mem _ h), hK, fun q h => Or.inr h, Nat.le_of_ble_eq_true rfl, Nat.le_of_ble_eq_true rfl, hN, Nat.le_of_ble_eq_true rfl, Nat.le_of_ble_eq_true rfl⟩ (fun H locs ls v mo'1 hP hD hS hf => ?_) (fun H locs ls v mo'1 hP hD hS hf => ?_) hP hD va_S.rf hl hf
  · cases hf
    exact W.iret B.exec B.bytes hr (fun t ht hW => ⟨⟨_, (), rfl, rfl, ⟨by rw [ht]; exact hP, va_K.moved hW.alike hK, hD⟩⟩, hS.F ht⟩) hS.2.2 d_Model_cls_21
  · cases hf
    exact W.iret B.exec B.bytes hr (fun t ht hW => ⟨⟨_, (), rfl, rfl, ⟨by rw [ht]; exact hP, va_K.moved hW.alike hK, hD⟩⟩, hS.F ht⟩) hS.2.2 d_Model_cls_40

/-! Model_count -/
def f_Model_count (mo : Mo) (x1 : Int32) : Option (Int32 × Mo) := lt' (Mo_s_code mo 0) <| fun mo_1 => (if x1 = 0 then some (Mo_n mo_1, mo_1) else (if x1 = 1 then some (Mo_on mo_1, mo_1) else (if x1 = 2 then some (Mo_inn mo_1, mo_1) else (if x1 = 3 then some (Mo_kind mo_1, mo_1) else some ((-1), mo_1)))))
section
variable {p : Program} {l : Launch} {e : Env} {R : Room} {s : State} {m : MethodId} {args : Array Value} {below : List Frame} {meth : Method} {c : Code} {Q : State → Prop} {A : Nat → Prop}
set_option maxHeartbeats 4000000 in
set_option maxRecDepth 100000 in
theorem B_Model_count {cells slots : Nat} {dC : Nat → ClassId} {dI : Nat → Nat → Nat} {cI cZ cJ : ClassId} {mo_a : Nat → Nat} {mo : Mo} {x1 : Int32} {res : Int32 × Mo} (C0 : cxt p c m s args R cells slots R_Model c_Model_count tb 2 (dC, dI) vwCl (TYS cI cZ cJ) A 0 0)
    (hr53 : ∀ (H : Heap) (locs : List Loc) (ls : Array Slot) (v : Int32) (mo' : Mo), va_P (dC, dI) vwCl (wMo cI cZ cJ mo_a mo') H → va_D A (wMo cI cZ cJ mo_a mo') → va_S A s.heap H locs → some (v, mo') = some res → W p l e R s m args below meth c H locs cells slots Q (F0 m 53 ls [.int v]))
    {H : Heap} {locs : List Loc} {ls : Array Slot} (hP : va_P (dC, dI) vwCl (wMo cI cZ cJ mo_a mo) H) (hD : va_D A (wMo cI cZ cJ mo_a mo)) (hS : va_S A s.heap H locs) (hl : lv_has ls 2 [(0, .ref (mo_a 0)), (1, .int x1)]) (hf : f_Model_count mo x1 = some res) : W p l e R s m args below meth c H locs cells slots Q (F0 m 0 ls []) := by
  obtain ⟨hx, hb, hml, hown, hts, hK, hA, hRf, hRl, hN, hRc⟩ := id C0
  rw [f_Model_count] at hf
  refine lv_aload_n hx hb d_Model_count_0 rfl (lv_at hl 0 rfl) ?_
  refine lv_iconst (v := 0) hx hb d_Model_count_1 (by decide) ?_
  refine va_put (D := (dC, dI)) (ci := 7) (v := .int 0) (ty := .int) (C := R_Model) (T := T_Model) (N := 27) hx hb hts in_Model ty_Model tyok_Model nm_Model hown hK hP hD hS 0 rfl rfl 0 (by decide) (hts _ t_824) (fun _ h9 => h9) rfl (by decide +kernel) rfl rfl (Nat.le_of_ble_eq_true rfl) d_Model_count_2 (fun H locs hP hD hS => ?_)
  obtain ⟨mo_1, emo_1, hf⟩ := lt_ex hf
  try dsimp only at hf
  have hP : va_P (dC, dI) vwCl (wMo cI cZ cJ mo_a mo_1) H := by rw [emo_1]; exact hP
  have hD : va_D A (wMo cI cZ cJ mo_a mo_1) := by rw [emo_1]; exact hD
  refine lv_iload_n hx hb d_Model_count_5 rfl (lv_at hl 1 rfl) ?_
  refine lv_if_ne (tgt := 16) hx hb d_Model_count_6 (by decide) (fun c_3 => ?_) (fun c_3 => ?_)
  · rw [if_neg c_3] at hf
    refine lv_iload_n hx hb d_Model_count_16 rfl (lv_at hl 1 rfl) ?_
    refine lv_iconst (v := 1) hx hb d_Model_count_17 (by decide) ?_
    refine lv_icmp_ne (tgt := 28) hx hb d_Model_count_18 (by decide) (fun c_4 => ?_) (fun c_4 => ?_)
    · rw [if_neg c_4] at hf
      refine lv_iload_n hx hb d_Model_count_28 rfl (lv_at hl 1 rfl) ?_
      refine lv_iconst (v := 2) hx hb d_Model_count_29 (by decide) ?_
      refine lv_icmp_ne (tgt := 40) hx hb d_Model_count_30 (by decide) (fun c_5 => ?_) (fun c_5 => ?_)
      · rw [if_neg c_5] at hf
        refine lv_iload_n hx hb d_Model_count_40 rfl (lv_at hl 1 rfl) ?_
        refine lv_iconst (v := 3) hx hb d_Model_count_41 (by decide) ?_
        refine lv_icmp_ne (tgt := 52) hx hb d_Model_count_42 (by decide) (fun c_6 => ?_) (fun c_6 => ?_)
        · rw [if_neg c_6] at hf
          refine lv_iconst (v := (-1)) hx hb d_Model_count_52 (by decide) ?_
          exact hr53 _ _ _ (-1) mo_1 hP hD hS hf
        · rw [if_pos c_6] at hf
          refine lv_aload_n hx hb d_Model_count_45 rfl (lv_at hl 0 rfl) ?_
          refine va_get (D := (dC, dI)) (ci := 7) (v := .int (Mo_kind mo_1)) (C := R_Model) (T := T_Model) (N := 27) hx hb hts in_Model hown hK hP 0 rfl rfl 1 (by decide) (hts _ t_825) (fun _ h9 => h9) rfl d_Model_count_46 ?_
          refine lv_goto (tgt := 53) hx hb d_Model_count_49 (by decide) ?_
          exact hr53 _ _ _ (Mo_kind mo_1) mo_1 hP hD hS hf
      · rw [if_pos c_5] at hf
        refine lv_aload_n hx hb d_Model_count_33 rfl (lv_at hl 0 rfl) ?_
        refine va_get (D := (dC, dI)) (ci := 7) (v := .int (Mo_inn mo_1)) (C := R_Model) (T := T_Model) (N := 27) hx hb hts in_Model hown hK hP 0 rfl rfl 18 (by decide) (hts _ t_842) (fun _ h9 => h9) rfl d_Model_count_34 ?_
        refine lv_goto (tgt := 53) hx hb d_Model_count_37 (by decide) ?_
        exact hr53 _ _ _ (Mo_inn mo_1) mo_1 hP hD hS hf
    · rw [if_pos c_4] at hf
      refine lv_aload_n hx hb d_Model_count_21 rfl (lv_at hl 0 rfl) ?_
      refine va_get (D := (dC, dI)) (ci := 7) (v := .int (Mo_on mo_1)) (C := R_Model) (T := T_Model) (N := 27) hx hb hts in_Model hown hK hP 0 rfl rfl 15 (by decide) (hts _ t_839) (fun _ h9 => h9) rfl d_Model_count_22 ?_
      refine lv_goto (tgt := 53) hx hb d_Model_count_25 (by decide) ?_
      exact hr53 _ _ _ (Mo_on mo_1) mo_1 hP hD hS hf
  · rw [if_pos c_3] at hf
    refine lv_aload_n hx hb d_Model_count_9 rfl (lv_at hl 0 rfl) ?_
    refine va_get (D := (dC, dI)) (ci := 7) (v := .int (Mo_n mo_1)) (C := R_Model) (T := T_Model) (N := 27) hx hb hts in_Model hown hK hP 0 rfl rfl 2 (by decide) (hts _ t_826) (fun _ h9 => h9) rfl d_Model_count_10 ?_
    refine lv_goto (tgt := 53) hx hb d_Model_count_13 (by decide) ?_
    exact hr53 _ _ _ (Mo_n mo_1) mo_1 hP hD hS hf
end
set_option maxHeartbeats 4000000 in
set_option maxRecDepth 100000 in
theorem k_Model_count (l : Launch) (dC : Nat → ClassId) (dI : Nat → Nat → Nat) (cI cZ cJ : ClassId) (mo_a : Nat → Nat) (sz : Nat) {mo : Mo} {x1 : Int32} {r : Int32} {mo' : Mo} (hf : f_Model_count mo x1 = some (r, mo')) :
    Met l y_Model_count ws_Model_count ({ frames := 0, cells := 0, slots := 0, locals := 0 }) (va_Pc [.ref (mo_a 0), .int x1] (kP (dC, dI) vwCl (TYS cI cZ cJ) (wMo cI cZ cJ mo_a mo) sz)) (va_Qi (fun (q : Int32) (_ : Unit) => q = r) (fun _ t => kQ (dC, dI) vwCl (TYS cI cZ cJ) (wMo cI cZ cJ mo_a mo) sz (wMo cI cZ cJ mo_a mo') t) (va_A (wMo cI cZ cJ mo_a mo) sz)) 0 0 (va_A (wMo cI cZ cJ mo_a mo) sz) := by
  refine Met.ofW (cc := c_Model_count) (maxL := 2) (ret := (some .int)) (by decide) rfl ?_
  intro p e s m args below meth c s₁ B hml hv
  obtain ⟨rfl, hsz, hP, hK, hD0, hN⟩ := hv
  have hr := B.returns
  have hlocks := B.notSynchronized
  subst hsz
  have hD := hD0.self (sz := s.heap.size)
  have hl := lv_entry ([.ref (mo_a 0), .int x1]) (n := 2) (Nat.le_of_ble_eq_true rfl)
  rw [lg_entry_eq]
  generalize (lg_sl ([.ref (mo_a 0), .int x1]) ++ List.replicate (2 - (lg_sl ([.ref (mo_a 0), .int x1])).length) Slot.unset).toArray = ls at hl ⊢
  refine B_Model_count (A := va_A (wMo cI cZ cJ mo_a mo) s.heap.size) ⟨B.exec, B.bytes, hml, findClass_of_methodNamed B.named, fun w h => atoms_spec (ws := ws_Model_count) B.pre w (List.mem_cons_of_mem _ h), hK, fun q h => Or.inr h, Nat.le_of_ble_eq_true rfl, Nat.le_of_ble_eq_true rfl, hN, Nat.le_of_ble_eq_true rfl, Nat.le_of_ble_eq_true rfl⟩ (fun H locs ls v mo'1 hP hD hS hf => ?_) hP hD va_S.rf hl hf
  · cases hf
    exact W.iret B.exec B.bytes hr (fun t ht hW => ⟨⟨_, (), rfl, rfl, ⟨by rw [ht]; exact hP, va_K.moved hW.alike hK, hD⟩⟩, hS.F ht⟩) hS.2.2 d_Model_count_53

/-! Model_clear -/
def f_Model_clear (mo : Mo) : Option (Mo) := lt' (Mo_s_code mo 0) <| fun mo_1 => lt' (Mo_s_n mo_1 0) <| fun mo_3 => lt' (Mo_s_cl mo_3 0) <| fun mo_5 => lt' (Mo_s_on mo_5 0) <| fun mo_7 => lt' (Mo_s_inn mo_7 0) <| fun mo_9 => some mo_9
section
variable {p : Program} {l : Launch} {e : Env} {R : Room} {s : State} {m : MethodId} {args : Array Value} {below : List Frame} {meth : Method} {c : Code} {Q : State → Prop} {A : Nat → Prop}
set_option maxHeartbeats 4000000 in
set_option maxRecDepth 100000 in
theorem B_Model_clear {cells slots : Nat} {dC : Nat → ClassId} {dI : Nat → Nat → Nat} {cI cZ cJ : ClassId} {mo_a : Nat → Nat} {mo : Mo} {res : Mo} (C0 : cxt p c m s args R cells slots R_Model c_Model_clear tb 1 (dC, dI) vwCl (TYS cI cZ cJ) A 0 0)
    (hr25 : ∀ (H : Heap) (locs : List Loc) (ls : Array Slot) (mo' : Mo), va_P (dC, dI) vwCl (wMo cI cZ cJ mo_a mo') H → va_D A (wMo cI cZ cJ mo_a mo') → va_S A s.heap H locs → some mo' = some res → W p l e R s m args below meth c H locs cells slots Q (F0 m 25 ls []))
    {H : Heap} {locs : List Loc} {ls : Array Slot} (hP : va_P (dC, dI) vwCl (wMo cI cZ cJ mo_a mo) H) (hD : va_D A (wMo cI cZ cJ mo_a mo)) (hS : va_S A s.heap H locs) (hl : lv_has ls 1 [(0, .ref (mo_a 0))]) (hf : f_Model_clear mo = some res) : W p l e R s m args below meth c H locs cells slots Q (F0 m 0 ls []) := by
  obtain ⟨hx, hb, hml, hown, hts, hK, hA, hRf, hRl, hN, hRc⟩ := id C0
  rw [f_Model_clear] at hf
  refine lv_aload_n hx hb d_Model_clear_0 rfl (lv_at hl 0 rfl) ?_
  refine lv_iconst (v := 0) hx hb d_Model_clear_1 (by decide) ?_
  refine va_put (D := (dC, dI)) (ci := 7) (v := .int 0) (ty := .int) (C := R_Model) (T := T_Model) (N := 27) hx hb hts in_Model ty_Model tyok_Model nm_Model hown hK hP hD hS 0 rfl rfl 0 (by decide) (hts _ t_824) (fun _ h9 => h9) rfl (by decide +kernel) rfl rfl (Nat.le_of_ble_eq_true rfl) d_Model_clear_2 (fun H locs hP hD hS => ?_)
  obtain ⟨mo_1, emo_1, hf⟩ := lt_ex hf
  try dsimp only at hf
  have hP : va_P (dC, dI) vwCl (wMo cI cZ cJ mo_a mo_1) H := by rw [emo_1]; exact hP
  have hD : va_D A (wMo cI cZ cJ mo_a mo_1) := by rw [emo_1]; exact hD
  refine lv_aload_n hx hb d_Model_clear_5 rfl (lv_at hl 0 rfl) ?_
  refine lv_iconst (v := 0) hx hb d_Model_clear_6 (by decide) ?_
  refine va_put (D := (dC, dI)) (ci := 7) (v := .int 0) (ty := .int) (C := R_Model) (T := T_Model) (N := 27) hx hb hts in_Model ty_Model tyok_Model nm_Model hown hK hP hD hS 0 rfl rfl 2 (by decide) (hts _ t_826) (fun _ h9 => h9) rfl (by decide +kernel) rfl rfl (Nat.le_of_ble_eq_true rfl) d_Model_clear_7 (fun H locs hP hD hS => ?_)
  obtain ⟨mo_3, emo_3, hf⟩ := lt_ex hf
  try dsimp only at hf
  have hP : va_P (dC, dI) vwCl (wMo cI cZ cJ mo_a mo_3) H := by rw [emo_3]; exact hP
  have hD : va_D A (wMo cI cZ cJ mo_a mo_3) := by rw [emo_3]; exact hD
  refine lv_aload_n hx hb d_Model_clear_10 rfl (lv_at hl 0 rfl) ?_
  refine lv_iconst (v := 0) hx hb d_Model_clear_11 (by decide) ?_
  refine va_put (D := (dC, dI)) (ci := 7) (v := .int 0) (ty := .int) (C := R_Model) (T := T_Model) (N := 27) hx hb hts in_Model ty_Model tyok_Model nm_Model hown hK hP hD hS 0 rfl rfl 12 (by decide) (hts _ t_836) (fun _ h9 => h9) rfl (by decide +kernel) rfl rfl (Nat.le_of_ble_eq_true rfl) d_Model_clear_12 (fun H locs hP hD hS => ?_)
  obtain ⟨mo_5, emo_5, hf⟩ := lt_ex hf
  try dsimp only at hf
  have hP : va_P (dC, dI) vwCl (wMo cI cZ cJ mo_a mo_5) H := by rw [emo_5]; exact hP
  have hD : va_D A (wMo cI cZ cJ mo_a mo_5) := by rw [emo_5]; exact hD
  refine lv_aload_n hx hb d_Model_clear_15 rfl (lv_at hl 0 rfl) ?_
  refine lv_iconst (v := 0) hx hb d_Model_clear_16 (by decide) ?_
  refine va_put (D := (dC, dI)) (ci := 7) (v := .int 0) (ty := .int) (C := R_Model) (T := T_Model) (N := 27) hx hb hts in_Model ty_Model tyok_Model nm_Model hown hK hP hD hS 0 rfl rfl 15 (by decide) (hts _ t_839) (fun _ h9 => h9) rfl (by decide +kernel) rfl rfl (Nat.le_of_ble_eq_true rfl) d_Model_clear_17 (fun H locs hP hD hS => ?_)
  obtain ⟨mo_7, emo_7, hf⟩ := lt_ex hf
  try dsimp only at hf
  have hP : va_P (dC, dI) vwCl (wMo cI cZ cJ mo_a mo_7) H := by rw [emo_7]; exact hP
  have hD : va_D A (wMo cI cZ cJ mo_a mo_7) := by rw [emo_7]; exact hD
  refine lv_aload_n hx hb d_Model_clear_20 rfl (lv_at hl 0 rfl) ?_
  refine lv_iconst (v := 0) hx hb d_Model_clear_21 (by decide) ?_
  refine va_put (D := (dC, dI)) (ci := 7) (v := .int 0) (ty := .int) (C := R_Model) (T := T_Model) (N := 27) hx hb hts in_Model ty_Model tyok_Model nm_Model hown hK hP hD hS 0 rfl rfl 18 (by decide) (hts _ t_842) (fun _ h9 => h9) rfl (by decide +kernel) rfl rfl (Nat.le_of_ble_eq_true rfl) d_Model_clear_22 (fun H locs hP hD hS => ?_)
  obtain ⟨mo_9, emo_9, hf⟩ := lt_ex hf
  try dsimp only at hf
  have hP : va_P (dC, dI) vwCl (wMo cI cZ cJ mo_a mo_9) H := by rw [emo_9]; exact hP
  have hD : va_D A (wMo cI cZ cJ mo_a mo_9) := by rw [emo_9]; exact hD
  exact hr25 _ _ _ mo_9 hP hD hS hf
end
set_option maxHeartbeats 4000000 in
set_option maxRecDepth 100000 in
theorem k_Model_clear (l : Launch) (dC : Nat → ClassId) (dI : Nat → Nat → Nat) (cI cZ cJ : ClassId) (mo_a : Nat → Nat) (sz : Nat) {mo : Mo} {mo' : Mo} (hf : f_Model_clear mo = some mo') :
    Met l y_Model_clear ws_Model_clear ({ frames := 0, cells := 0, slots := 0, locals := 0 }) (va_Pc [.ref (mo_a 0)] (kP (dC, dI) vwCl (TYS cI cZ cJ) (wMo cI cZ cJ mo_a mo) sz)) (va_Qv (fun (_ : Unit) => True) (fun _ t => kQ (dC, dI) vwCl (TYS cI cZ cJ) (wMo cI cZ cJ mo_a mo) sz (wMo cI cZ cJ mo_a mo') t) (va_A (wMo cI cZ cJ mo_a mo) sz)) 0 0 (va_A (wMo cI cZ cJ mo_a mo) sz) := by
  refine Met.ofW (cc := c_Model_clear) (maxL := 1) (ret := none) (by decide) rfl ?_
  intro p e s m args below meth c s₁ B hml hv
  obtain ⟨rfl, hsz, hP, hK, hD0, hN⟩ := hv
  have hr := B.returns
  have hlocks := B.notSynchronized
  subst hsz
  have hD := hD0.self (sz := s.heap.size)
  have hl := lv_entry ([.ref (mo_a 0)]) (n := 1) (Nat.le_of_ble_eq_true rfl)
  rw [lg_entry_eq]
  generalize (lg_sl ([.ref (mo_a 0)]) ++ List.replicate (1 - (lg_sl ([.ref (mo_a 0)])).length) Slot.unset).toArray = ls at hl ⊢
  refine B_Model_clear (A := va_A (wMo cI cZ cJ mo_a mo) s.heap.size) ⟨B.exec, B.bytes, hml, findClass_of_methodNamed B.named, fun w h => atoms_spec (ws := ws_Model_clear) B.pre w (List.mem_cons_of_mem _ h), hK, fun q h => Or.inr h, Nat.le_of_ble_eq_true rfl, Nat.le_of_ble_eq_true rfl, hN, Nat.le_of_ble_eq_true rfl, Nat.le_of_ble_eq_true rfl⟩ (fun H locs ls mo'1 hP hD hS hf => ?_) hP hD va_S.rf hl hf
  · cases hf
    exact W.vret B.exec B.bytes hr (fun t ht hW => ⟨⟨(), rfl, trivial, ⟨by rw [ht]; exact hP, va_K.moved hW.alike hK, hD⟩⟩, hS.F ht⟩) hS.2.2 d_Model_clear_25

