abbrev Ou : Type := (Nat → Int64)
abbrev Ou_f (s : Ou) : (Nat → Int64) := s
abbrev Ou_s_f (s : Ou) (x : (Nat → Int64)) : Ou := x
abbrev wOu (cI cZ cJ : ClassId) (a : Nat → Nat) (s : Ou) : va_W := [((a 0), .inl (cJ, 1, .inr (.inl (Ou_f s))))]
theorem t_562 : (.methodLink R_Law 7 y_SD_symbol : Cond) ∈ tb := List.mem_filter.mpr ⟨List.mem_of_getElem? (i := 562) (by decide +kernel), by decide +kernel⟩
theorem t_563 : (.instanceMethod y_SD_symbol : Cond) ∈ tb := List.mem_filter.mpr ⟨List.mem_of_getElem? (i := 563) (by decide +kernel), by decide +kernel⟩
theorem t_564 : (.selects R_SD y_SD_symbol y_SD_symbol : Cond) ∈ tb := List.mem_filter.mpr ⟨List.mem_of_getElem? (i := 564) (by decide +kernel), by decide +kernel⟩
theorem t_565 : (.code y_SD_symbol c_SD_symbol 3 (some .int) : Cond) ∈ tb := List.mem_filter.mpr ⟨List.mem_of_getElem? (i := 565) (by decide +kernel), by decide +kernel⟩
theorem t_656 : (.methodLink R_Law 17 y_SD_put : Cond) ∈ tb := List.mem_filter.mpr ⟨List.mem_of_getElem? (i := 656) (by decide +kernel), by decide +kernel⟩
theorem t_657 : (.instanceMethod y_SD_put : Cond) ∈ tb := List.mem_filter.mpr ⟨List.mem_of_getElem? (i := 657) (by decide +kernel), by decide +kernel⟩
theorem t_658 : (.selects R_SD y_SD_put y_SD_put : Cond) ∈ tb := List.mem_filter.mpr ⟨List.mem_of_getElem? (i := 658) (by decide +kernel), by decide +kernel⟩
theorem t_659 : (.code y_SD_put c_SD_put 5 (some .boolean) : Cond) ∈ tb := List.mem_filter.mpr ⟨List.mem_of_getElem? (i := 659) (by decide +kernel), by decide +kernel⟩
theorem t_693 : (.methodLink R_Law 23 y_SD_row : Cond) ∈ tb := List.mem_filter.mpr ⟨List.mem_of_getElem? (i := 693) (by decide +kernel), by decide +kernel⟩
theorem t_694 : (.instanceMethod y_SD_row : Cond) ∈ tb := List.mem_filter.mpr ⟨List.mem_of_getElem? (i := 694) (by decide +kernel), by decide +kernel⟩
theorem t_695 : (.selects R_SD y_SD_row y_SD_row : Cond) ∈ tb := List.mem_filter.mpr ⟨List.mem_of_getElem? (i := 695) (by decide +kernel), by decide +kernel⟩
theorem t_696 : (.code y_SD_row c_SD_row 4 (some .int) : Cond) ∈ tb := List.mem_filter.mpr ⟨List.mem_of_getElem? (i := 696) (by decide +kernel), by decide +kernel⟩
theorem t_701 : (.methodLink R_Law 27 y_SD_at : Cond) ∈ tb := List.mem_filter.mpr ⟨List.mem_of_getElem? (i := 701) (by decide +kernel), by decide +kernel⟩
theorem t_702 : (.instanceMethod y_SD_at : Cond) ∈ tb := List.mem_filter.mpr ⟨List.mem_of_getElem? (i := 702) (by decide +kernel), by decide +kernel⟩
theorem t_703 : (.selects R_SD y_SD_at y_SD_at : Cond) ∈ tb := List.mem_filter.mpr ⟨List.mem_of_getElem? (i := 703) (by decide +kernel), by decide +kernel⟩
theorem t_704 : (.code y_SD_at c_SD_at 4 (some .boolean) : Cond) ∈ tb := List.mem_filter.mpr ⟨List.mem_of_getElem? (i := 704) (by decide +kernel), by decide +kernel⟩
theorem t_709 : (.methodLink R_Law 31 y_SD_refined : Cond) ∈ tb := List.mem_filter.mpr ⟨List.mem_of_getElem? (i := 709) (by decide +kernel), by decide +kernel⟩
theorem t_710 : (.instanceMethod y_SD_refined : Cond) ∈ tb := List.mem_filter.mpr ⟨List.mem_of_getElem? (i := 710) (by decide +kernel), by decide +kernel⟩
theorem t_711 : (.selects R_SD y_SD_refined y_SD_refined : Cond) ∈ tb := List.mem_filter.mpr ⟨List.mem_of_getElem? (i := 711) (by decide +kernel), by decide +kernel⟩
theorem t_712 : (.code y_SD_refined c_SD_refined 6 (some .int) : Cond) ∈ tb := List.mem_filter.mpr ⟨List.mem_of_getElem? (i := 712) (by decide +kernel), by decide +kernel⟩
theorem t_735 : (.methodLink R_Law 37 y_SD_export : Cond) ∈ tb := List.mem_filter.mpr ⟨List.mem_of_getElem? (i := 735) (by decide +kernel), by decide +kernel⟩
theorem t_736 : (.instanceMethod y_SD_export : Cond) ∈ tb := List.mem_filter.mpr ⟨List.mem_of_getElem? (i := 736) (by decide +kernel), by decide +kernel⟩
theorem t_737 : (.selects R_SD y_SD_export y_SD_export : Cond) ∈ tb := List.mem_filter.mpr ⟨List.mem_of_getElem? (i := 737) (by decide +kernel), by decide +kernel⟩
theorem t_738 : (.code y_SD_export c_SD_export 4 (some .boolean) : Cond) ∈ tb := List.mem_filter.mpr ⟨List.mem_of_getElem? (i := 738) (by decide +kernel), by decide +kernel⟩
theorem t_742 : (.methodLink R_Law 41 y_SD_byteAt : Cond) ∈ tb := List.mem_filter.mpr ⟨List.mem_of_getElem? (i := 742) (by decide +kernel), by decide +kernel⟩
theorem t_743 : (.instanceMethod y_SD_byteAt : Cond) ∈ tb := List.mem_filter.mpr ⟨List.mem_of_getElem? (i := 743) (by decide +kernel), by decide +kernel⟩
theorem t_744 : (.selects R_SD y_SD_byteAt y_SD_byteAt : Cond) ∈ tb := List.mem_filter.mpr ⟨List.mem_of_getElem? (i := 744) (by decide +kernel), by decide +kernel⟩
theorem t_745 : (.code y_SD_byteAt c_SD_byteAt 2 (some .int) : Cond) ∈ tb := List.mem_filter.mpr ⟨List.mem_of_getElem? (i := 745) (by decide +kernel), by decide +kernel⟩
theorem t_750 : (.methodLink R_Law 45 y_SD_feed : Cond) ∈ tb := List.mem_filter.mpr ⟨List.mem_of_getElem? (i := 750) (by decide +kernel), by decide +kernel⟩
theorem t_751 : (.instanceMethod y_SD_feed : Cond) ∈ tb := List.mem_filter.mpr ⟨List.mem_of_getElem? (i := 751) (by decide +kernel), by decide +kernel⟩
theorem t_752 : (.selects R_SD y_SD_feed y_SD_feed : Cond) ∈ tb := List.mem_filter.mpr ⟨List.mem_of_getElem? (i := 752) (by decide +kernel), by decide +kernel⟩
theorem t_753 : (.code y_SD_feed c_SD_feed 2 (some .int) : Cond) ∈ tb := List.mem_filter.mpr ⟨List.mem_of_getElem? (i := 753) (by decide +kernel), by decide +kernel⟩
theorem t_760 : (.methodLink R_Law 48 y_SD_pass : Cond) ∈ tb := List.mem_filter.mpr ⟨List.mem_of_getElem? (i := 760) (by decide +kernel), by decide +kernel⟩
theorem t_761 : (.instanceMethod y_SD_pass : Cond) ∈ tb := List.mem_filter.mpr ⟨List.mem_of_getElem? (i := 761) (by decide +kernel), by decide +kernel⟩
theorem t_762 : (.selects R_SD y_SD_pass y_SD_pass : Cond) ∈ tb := List.mem_filter.mpr ⟨List.mem_of_getElem? (i := 762) (by decide +kernel), by decide +kernel⟩
theorem t_763 : (.code y_SD_pass c_SD_pass 1 (some .int) : Cond) ∈ tb := List.mem_filter.mpr ⟨List.mem_of_getElem? (i := 763) (by decide +kernel), by decide +kernel⟩
theorem t_773 : (.methodLink R_Law 52 y_SD_told : Cond) ∈ tb := List.mem_filter.mpr ⟨List.mem_of_getElem? (i := 773) (by decide +kernel), by decide +kernel⟩
theorem t_774 : (.instanceMethod y_SD_told : Cond) ∈ tb := List.mem_filter.mpr ⟨List.mem_of_getElem? (i := 774) (by decide +kernel), by decide +kernel⟩
theorem t_775 : (.selects R_SD y_SD_told y_SD_told : Cond) ∈ tb := List.mem_filter.mpr ⟨List.mem_of_getElem? (i := 775) (by decide +kernel), by decide +kernel⟩
theorem t_776 : (.code y_SD_told c_SD_told 3 (some .int) : Cond) ∈ tb := List.mem_filter.mpr ⟨List.mem_of_getElem? (i := 776) (by decide +kernel), by decide +kernel⟩
theorem t_786 : (.methodLink R_Law 55 y_SD_likeness : Cond) ∈ tb := List.mem_filter.mpr ⟨List.mem_of_getElem? (i := 786) (by decide +kernel), by decide +kernel⟩
theorem t_787 : (.instanceMethod y_SD_likeness : Cond) ∈ tb := List.mem_filter.mpr ⟨List.mem_of_getElem? (i := 787) (by decide +kernel), by decide +kernel⟩
theorem t_788 : (.selects R_SD y_SD_likeness y_SD_likeness : Cond) ∈ tb := List.mem_filter.mpr ⟨List.mem_of_getElem? (i := 788) (by decide +kernel), by decide +kernel⟩
theorem t_789 : (.code y_SD_likeness c_SD_likeness 3 (some .int) : Cond) ∈ tb := List.mem_filter.mpr ⟨List.mem_of_getElem? (i := 789) (by decide +kernel), by decide +kernel⟩
theorem t_797 : (.methodLink R_Law 58 y_SD_classes : Cond) ∈ tb := List.mem_filter.mpr ⟨List.mem_of_getElem? (i := 797) (by decide +kernel), by decide +kernel⟩
theorem t_798 : (.instanceMethod y_SD_classes : Cond) ∈ tb := List.mem_filter.mpr ⟨List.mem_of_getElem? (i := 798) (by decide +kernel), by decide +kernel⟩
theorem t_799 : (.selects R_SD y_SD_classes y_SD_classes : Cond) ∈ tb := List.mem_filter.mpr ⟨List.mem_of_getElem? (i := 799) (by decide +kernel), by decide +kernel⟩
theorem t_800 : (.code y_SD_classes c_SD_classes 2 (some .int) : Cond) ∈ tb := List.mem_filter.mpr ⟨List.mem_of_getElem? (i := 800) (by decide +kernel), by decide +kernel⟩
theorem t_814 : (.methodLink R_Law 61 y_SD_cls : Cond) ∈ tb := List.mem_filter.mpr ⟨List.mem_of_getElem? (i := 814) (by decide +kernel), by decide +kernel⟩
theorem t_815 : (.instanceMethod y_SD_cls : Cond) ∈ tb := List.mem_filter.mpr ⟨List.mem_of_getElem? (i := 815) (by decide +kernel), by decide +kernel⟩
theorem t_816 : (.selects R_SD y_SD_cls y_SD_cls : Cond) ∈ tb := List.mem_filter.mpr ⟨List.mem_of_getElem? (i := 816) (by decide +kernel), by decide +kernel⟩
theorem t_817 : (.code y_SD_cls c_SD_cls 2 (some .int) : Cond) ∈ tb := List.mem_filter.mpr ⟨List.mem_of_getElem? (i := 817) (by decide +kernel), by decide +kernel⟩
abbrev ws_Law_symbol : List Cond := .codeWith y_Law_symbol c_Law_symbol 5 (some .int) [((0), (10), (13), (13)), ((0), (10), (17), (15))] :: tb
theorem hd_Law_symbol : y_Law_symbol.cls = R_Law ∧ y_Law_symbol.cls ≠ "java/lang/invoke/MethodHandle" ∧ y_Law_symbol.cls ≠ "java/lang/invoke/VarHandle" ∧ (parseMethodDescriptor y_Law_symbol.desc).map (fun d => d.parameters.length) = some 4 := by decide +kernel
theorem d_Law_symbol_0 : decode c_Law_symbol 0 = .ok (.aload_n 3, 1) := by decide +kernel
theorem d_Law_symbol_1 : decode c_Law_symbol 1 = .ok (.iconst 0, 1) := by decide +kernel
theorem d_Law_symbol_2 : decode c_Law_symbol 2 = .ok (.aload_n 0, 1) := by decide +kernel
theorem d_Law_symbol_3 : decode c_Law_symbol 3 = .ok (.iload_n 1, 1) := by decide +kernel
theorem d_Law_symbol_4 : decode c_Law_symbol 4 = .ok (.iload_n 2, 1) := by decide +kernel
theorem d_Law_symbol_5 : decode c_Law_symbol 5 = .ok (.invokevirtual 7, 3) := by decide +kernel
theorem d_Law_symbol_8 : decode c_Law_symbol 8 = .ok (.i2l, 1) := by decide +kernel
theorem d_Law_symbol_9 : decode c_Law_symbol 9 = .ok (.lastore, 1) := by decide +kernel
theorem d_Law_symbol_10 : decode c_Law_symbol 10 = .ok (.goto 11, 3) := by decide +kernel
theorem d_Law_symbol_13 : decode c_Law_symbol 13 = .ok (.astore 4, 2) := by decide +kernel
theorem d_Law_symbol_15 : decode c_Law_symbol 15 = .ok (.iconst 1, 1) := by decide +kernel
theorem d_Law_symbol_16 : decode c_Law_symbol 16 = .ok (.ireturn, 1) := by decide +kernel
theorem d_Law_symbol_17 : decode c_Law_symbol 17 = .ok (.astore 4, 2) := by decide +kernel
theorem d_Law_symbol_19 : decode c_Law_symbol 19 = .ok (.iconst 2, 1) := by decide +kernel
theorem d_Law_symbol_20 : decode c_Law_symbol 20 = .ok (.ireturn, 1) := by decide +kernel
theorem d_Law_symbol_21 : decode c_Law_symbol 21 = .ok (.iconst 0, 1) := by decide +kernel
theorem d_Law_symbol_22 : decode c_Law_symbol 22 = .ok (.ireturn, 1) := by decide +kernel
abbrev ws_Law_put : List Cond := .codeWith y_Law_put c_Law_put 7 (some .int) [((0), (21), (24), (21))] :: tb
theorem hd_Law_put : y_Law_put.cls = R_Law ∧ y_Law_put.cls ≠ "java/lang/invoke/MethodHandle" ∧ y_Law_put.cls ≠ "java/lang/invoke/VarHandle" ∧ (parseMethodDescriptor y_Law_put.desc).map (fun d => d.parameters.length) = some 6 := by decide +kernel
theorem d_Law_put_0 : decode c_Law_put 0 = .ok (.aload 5, 2) := by decide +kernel
theorem d_Law_put_2 : decode c_Law_put 2 = .ok (.iconst 0, 1) := by decide +kernel
theorem d_Law_put_3 : decode c_Law_put 3 = .ok (.aload_n 0, 1) := by decide +kernel
theorem d_Law_put_4 : decode c_Law_put 4 = .ok (.iload_n 1, 1) := by decide +kernel
theorem d_Law_put_5 : decode c_Law_put 5 = .ok (.iload_n 2, 1) := by decide +kernel
theorem d_Law_put_6 : decode c_Law_put 6 = .ok (.iload_n 3, 1) := by decide +kernel
theorem d_Law_put_7 : decode c_Law_put 7 = .ok (.iload 4, 2) := by decide +kernel
theorem d_Law_put_9 : decode c_Law_put 9 = .ok (.invokevirtual 17, 3) := by decide +kernel
theorem d_Law_put_12 : decode c_Law_put 12 = .ok (.ifCond .eq 7, 3) := by decide +kernel
theorem d_Law_put_15 : decode c_Law_put 15 = .ok (.lconst 1, 1) := by decide +kernel
theorem d_Law_put_16 : decode c_Law_put 16 = .ok (.goto 4, 3) := by decide +kernel
theorem d_Law_put_19 : decode c_Law_put 19 = .ok (.lconst 0, 1) := by decide +kernel
theorem d_Law_put_20 : decode c_Law_put 20 = .ok (.lastore, 1) := by decide +kernel
theorem d_Law_put_21 : decode c_Law_put 21 = .ok (.goto 7, 3) := by decide +kernel
theorem d_Law_put_24 : decode c_Law_put 24 = .ok (.astore 6, 2) := by decide +kernel
theorem d_Law_put_26 : decode c_Law_put 26 = .ok (.iconst 1, 1) := by decide +kernel
theorem d_Law_put_27 : decode c_Law_put 27 = .ok (.ireturn, 1) := by decide +kernel
theorem d_Law_put_28 : decode c_Law_put 28 = .ok (.iconst 0, 1) := by decide +kernel
theorem d_Law_put_29 : decode c_Law_put 29 = .ok (.ireturn, 1) := by decide +kernel
abbrev ws_Law_row : List Cond := .codeWith y_Law_row c_Law_row 6 (some .int) [((0), (12), (15), (21))] :: tb
theorem hd_Law_row : y_Law_row.cls = R_Law ∧ y_Law_row.cls ≠ "java/lang/invoke/MethodHandle" ∧ y_Law_row.cls ≠ "java/lang/invoke/VarHandle" ∧ (parseMethodDescriptor y_Law_row.desc).map (fun d => d.parameters.length) = some 5 := by decide +kernel
theorem d_Law_row_0 : decode c_Law_row 0 = .ok (.aload 4, 2) := by decide +kernel
theorem d_Law_row_2 : decode c_Law_row 2 = .ok (.iconst 0, 1) := by decide +kernel
theorem d_Law_row_3 : decode c_Law_row 3 = .ok (.aload_n 0, 1) := by decide +kernel
theorem d_Law_row_4 : decode c_Law_row 4 = .ok (.iload_n 1, 1) := by decide +kernel
theorem d_Law_row_5 : decode c_Law_row 5 = .ok (.iload_n 2, 1) := by decide +kernel
theorem d_Law_row_6 : decode c_Law_row 6 = .ok (.iload_n 3, 1) := by decide +kernel
theorem d_Law_row_7 : decode c_Law_row 7 = .ok (.invokevirtual 23, 3) := by decide +kernel
theorem d_Law_row_10 : decode c_Law_row 10 = .ok (.i2l, 1) := by decide +kernel
theorem d_Law_row_11 : decode c_Law_row 11 = .ok (.lastore, 1) := by decide +kernel
theorem d_Law_row_12 : decode c_Law_row 12 = .ok (.goto 7, 3) := by decide +kernel
theorem d_Law_row_15 : decode c_Law_row 15 = .ok (.astore 5, 2) := by decide +kernel
theorem d_Law_row_17 : decode c_Law_row 17 = .ok (.iconst 1, 1) := by decide +kernel
theorem d_Law_row_18 : decode c_Law_row 18 = .ok (.ireturn, 1) := by decide +kernel
theorem d_Law_row_19 : decode c_Law_row 19 = .ok (.iconst 0, 1) := by decide +kernel
theorem d_Law_row_20 : decode c_Law_row 20 = .ok (.ireturn, 1) := by decide +kernel
abbrev ws_Law_at : List Cond := .codeWith y_Law_at c_Law_at 6 (some .int) [((0), (19), (22), (21))] :: tb
theorem hd_Law_at : y_Law_at.cls = R_Law ∧ y_Law_at.cls ≠ "java/lang/invoke/MethodHandle" ∧ y_Law_at.cls ≠ "java/lang/invoke/VarHandle" ∧ (parseMethodDescriptor y_Law_at.desc).map (fun d => d.parameters.length) = some 5 := by decide +kernel
theorem d_Law_at_0 : decode c_Law_at 0 = .ok (.aload 4, 2) := by decide +kernel
theorem d_Law_at_2 : decode c_Law_at 2 = .ok (.iconst 0, 1) := by decide +kernel
theorem d_Law_at_3 : decode c_Law_at 3 = .ok (.aload_n 0, 1) := by decide +kernel
theorem d_Law_at_4 : decode c_Law_at 4 = .ok (.iload_n 1, 1) := by decide +kernel
theorem d_Law_at_5 : decode c_Law_at 5 = .ok (.iload_n 2, 1) := by decide +kernel
theorem d_Law_at_6 : decode c_Law_at 6 = .ok (.iload_n 3, 1) := by decide +kernel
theorem d_Law_at_7 : decode c_Law_at 7 = .ok (.invokevirtual 27, 3) := by decide +kernel
theorem d_Law_at_10 : decode c_Law_at 10 = .ok (.ifCond .eq 7, 3) := by decide +kernel
theorem d_Law_at_13 : decode c_Law_at 13 = .ok (.lconst 1, 1) := by decide +kernel
theorem d_Law_at_14 : decode c_Law_at 14 = .ok (.goto 4, 3) := by decide +kernel
theorem d_Law_at_17 : decode c_Law_at 17 = .ok (.lconst 0, 1) := by decide +kernel
theorem d_Law_at_18 : decode c_Law_at 18 = .ok (.lastore, 1) := by decide +kernel
theorem d_Law_at_19 : decode c_Law_at 19 = .ok (.goto 7, 3) := by decide +kernel
theorem d_Law_at_22 : decode c_Law_at 22 = .ok (.astore 5, 2) := by decide +kernel
theorem d_Law_at_24 : decode c_Law_at 24 = .ok (.iconst 1, 1) := by decide +kernel
theorem d_Law_at_25 : decode c_Law_at 25 = .ok (.ireturn, 1) := by decide +kernel
theorem d_Law_at_26 : decode c_Law_at 26 = .ok (.iconst 0, 1) := by decide +kernel
theorem d_Law_at_27 : decode c_Law_at 27 = .ok (.ireturn, 1) := by decide +kernel
abbrev ws_Law_refined : List Cond := .codeWith y_Law_refined c_Law_refined 7 (some .int) [((0), (14), (17), (21)), ((0), (14), (21), (13)), ((0), (14), (25), (35))] :: tb
theorem hd_Law_refined : y_Law_refined.cls = R_Law ∧ y_Law_refined.cls ≠ "java/lang/invoke/MethodHandle" ∧ y_Law_refined.cls ≠ "java/lang/invoke/VarHandle" ∧ (parseMethodDescriptor y_Law_refined.desc).map (fun d => d.parameters.length) = some 6 := by decide +kernel
theorem d_Law_refined_0 : decode c_Law_refined 0 = .ok (.aload 5, 2) := by decide +kernel
theorem d_Law_refined_2 : decode c_Law_refined 2 = .ok (.iconst 0, 1) := by decide +kernel
theorem d_Law_refined_3 : decode c_Law_refined 3 = .ok (.aload_n 0, 1) := by decide +kernel
theorem d_Law_refined_4 : decode c_Law_refined 4 = .ok (.iload_n 1, 1) := by decide +kernel
theorem d_Law_refined_5 : decode c_Law_refined 5 = .ok (.iload_n 2, 1) := by decide +kernel
theorem d_Law_refined_6 : decode c_Law_refined 6 = .ok (.iload_n 3, 1) := by decide +kernel
theorem d_Law_refined_7 : decode c_Law_refined 7 = .ok (.iload 4, 2) := by decide +kernel
theorem d_Law_refined_9 : decode c_Law_refined 9 = .ok (.invokevirtual 31, 3) := by decide +kernel
theorem d_Law_refined_12 : decode c_Law_refined 12 = .ok (.i2l, 1) := by decide +kernel
theorem d_Law_refined_13 : decode c_Law_refined 13 = .ok (.lastore, 1) := by decide +kernel
theorem d_Law_refined_14 : decode c_Law_refined 14 = .ok (.goto 15, 3) := by decide +kernel
theorem d_Law_refined_17 : decode c_Law_refined 17 = .ok (.astore 6, 2) := by decide +kernel
theorem d_Law_refined_19 : decode c_Law_refined 19 = .ok (.iconst 1, 1) := by decide +kernel
theorem d_Law_refined_20 : decode c_Law_refined 20 = .ok (.ireturn, 1) := by decide +kernel
theorem d_Law_refined_21 : decode c_Law_refined 21 = .ok (.astore 6, 2) := by decide +kernel
theorem d_Law_refined_23 : decode c_Law_refined 23 = .ok (.iconst 2, 1) := by decide +kernel
theorem d_Law_refined_24 : decode c_Law_refined 24 = .ok (.ireturn, 1) := by decide +kernel
theorem d_Law_refined_25 : decode c_Law_refined 25 = .ok (.astore 6, 2) := by decide +kernel
theorem d_Law_refined_27 : decode c_Law_refined 27 = .ok (.iconst 3, 1) := by decide +kernel
theorem d_Law_refined_28 : decode c_Law_refined 28 = .ok (.ireturn, 1) := by decide +kernel
theorem d_Law_refined_29 : decode c_Law_refined 29 = .ok (.iconst 0, 1) := by decide +kernel
theorem d_Law_refined_30 : decode c_Law_refined 30 = .ok (.ireturn, 1) := by decide +kernel
abbrev ws_Law_export : List Cond := .codeWith y_Law_export c_Law_export 5 (some .int) [((0), (17), (20), (21))] :: tb
theorem hd_Law_export : y_Law_export.cls = R_Law ∧ y_Law_export.cls ≠ "java/lang/invoke/MethodHandle" ∧ y_Law_export.cls ≠ "java/lang/invoke/VarHandle" ∧ (parseMethodDescriptor y_Law_export.desc).map (fun d => d.parameters.length) = some 4 := by decide +kernel
theorem d_Law_export_0 : decode c_Law_export 0 = .ok (.aload_n 3, 1) := by decide +kernel
theorem d_Law_export_1 : decode c_Law_export 1 = .ok (.iconst 0, 1) := by decide +kernel
theorem d_Law_export_2 : decode c_Law_export 2 = .ok (.aload_n 0, 1) := by decide +kernel
theorem d_Law_export_3 : decode c_Law_export 3 = .ok (.iload_n 1, 1) := by decide +kernel
theorem d_Law_export_4 : decode c_Law_export 4 = .ok (.iload_n 2, 1) := by decide +kernel
theorem d_Law_export_5 : decode c_Law_export 5 = .ok (.invokevirtual 37, 3) := by decide +kernel
theorem d_Law_export_8 : decode c_Law_export 8 = .ok (.ifCond .eq 7, 3) := by decide +kernel
theorem d_Law_export_11 : decode c_Law_export 11 = .ok (.lconst 1, 1) := by decide +kernel
theorem d_Law_export_12 : decode c_Law_export 12 = .ok (.goto 4, 3) := by decide +kernel
theorem d_Law_export_15 : decode c_Law_export 15 = .ok (.lconst 0, 1) := by decide +kernel
theorem d_Law_export_16 : decode c_Law_export 16 = .ok (.lastore, 1) := by decide +kernel
theorem d_Law_export_17 : decode c_Law_export 17 = .ok (.goto 7, 3) := by decide +kernel
theorem d_Law_export_20 : decode c_Law_export 20 = .ok (.astore 4, 2) := by decide +kernel
theorem d_Law_export_22 : decode c_Law_export 22 = .ok (.iconst 1, 1) := by decide +kernel
theorem d_Law_export_23 : decode c_Law_export 23 = .ok (.ireturn, 1) := by decide +kernel
theorem d_Law_export_24 : decode c_Law_export 24 = .ok (.iconst 0, 1) := by decide +kernel
theorem d_Law_export_25 : decode c_Law_export 25 = .ok (.ireturn, 1) := by decide +kernel
abbrev ws_Law_byteAt : List Cond := .codeWith y_Law_byteAt c_Law_byteAt 4 (some .int) [((0), (9), (12), (21))] :: tb
theorem hd_Law_byteAt : y_Law_byteAt.cls = R_Law ∧ y_Law_byteAt.cls ≠ "java/lang/invoke/MethodHandle" ∧ y_Law_byteAt.cls ≠ "java/lang/invoke/VarHandle" ∧ (parseMethodDescriptor y_Law_byteAt.desc).map (fun d => d.parameters.length) = some 3 := by decide +kernel
theorem d_Law_byteAt_0 : decode c_Law_byteAt 0 = .ok (.aload_n 2, 1) := by decide +kernel
theorem d_Law_byteAt_1 : decode c_Law_byteAt 1 = .ok (.iconst 0, 1) := by decide +kernel
theorem d_Law_byteAt_2 : decode c_Law_byteAt 2 = .ok (.aload_n 0, 1) := by decide +kernel
theorem d_Law_byteAt_3 : decode c_Law_byteAt 3 = .ok (.iload_n 1, 1) := by decide +kernel
theorem d_Law_byteAt_4 : decode c_Law_byteAt 4 = .ok (.invokevirtual 41, 3) := by decide +kernel
theorem d_Law_byteAt_7 : decode c_Law_byteAt 7 = .ok (.i2l, 1) := by decide +kernel
theorem d_Law_byteAt_8 : decode c_Law_byteAt 8 = .ok (.lastore, 1) := by decide +kernel
theorem d_Law_byteAt_9 : decode c_Law_byteAt 9 = .ok (.goto 6, 3) := by decide +kernel
theorem d_Law_byteAt_12 : decode c_Law_byteAt 12 = .ok (.astore_n 3, 1) := by decide +kernel
theorem d_Law_byteAt_13 : decode c_Law_byteAt 13 = .ok (.iconst 1, 1) := by decide +kernel
theorem d_Law_byteAt_14 : decode c_Law_byteAt 14 = .ok (.ireturn, 1) := by decide +kernel
theorem d_Law_byteAt_15 : decode c_Law_byteAt 15 = .ok (.iconst 0, 1) := by decide +kernel
theorem d_Law_byteAt_16 : decode c_Law_byteAt 16 = .ok (.ireturn, 1) := by decide +kernel
abbrev ws_Law_feed : List Cond := .codeWith y_Law_feed c_Law_feed 4 (some .int) [((0), (9), (12), (13)), ((0), (9), (15), (15))] :: tb
theorem hd_Law_feed : y_Law_feed.cls = R_Law ∧ y_Law_feed.cls ≠ "java/lang/invoke/MethodHandle" ∧ y_Law_feed.cls ≠ "java/lang/invoke/VarHandle" ∧ (parseMethodDescriptor y_Law_feed.desc).map (fun d => d.parameters.length) = some 3 := by decide +kernel
theorem d_Law_feed_0 : decode c_Law_feed 0 = .ok (.aload_n 2, 1) := by decide +kernel
theorem d_Law_feed_1 : decode c_Law_feed 1 = .ok (.iconst 0, 1) := by decide +kernel
theorem d_Law_feed_2 : decode c_Law_feed 2 = .ok (.aload_n 0, 1) := by decide +kernel
theorem d_Law_feed_3 : decode c_Law_feed 3 = .ok (.iload_n 1, 1) := by decide +kernel
theorem d_Law_feed_4 : decode c_Law_feed 4 = .ok (.invokevirtual 45, 3) := by decide +kernel
theorem d_Law_feed_7 : decode c_Law_feed 7 = .ok (.i2l, 1) := by decide +kernel
theorem d_Law_feed_8 : decode c_Law_feed 8 = .ok (.lastore, 1) := by decide +kernel
theorem d_Law_feed_9 : decode c_Law_feed 9 = .ok (.goto 9, 3) := by decide +kernel
theorem d_Law_feed_12 : decode c_Law_feed 12 = .ok (.astore_n 3, 1) := by decide +kernel
theorem d_Law_feed_13 : decode c_Law_feed 13 = .ok (.iconst 1, 1) := by decide +kernel
theorem d_Law_feed_14 : decode c_Law_feed 14 = .ok (.ireturn, 1) := by decide +kernel
theorem d_Law_feed_15 : decode c_Law_feed 15 = .ok (.astore_n 3, 1) := by decide +kernel
theorem d_Law_feed_16 : decode c_Law_feed 16 = .ok (.iconst 2, 1) := by decide +kernel
theorem d_Law_feed_17 : decode c_Law_feed 17 = .ok (.ireturn, 1) := by decide +kernel
theorem d_Law_feed_18 : decode c_Law_feed 18 = .ok (.iconst 0, 1) := by decide +kernel
theorem d_Law_feed_19 : decode c_Law_feed 19 = .ok (.ireturn, 1) := by decide +kernel
abbrev ws_Law_pass : List Cond := .codeWith y_Law_pass c_Law_pass 3 (some .int) [((0), (8), (11), (15))] :: tb
theorem hd_Law_pass : y_Law_pass.cls = R_Law ∧ y_Law_pass.cls ≠ "java/lang/invoke/MethodHandle" ∧ y_Law_pass.cls ≠ "java/lang/invoke/VarHandle" ∧ (parseMethodDescriptor y_Law_pass.desc).map (fun d => d.parameters.length) = some 2 := by decide +kernel
theorem d_Law_pass_0 : decode c_Law_pass 0 = .ok (.aload_n 1, 1) := by decide +kernel
theorem d_Law_pass_1 : decode c_Law_pass 1 = .ok (.iconst 0, 1) := by decide +kernel
theorem d_Law_pass_2 : decode c_Law_pass 2 = .ok (.aload_n 0, 1) := by decide +kernel
theorem d_Law_pass_3 : decode c_Law_pass 3 = .ok (.invokevirtual 48, 3) := by decide +kernel
theorem d_Law_pass_6 : decode c_Law_pass 6 = .ok (.i2l, 1) := by decide +kernel
theorem d_Law_pass_7 : decode c_Law_pass 7 = .ok (.lastore, 1) := by decide +kernel
theorem d_Law_pass_8 : decode c_Law_pass 8 = .ok (.goto 6, 3) := by decide +kernel
theorem d_Law_pass_11 : decode c_Law_pass 11 = .ok (.astore_n 2, 1) := by decide +kernel
theorem d_Law_pass_12 : decode c_Law_pass 12 = .ok (.iconst 1, 1) := by decide +kernel
theorem d_Law_pass_13 : decode c_Law_pass 13 = .ok (.ireturn, 1) := by decide +kernel
theorem d_Law_pass_14 : decode c_Law_pass 14 = .ok (.iconst 0, 1) := by decide +kernel
theorem d_Law_pass_15 : decode c_Law_pass 15 = .ok (.ireturn, 1) := by decide +kernel
abbrev ws_Law_told : List Cond := .codeWith y_Law_told c_Law_told 5 (some .int) [((0), (10), (13), (21)), ((0), (10), (17), (13))] :: tb
theorem hd_Law_told : y_Law_told.cls = R_Law ∧ y_Law_told.cls ≠ "java/lang/invoke/MethodHandle" ∧ y_Law_told.cls ≠ "java/lang/invoke/VarHandle" ∧ (parseMethodDescriptor y_Law_told.desc).map (fun d => d.parameters.length) = some 4 := by decide +kernel
theorem d_Law_told_0 : decode c_Law_told 0 = .ok (.aload_n 3, 1) := by decide +kernel
theorem d_Law_told_1 : decode c_Law_told 1 = .ok (.iconst 0, 1) := by decide +kernel
theorem d_Law_told_2 : decode c_Law_told 2 = .ok (.aload_n 0, 1) := by decide +kernel
theorem d_Law_told_3 : decode c_Law_told 3 = .ok (.iload_n 1, 1) := by decide +kernel
theorem d_Law_told_4 : decode c_Law_told 4 = .ok (.iload_n 2, 1) := by decide +kernel
theorem d_Law_told_5 : decode c_Law_told 5 = .ok (.invokevirtual 52, 3) := by decide +kernel
theorem d_Law_told_8 : decode c_Law_told 8 = .ok (.i2l, 1) := by decide +kernel
theorem d_Law_told_9 : decode c_Law_told 9 = .ok (.lastore, 1) := by decide +kernel
theorem d_Law_told_10 : decode c_Law_told 10 = .ok (.goto 11, 3) := by decide +kernel
theorem d_Law_told_13 : decode c_Law_told 13 = .ok (.astore 4, 2) := by decide +kernel
theorem d_Law_told_15 : decode c_Law_told 15 = .ok (.iconst 1, 1) := by decide +kernel
theorem d_Law_told_16 : decode c_Law_told 16 = .ok (.ireturn, 1) := by decide +kernel
theorem d_Law_told_17 : decode c_Law_told 17 = .ok (.astore 4, 2) := by decide +kernel
theorem d_Law_told_19 : decode c_Law_told 19 = .ok (.iconst 2, 1) := by decide +kernel
theorem d_Law_told_20 : decode c_Law_told 20 = .ok (.ireturn, 1) := by decide +kernel
theorem d_Law_told_21 : decode c_Law_told 21 = .ok (.iconst 0, 1) := by decide +kernel
theorem d_Law_told_22 : decode c_Law_told 22 = .ok (.ireturn, 1) := by decide +kernel
abbrev ws_Law_likeness : List Cond := .codeWith y_Law_likeness c_Law_likeness 5 (some .int) [((0), (10), (13), (21))] :: tb
theorem hd_Law_likeness : y_Law_likeness.cls = R_Law ∧ y_Law_likeness.cls ≠ "java/lang/invoke/MethodHandle" ∧ y_Law_likeness.cls ≠ "java/lang/invoke/VarHandle" ∧ (parseMethodDescriptor y_Law_likeness.desc).map (fun d => d.parameters.length) = some 4 := by decide +kernel
theorem d_Law_likeness_0 : decode c_Law_likeness 0 = .ok (.aload_n 3, 1) := by decide +kernel
theorem d_Law_likeness_1 : decode c_Law_likeness 1 = .ok (.iconst 0, 1) := by decide +kernel
theorem d_Law_likeness_2 : decode c_Law_likeness 2 = .ok (.aload_n 0, 1) := by decide +kernel
theorem d_Law_likeness_3 : decode c_Law_likeness 3 = .ok (.iload_n 1, 1) := by decide +kernel
theorem d_Law_likeness_4 : decode c_Law_likeness 4 = .ok (.iload_n 2, 1) := by decide +kernel
theorem d_Law_likeness_5 : decode c_Law_likeness 5 = .ok (.invokevirtual 55, 3) := by decide +kernel
theorem d_Law_likeness_8 : decode c_Law_likeness 8 = .ok (.i2l, 1) := by decide +kernel
theorem d_Law_likeness_9 : decode c_Law_likeness 9 = .ok (.lastore, 1) := by decide +kernel
theorem d_Law_likeness_10 : decode c_Law_likeness 10 = .ok (.goto 7, 3) := by decide +kernel
theorem d_Law_likeness_13 : decode c_Law_likeness 13 = .ok (.astore 4, 2) := by decide +kernel
theorem d_Law_likeness_15 : decode c_Law_likeness 15 = .ok (.iconst 1, 1) := by decide +kernel
theorem d_Law_likeness_16 : decode c_Law_likeness 16 = .ok (.ireturn, 1) := by decide +kernel
theorem d_Law_likeness_17 : decode c_Law_likeness 17 = .ok (.iconst 0, 1) := by decide +kernel
theorem d_Law_likeness_18 : decode c_Law_likeness 18 = .ok (.ireturn, 1) := by decide +kernel
abbrev ws_Law_classes : List Cond := .codeWith y_Law_classes c_Law_classes 4 (some .int) [((0), (9), (12), (13))] :: tb
theorem hd_Law_classes : y_Law_classes.cls = R_Law ∧ y_Law_classes.cls ≠ "java/lang/invoke/MethodHandle" ∧ y_Law_classes.cls ≠ "java/lang/invoke/VarHandle" ∧ (parseMethodDescriptor y_Law_classes.desc).map (fun d => d.parameters.length) = some 3 := by decide +kernel
theorem d_Law_classes_0 : decode c_Law_classes 0 = .ok (.aload_n 2, 1) := by decide +kernel
theorem d_Law_classes_1 : decode c_Law_classes 1 = .ok (.iconst 0, 1) := by decide +kernel
theorem d_Law_classes_2 : decode c_Law_classes 2 = .ok (.aload_n 0, 1) := by decide +kernel
theorem d_Law_classes_3 : decode c_Law_classes 3 = .ok (.iload_n 1, 1) := by decide +kernel
theorem d_Law_classes_4 : decode c_Law_classes 4 = .ok (.invokevirtual 58, 3) := by decide +kernel
theorem d_Law_classes_7 : decode c_Law_classes 7 = .ok (.i2l, 1) := by decide +kernel
theorem d_Law_classes_8 : decode c_Law_classes 8 = .ok (.lastore, 1) := by decide +kernel
theorem d_Law_classes_9 : decode c_Law_classes 9 = .ok (.goto 6, 3) := by decide +kernel
theorem d_Law_classes_12 : decode c_Law_classes 12 = .ok (.astore_n 3, 1) := by decide +kernel
theorem d_Law_classes_13 : decode c_Law_classes 13 = .ok (.iconst 1, 1) := by decide +kernel
theorem d_Law_classes_14 : decode c_Law_classes 14 = .ok (.ireturn, 1) := by decide +kernel
theorem d_Law_classes_15 : decode c_Law_classes 15 = .ok (.iconst 0, 1) := by decide +kernel
theorem d_Law_classes_16 : decode c_Law_classes 16 = .ok (.ireturn, 1) := by decide +kernel
abbrev ws_Law_cls : List Cond := .codeWith y_Law_cls c_Law_cls 4 (some .int) [((0), (9), (12), (21))] :: tb
theorem hd_Law_cls : y_Law_cls.cls = R_Law ∧ y_Law_cls.cls ≠ "java/lang/invoke/MethodHandle" ∧ y_Law_cls.cls ≠ "java/lang/invoke/VarHandle" ∧ (parseMethodDescriptor y_Law_cls.desc).map (fun d => d.parameters.length) = some 3 := by decide +kernel
theorem d_Law_cls_0 : decode c_Law_cls 0 = .ok (.aload_n 2, 1) := by decide +kernel
theorem d_Law_cls_1 : decode c_Law_cls 1 = .ok (.iconst 0, 1) := by decide +kernel
theorem d_Law_cls_2 : decode c_Law_cls 2 = .ok (.aload_n 0, 1) := by decide +kernel
theorem d_Law_cls_3 : decode c_Law_cls 3 = .ok (.iload_n 1, 1) := by decide +kernel
theorem d_Law_cls_4 : decode c_Law_cls 4 = .ok (.invokevirtual 61, 3) := by decide +kernel
theorem d_Law_cls_7 : decode c_Law_cls 7 = .ok (.i2l, 1) := by decide +kernel
theorem d_Law_cls_8 : decode c_Law_cls 8 = .ok (.lastore, 1) := by decide +kernel
theorem d_Law_cls_9 : decode c_Law_cls 9 = .ok (.goto 6, 3) := by decide +kernel
theorem d_Law_cls_12 : decode c_Law_cls 12 = .ok (.astore_n 3, 1) := by decide +kernel
theorem d_Law_cls_13 : decode c_Law_cls 13 = .ok (.iconst 1, 1) := by decide +kernel
theorem d_Law_cls_14 : decode c_Law_cls 14 = .ok (.ireturn, 1) := by decide +kernel
theorem d_Law_cls_15 : decode c_Law_cls 15 = .ok (.iconst 0, 1) := by decide +kernel
theorem d_Law_cls_16 : decode c_Law_cls 16 = .ok (.ireturn, 1) := by decide +kernel
/-! Law_symbol -/
def f_Law_symbol (sd : Sd) (cu : Sy) (ou : Ou) (x1 : Int32) (x2 : Int32) : Option (Int32 × Sy × Ou) := bd (f_SD_symbol sd cu x1 x2) <| fun (r_1, cu_2) => gd (inb 0 1) <| lt' (Ou_s_f ou (vp_updL (Ou_f ou) (0 : Int32).toNatClampNeg r_1.toInt64)) <| fun ou_4 => some (0, cu_2, ou_4)
section
variable {p : Program} {l : Launch} {e : Env} {R : Room} {s : State} {m : MethodId} {args : Array Value} {below : List Frame} {meth : Method} {c : Code} {Q : State → Prop} {A : Nat → Prop}
set_option maxHeartbeats 4000000 in
set_option maxRecDepth 100000 in
theorem B_Law_symbol {cells slots : Nat} {dC : Nat → ClassId} {dI : Nat → Nat → Nat} {cI cZ cJ : ClassId} {sd_a : Nat → Nat} {cu_a : Nat → Nat} {ou_a : Nat → Nat} {lk_w : Nat} {lk_v : Nat} {lk_wr : Nat} {lk_rd : Nat} {lk_sp : Nat} {sd : Sd} {cu : Sy} {ou : Ou} {x1 : Int32} {x2 : Int32} {res : Int32 × Sy × Ou} (C0 : cxt p c m s args R cells slots R_Law c_Law_symbol tb 5 (dC, dI) vwCl (TYS cI cZ cJ) A 4 92)
    (hr22 : ∀ (H : Heap) (locs : List Loc) (ls : Array Slot) (v : Int32) (cu' : Sy) (ou' : Ou), va_P (dC, dI) vwCl (wSd cI cZ cJ sd_a lk_w lk_v lk_wr lk_rd (cu_a 0) lk_sp sd ++ wSy cI cZ cJ cu_a cu' ++ wOu cI cZ cJ ou_a ou') H → va_D A (wSd cI cZ cJ sd_a lk_w lk_v lk_wr lk_rd (cu_a 0) lk_sp sd ++ wSy cI cZ cJ cu_a cu' ++ wOu cI cZ cJ ou_a ou') → va_S A s.heap H locs → some (v, cu', ou') = some res → W p l e R s m args below meth c H locs cells slots Q (F0 m 22 ls [.int v]))
    {H : Heap} {locs : List Loc} {ls : Array Slot} (hP : va_P (dC, dI) vwCl (wSd cI cZ cJ sd_a lk_w lk_v lk_wr lk_rd (cu_a 0) lk_sp sd ++ wSy cI cZ cJ cu_a cu ++ wOu cI cZ cJ ou_a ou) H) (hD : va_D A (wSd cI cZ cJ sd_a lk_w lk_v lk_wr lk_rd (cu_a 0) lk_sp sd ++ wSy cI cZ cJ cu_a cu ++ wOu cI cZ cJ ou_a ou)) (hS : va_S A s.heap H locs) (hl : lv_has ls 5 [(0, .ref (sd_a 0)), (1, .int x1), (2, .int x2), (3, .ref (ou_a 0))]) (hf : f_Law_symbol sd cu ou x1 x2 = some res) : W p l e R s m args below meth c H locs cells slots Q (F0 m 0 ls []) := by
  obtain ⟨hx, hb, hml, hown, hts, hK, hA, hRf, hRl, hN, hRc⟩ := id C0
  rw [f_Law_symbol] at hf
  refine lv_aload_n hx hb d_Law_symbol_0 rfl (lv_at hl 3 rfl) ?_
  refine lv_iconst (v := 0) hx hb d_Law_symbol_1 (by decide) ?_
  refine lv_aload_n hx hb d_Law_symbol_2 rfl (lv_at hl 0 rfl) ?_
  refine lv_iload_n hx hb d_Law_symbol_3 rfl (lv_at hl 1 rfl) ?_
  refine lv_iload_n hx hb d_Law_symbol_4 rfl (lv_at hl 2 rfl) ?_
  obtain ⟨⟨r_1, cu_2⟩, hf1, hf⟩ := bd_ex hf
  try dsimp only at hf
  have hPc := hP.sub (ws' := (wSd cI cZ cJ sd_a lk_w lk_v lk_wr lk_rd (cu_a 0) lk_sp sd ++ wSy cI cZ cJ cu_a cu)) [0, 1, 2, 3, 4, 5, 6, 7, 8, 9, 10] rfl
  have hDc := hD.sub (ws' := (wSd cI cZ cJ sd_a lk_w lk_v lk_wr lk_rd (cu_a 0) lk_sp sd ++ wSy cI cZ cJ cu_a cu)) [0, 1, 2, 3, 4, 5, 6, 7, 8, 9, 10] (by decide) rfl
  have hFc := va_free (wc := (wSd cI cZ cJ sd_a lk_w lk_v lk_wr lk_rd (cu_a 0) lk_sp sd ++ wSy cI cZ cJ cu_a cu)) hD hS hA [0, 1, 2, 3, 4, 5, 6, 7, 8, 9, 10] rfl
  refine va_calli (va_runV (As := [.int x1, .int x2]) (rest := [.int 0, .ref (ou_a 0)]) ⟨hx, hb, hml, hown, hts⟩ (k_SD_symbol l dC dI cI cZ cJ sd_a cu_a lk_w lk_v lk_wr lk_rd lk_sp H.size hf1) (cwV 2 hts (gV t_562 t_563 t_564 t_54 t_565) rfl rfl rfl hd_SD_symbol ⟨Nat.le_trans (Nat.le_of_ble_eq_true rfl) hRf, Nat.le_trans (Nat.le_of_ble_eq_true rfl) hRl⟩) ⟨kP_blind, va_recv hK hP (ci := 6) (q0 := 0) rfl rfl, kP_at hPc hK hDc hN⟩ rfl rfl hl.1 rfl (lv_room (Nat.le_of_ble_eq_true rfl)) d_Law_symbol_5 hRc) hS (fun q _ h => hFc q h) hFc (fun r9 u t H1 locs ht hvm hw hB hz1 hk1 hS => ?_)
  rw [hw]
  obtain ⟨hP, hD⟩ := kQ_join (wr := (wOu cI cZ cJ ou_a ou)) (w1 := (wSd cI cZ cJ sd_a lk_w lk_v lk_wr lk_rd (cu_a 0) lk_sp sd ++ wSy cI cZ cJ cu_a cu_2)) hP hD [0, 1, 2, 3, 4, 5, 6, 7, 8, 9, 10] [11] rfl rfl (by decide) (by decide) ht hk1 hFc hB
  generalize H1 = H at hP hS ⊢
  have hP : va_P (dC, dI) vwCl (wSd cI cZ cJ sd_a lk_w lk_v lk_wr lk_rd (cu_a 0) lk_sp sd ++ wSy cI cZ cJ cu_a cu_2 ++ wOu cI cZ cJ ou_a ou) H := hP.sub [1, 2, 3, 4, 5, 6, 7, 8, 9, 10, 11, 0] rfl
  have hD : va_D A (wSd cI cZ cJ sd_a lk_w lk_v lk_wr lk_rd (cu_a 0) lk_sp sd ++ wSy cI cZ cJ cu_a cu_2 ++ wOu cI cZ cJ ou_a ou) := hD.sub [1, 2, 3, 4, 5, 6, 7, 8, 9, 10, 11, 0] (by decide) rfl
  refine lv_i2l (v := r_1.toInt64) hx hb d_Law_symbol_8 rfl ?_
  obtain ⟨h_3, hf⟩ := gd_ex hf
  refine va_last (f := Ou_f ou) hx hb hK hP hD hS 11 2 rfl rfl (inb_in h_3) d_Law_symbol_9 (fun H locs hP hD hS => ?_)
  obtain ⟨ou_4, eou_4, hf⟩ := lt_ex hf
  try dsimp only at hf
  have hP : va_P (dC, dI) vwCl (wSd cI cZ cJ sd_a lk_w lk_v lk_wr lk_rd (cu_a 0) lk_sp sd ++ wSy cI cZ cJ cu_a cu_2 ++ wOu cI cZ cJ ou_a ou_4) H := by rw [eou_4]; exact hP
  have hD : va_D A (wSd cI cZ cJ sd_a lk_w lk_v lk_wr lk_rd (cu_a 0) lk_sp sd ++ wSy cI cZ cJ cu_a cu_2 ++ wOu cI cZ cJ ou_a ou_4) := by rw [eou_4]; exact hD
  refine lv_goto (tgt := 21) hx hb d_Law_symbol_10 (by decide) ?_
  refine lv_iconst (v := 0) hx hb d_Law_symbol_21 (by decide) ?_
  exact hr22 _ _ _ 0 cu_2 ou_4 hP hD hS hf
end
set_option maxHeartbeats 4000000 in
set_option maxRecDepth 100000 in
theorem k_Law_symbol (l : Launch) (dC : Nat → ClassId) (dI : Nat → Nat → Nat) (cI cZ cJ : ClassId) (sd_a : Nat → Nat) (cu_a : Nat → Nat) (ou_a : Nat → Nat) (lk_w : Nat) (lk_v : Nat) (lk_wr : Nat) (lk_rd : Nat) (lk_sp : Nat) (sz : Nat) {sd : Sd} {cu : Sy} {ou : Ou} {x1 : Int32} {x2 : Int32} {r : Int32} {cu' : Sy} {ou' : Ou} (hf : f_Law_symbol sd cu ou x1 x2 = some (r, cu', ou')) :
    Met l y_Law_symbol ws_Law_symbol ({ frames := 4, cells := 0, slots := 0, locals := 92 }) (va_Pc [.ref (sd_a 0), .int x1, .int x2, .ref (ou_a 0)] (kP (dC, dI) vwCl (TYS cI cZ cJ) (wSd cI cZ cJ sd_a lk_w lk_v lk_wr lk_rd (cu_a 0) lk_sp sd ++ wSy cI cZ cJ cu_a cu ++ wOu cI cZ cJ ou_a ou) sz)) (va_Qi (fun (q : Int32) (_ : Unit) => q = r) (fun _ t => kQ (dC, dI) vwCl (TYS cI cZ cJ) (wSd cI cZ cJ sd_a lk_w lk_v lk_wr lk_rd (cu_a 0) lk_sp sd ++ wSy cI cZ cJ cu_a cu ++ wOu cI cZ cJ ou_a ou) sz (wSd cI cZ cJ sd_a lk_w lk_v lk_wr lk_rd (cu_a 0) lk_sp sd ++ wSy cI cZ cJ cu_a cu' ++ wOu cI cZ cJ ou_a ou') t) (va_A (wSd cI cZ cJ sd_a lk_w lk_v lk_wr lk_rd (cu_a 0) lk_sp sd ++ wSy cI cZ cJ cu_a cu ++ wOu cI cZ cJ ou_a ou) sz)) 0 0 (va_A (wSd cI cZ cJ sd_a lk_w lk_v lk_wr lk_rd (cu_a 0) lk_sp sd ++ wSy cI cZ cJ cu_a cu ++ wOu cI cZ cJ ou_a ou) sz) := by
  refine va_MetW (hh := [((0), (10), (13), (13)), ((0), (10), (17), (15))]) (cc := c_Law_symbol) (maxL := 5) (ret := (some .int)) (by decide) rfl ?_
  intro p e s m args below meth c s₁ B hml hv
  obtain ⟨rfl, hsz, hP, hK, hD0, hN⟩ := hv
  have hr := B.returns
  have hlocks := B.notSynchronized
  subst hsz
  have hD := hD0.self (sz := s.heap.size)
  have hl := lv_entry ([.ref (sd_a 0), .int x1, .int x2, .ref (ou_a 0)]) (n := 5) (Nat.le_of_ble_eq_true rfl)
  rw [lg_entry_eq]
  generalize (lg_sl ([.ref (sd_a 0), .int x1, .int x2, .ref (ou_a 0)]) ++ List.replicate (5 - (lg_sl ([.ref (sd_a 0), .int x1, .int x2, .ref (ou_a 0)])).length) Slot.unset).toArray = ls at hl ⊢
  refine B_Law_symbol (A := va_A (wSd cI cZ cJ sd_a lk_w lk_v lk_wr lk_rd (cu_a 0) lk_sp sd ++ wSy cI cZ cJ cu_a cu ++ wOu cI cZ cJ ou_a ou) s.heap.size) ⟨B.exec, B.bytes, hml, findClass_of_methodNamed B.named, fun w h => atoms_spec (ws := ws_Law_symbol) B.pre w (List.mem_cons_of_mem _ h), hK, fun q h => Or.inr h, Nat.le_of_ble_eq_true rfl, Nat.le_of_ble_eq_true rfl, hN, Nat.le_of_ble_eq_true rfl, Nat.le_of_ble_eq_true rfl⟩ (fun H locs ls v cu'1 ou'1 hP hD hS hf => ?_) hP hD va_S.rf hl hf
  · cases hf
    exact W.iret B.exec B.bytes hr (fun t ht hW => ⟨⟨_, (), rfl, rfl, ⟨by rw [ht]; exact hP, va_K.moved hW.alike hK, hD⟩⟩, hS.F ht⟩) hS.2.2 d_Law_symbol_22

/-! Law_put -/
def f_Law_put (sd : Sd) (cu : Sy) (ou : Ou) (x1 : Int32) (x2 : Int32) (x3 : Int32) (x4 : Int32) : Option (Int32 × Sy × Ou) := bd (f_SD_put sd cu x1 x2 x3 x4) <| fun (r_1, cu_2) => (if r_1 = 0 then gd (inb 0 1) <| lt' (Ou_s_f ou (vp_updL (Ou_f ou) (0 : Int32).toNatClampNeg 0)) <| fun ou_5 => some (0, cu_2, ou_5) else gd (inb 0 1) <| lt' (Ou_s_f ou (vp_updL (Ou_f ou) (0 : Int32).toNatClampNeg 1)) <| fun ou_8 => some (0, cu_2, ou_8))
section
variable {p : Program} {l : Launch} {e : Env} {R : Room} {s : State} {m : MethodId} {args : Array Value} {below : List Frame} {meth : Method} {c : Code} {Q : State → Prop} {A : Nat → Prop}
set_option maxHeartbeats 4000000 in
set_option maxRecDepth 100000 in
theorem B_Law_put {cells slots : Nat} {dC : Nat → ClassId} {dI : Nat → Nat → Nat} {cI cZ cJ : ClassId} {sd_a : Nat → Nat} {cu_a : Nat → Nat} {ou_a : Nat → Nat} {lk_w : Nat} {lk_v : Nat} {lk_wr : Nat} {lk_rd : Nat} {lk_sp : Nat} {sd : Sd} {cu : Sy} {ou : Ou} {x1 : Int32} {x2 : Int32} {x3 : Int32} {x4 : Int32} {res : Int32 × Sy × Ou} (C0 : cxt p c m s args R cells slots R_Law c_Law_put tb 7 (dC, dI) vwCl (TYS cI cZ cJ) A 3 69)
    (hr29 : ∀ (H : Heap) (locs : List Loc) (ls : Array Slot) (v : Int32) (cu' : Sy) (ou' : Ou), va_P (dC, dI) vwCl (wSd cI cZ cJ sd_a lk_w lk_v lk_wr lk_rd (cu_a 0) lk_sp sd ++ wSy cI cZ cJ cu_a cu' ++ wOu cI cZ cJ ou_a ou') H → va_D A (wSd cI cZ cJ sd_a lk_w lk_v lk_wr lk_rd (cu_a 0) lk_sp sd ++ wSy cI cZ cJ cu_a cu' ++ wOu cI cZ cJ ou_a ou') → va_S A s.heap H locs → some (v, cu', ou') = some res → W p l e R s m args below meth c H locs cells slots Q (F0 m 29 ls [.int v]))
    {H : Heap} {locs : List Loc} {ls : Array Slot} (hP : va_P (dC, dI) vwCl (wSd cI cZ cJ sd_a lk_w lk_v lk_wr lk_rd (cu_a 0) lk_sp sd ++ wSy cI cZ cJ cu_a cu ++ wOu cI cZ cJ ou_a ou) H) (hD : va_D A (wSd cI cZ cJ sd_a lk_w lk_v lk_wr lk_rd (cu_a 0) lk_sp sd ++ wSy cI cZ cJ cu_a cu ++ wOu cI cZ cJ ou_a ou)) (hS : va_S A s.heap H locs) (hl : lv_has ls 7 [(0, .ref (sd_a 0)), (1, .int x1), (2, .int x2), (3, .int x3), (4, .int x4), (5, .ref (ou_a 0))]) (hf : f_Law_put sd cu ou x1 x2 x3 x4 = some res) : W p l e R s m args below meth c H locs cells slots Q (F0 m 0 ls []) := by
  obtain ⟨hx, hb, hml, hown, hts, hK, hA, hRf, hRl, hN, hRc⟩ := id C0
  rw [f_Law_put] at hf
  refine lv_aload hx hb d_Law_put_0 (lv_at hl 5 rfl) ?_
  refine lv_iconst (v := 0) hx hb d_Law_put_2 (by decide) ?_
  refine lv_aload_n hx hb d_Law_put_3 rfl (lv_at hl 0 rfl) ?_
  refine lv_iload_n hx hb d_Law_put_4 rfl (lv_at hl 1 rfl) ?_
  refine lv_iload_n hx hb d_Law_put_5 rfl (lv_at hl 2 rfl) ?_
  refine lv_iload_n hx hb d_Law_put_6 rfl (lv_at hl 3 rfl) ?_
  refine lv_iload hx hb d_Law_put_7 (lv_at hl 4 rfl) ?_
  obtain ⟨⟨r_1, cu_2⟩, hf1, hf⟩ := bd_ex hf
  try dsimp only at hf
  have hPc := hP.sub (ws' := (wSd cI cZ cJ sd_a lk_w lk_v lk_wr lk_rd (cu_a 0) lk_sp sd ++ wSy cI cZ cJ cu_a cu)) [0, 1, 2, 3, 4, 5, 6, 7, 8, 9, 10] rfl
  have hDc := hD.sub (ws' := (wSd cI cZ cJ sd_a lk_w lk_v lk_wr lk_rd (cu_a 0) lk_sp sd ++ wSy cI cZ cJ cu_a cu)) [0, 1, 2, 3, 4, 5, 6, 7, 8, 9, 10] (by decide) rfl
  have hFc := va_free (wc := (wSd cI cZ cJ sd_a lk_w lk_v lk_wr lk_rd (cu_a 0) lk_sp sd ++ wSy cI cZ cJ cu_a cu)) hD hS hA [0, 1, 2, 3, 4, 5, 6, 7, 8, 9, 10] rfl
  refine va_calli (va_runV (As := [.int x1, .int x2, .int x3, .int x4]) (rest := [.int 0, .ref (ou_a 0)]) ⟨hx, hb, hml, hown, hts⟩ (k_SD_put l dC dI cI cZ cJ sd_a cu_a lk_w lk_v lk_wr lk_rd lk_sp H.size hf1) (cwV 4 hts (gV t_656 t_657 t_658 t_54 t_659) rfl rfl rfl hd_SD_put ⟨Nat.le_trans (Nat.le_of_ble_eq_true rfl) hRf, Nat.le_trans (Nat.le_of_ble_eq_true rfl) hRl⟩) ⟨kP_blind, va_recv hK hP (ci := 6) (q0 := 0) rfl rfl, kP_at hPc hK hDc hN⟩ rfl rfl hl.1 rfl (lv_room (Nat.le_of_ble_eq_true rfl)) d_Law_put_9 hRc) hS (fun q _ h => hFc q h) hFc (fun r9 u t H1 locs ht hvm hw hB hz1 hk1 hS => ?_)
  rw [hw.1]
  obtain ⟨hP, hD⟩ := kQ_join (wr := (wOu cI cZ cJ ou_a ou)) (w1 := (wSd cI cZ cJ sd_a lk_w lk_v lk_wr lk_rd (cu_a 0) lk_sp sd ++ wSy cI cZ cJ cu_a cu_2)) hP hD [0, 1, 2, 3, 4, 5, 6, 7, 8, 9, 10] [11] rfl rfl (by decide) (by decide) ht hk1 hFc hB
  generalize H1 = H at hP hS ⊢
  have hP : va_P (dC, dI) vwCl (wSd cI cZ cJ sd_a lk_w lk_v lk_wr lk_rd (cu_a 0) lk_sp sd ++ wSy cI cZ cJ cu_a cu_2 ++ wOu cI cZ cJ ou_a ou) H := hP.sub [1, 2, 3, 4, 5, 6, 7, 8, 9, 10, 11, 0] rfl
  have hD : va_D A (wSd cI cZ cJ sd_a lk_w lk_v lk_wr lk_rd (cu_a 0) lk_sp sd ++ wSy cI cZ cJ cu_a cu_2 ++ wOu cI cZ cJ ou_a ou) := hD.sub [1, 2, 3, 4, 5, 6, 7, 8, 9, 10, 11, 0] (by decide) rfl
  refine lv_if_eq (tgt := 19) hx hb d_Law_put_12 (by decide) (fun c_3 => ?_) (fun c_3 => ?_)
  · rw [if_pos c_3] at hf
    refine lv_lconst (v := 0) hx hb d_Law_put_19 (by decide) ?_
    obtain ⟨h_4, hf⟩ := gd_ex hf
    refine va_last (f := Ou_f ou) hx hb hK hP hD hS 11 2 rfl rfl (inb_in h_4) d_Law_put_20 (fun H locs hP hD hS => ?_)
    obtain ⟨ou_5, eou_5, hf⟩ := lt_ex hf
    try dsimp only at hf
    have hP : va_P (dC, dI) vwCl (wSd cI cZ cJ sd_a lk_w lk_v lk_wr lk_rd (cu_a 0) lk_sp sd ++ wSy cI cZ cJ cu_a cu_2 ++ wOu cI cZ cJ ou_a ou_5) H := by rw [eou_5]; exact hP
    have hD : va_D A (wSd cI cZ cJ sd_a lk_w lk_v lk_wr lk_rd (cu_a 0) lk_sp sd ++ wSy cI cZ cJ cu_a cu_2 ++ wOu cI cZ cJ ou_a ou_5) := by rw [eou_5]; exact hD
    refine lv_goto (tgt := 28) hx hb d_Law_put_21 (by decide) ?_
    refine lv_iconst (v := 0) hx hb d_Law_put_28 (by decide) ?_
    exact hr29 _ _ _ 0 cu_2 ou_5 hP hD hS hf
  · rw [if_neg c_3] at hf
    refine lv_lconst (v := 1) hx hb d_Law_put_15 (by decide) ?_
    refine lv_goto (tgt := 20) hx hb d_Law_put_16 (by decide) ?_
    obtain ⟨h_7, hf⟩ := gd_ex hf
    refine va_last (f := Ou_f ou) hx hb hK hP hD hS 11 2 rfl rfl (inb_in h_7) d_Law_put_20 (fun H locs hP hD hS => ?_)
    obtain ⟨ou_8, eou_8, hf⟩ := lt_ex hf
    try dsimp only at hf
    have hP : va_P (dC, dI) vwCl (wSd cI cZ cJ sd_a lk_w lk_v lk_wr lk_rd (cu_a 0) lk_sp sd ++ wSy cI cZ cJ cu_a cu_2 ++ wOu cI cZ cJ ou_a ou_8) H := by rw [eou_8]; exact hP
    have hD : va_D A (wSd cI cZ cJ sd_a lk_w lk_v lk_wr lk_rd (cu_a 0) lk_sp sd ++ wSy cI cZ cJ cu_a cu_2 ++ wOu cI cZ cJ ou_a ou_8) := by rw [eou_8]; exact hD
    refine lv_goto (tgt := 28) hx hb d_Law_put_21 (by decide) ?_
    refine lv_iconst (v := 0) hx hb d_Law_put_28 (by decide) ?_
    exact hr29 _ _ _ 0 cu_2 ou_8 hP hD hS hf
end
set_option maxHeartbeats 4000000 in
set_option maxRecDepth 100000 in
theorem k_Law_put (l : Launch) (dC : Nat → ClassId) (dI : Nat → Nat → Nat) (cI cZ cJ : ClassId) (sd_a : Nat → Nat) (cu_a : Nat → Nat) (ou_a : Nat → Nat) (lk_w : Nat) (lk_v : Nat) (lk_wr : Nat) (lk_rd : Nat) (lk_sp : Nat) (sz : Nat) {sd : Sd} {cu : Sy} {ou : Ou} {x1 : Int32} {x2 : Int32} {x3 : Int32} {x4 : Int32} {r : Int32} {cu' : Sy} {ou' : Ou} (hf : f_Law_put sd cu ou x1 x2 x3 x4 = some (r, cu', ou')) :
    Met l y_Law_put ws_Law_put ({ frames := 3, cells := 0, slots := 0, locals := 69 }) (va_Pc [.ref (sd_a 0), .int x1, .int x2, .int x3, .int x4, .ref (ou_a 0)] (kP (dC, dI) vwCl (TYS cI cZ cJ) (wSd cI cZ cJ sd_a lk_w lk_v lk_wr lk_rd (cu_a 0) lk_sp sd ++ wSy cI cZ cJ cu_a cu ++ wOu cI cZ cJ ou_a ou) sz)) (va_Qi (fun (q : Int32) (_ : Unit) => q = r) (fun _ t => kQ (dC, dI) vwCl (TYS cI cZ cJ) (wSd cI cZ cJ sd_a lk_w lk_v lk_wr lk_rd (cu_a 0) lk_sp sd ++ wSy cI cZ cJ cu_a cu ++ wOu cI cZ cJ ou_a ou) sz (wSd cI cZ cJ sd_a lk_w lk_v lk_wr lk_rd (cu_a 0) lk_sp sd ++ wSy cI cZ cJ cu_a cu' ++ wOu cI cZ cJ ou_a ou') t) (va_A (wSd cI cZ cJ sd_a lk_w lk_v lk_wr lk_rd (cu_a 0) lk_sp sd ++ wSy cI cZ cJ cu_a cu ++ wOu cI cZ cJ ou_a ou) sz)) 0 0 (va_A (wSd cI cZ cJ sd_a lk_w lk_v lk_wr lk_rd (cu_a 0) lk_sp sd ++ wSy cI cZ cJ cu_a cu ++ wOu cI cZ cJ ou_a ou) sz) := by
  refine va_MetW (hh := [((0), (21), (24), (21))]) (cc := c_Law_put) (maxL := 7) (ret := (some .int)) (by decide) rfl ?_
  intro p e s m args below meth c s₁ B hml hv
  obtain ⟨rfl, hsz, hP, hK, hD0, hN⟩ := hv
  have hr := B.returns
  have hlocks := B.notSynchronized
  subst hsz
  have hD := hD0.self (sz := s.heap.size)
  have hl := lv_entry ([.ref (sd_a 0), .int x1, .int x2, .int x3, .int x4, .ref (ou_a 0)]) (n := 7) (Nat.le_of_ble_eq_true rfl)
  rw [lg_entry_eq]
  generalize (lg_sl ([.ref (sd_a 0), .int x1, .int x2, .int x3, .int x4, .ref (ou_a 0)]) ++ List.replicate (7 - (lg_sl ([.ref (sd_a 0), .int x1, .int x2, .int x3, .int x4, .ref (ou_a 0)])).length) Slot.unset).toArray = ls at hl ⊢
  refine B_Law_put (A := va_A (wSd cI cZ cJ sd_a lk_w lk_v lk_wr lk_rd (cu_a 0) lk_sp sd ++ wSy cI cZ cJ cu_a cu ++ wOu cI cZ cJ ou_a ou) s.heap.size) ⟨B.exec, B.bytes, hml, findClass_of_methodNamed B.named, fun w h => atoms_spec (ws := ws_Law_put) B.pre w (List.mem_cons_of_mem _ h), hK, fun q h => Or.inr h, Nat.le_of_ble_eq_true rfl, Nat.le_of_ble_eq_true rfl, hN, Nat.le_of_ble_eq_true rfl, Nat.le_of_ble_eq_true rfl⟩ (fun H locs ls v cu'1 ou'1 hP hD hS hf => ?_) hP hD va_S.rf hl hf
  · cases hf
    exact W.iret B.exec B.bytes hr (fun t ht hW => ⟨⟨_, (), rfl, rfl, ⟨by rw [ht]; exact hP, va_K.moved hW.alike hK, hD⟩⟩, hS.F ht⟩) hS.2.2 d_Law_put_29

/-! Law_row -/
def f_Law_row (sd : Sd) (cu : Sy) (ou : Ou) (x1 : Int32) (x2 : Int32) (x3 : Int32) : Option (Int32 × Sy × Ou) := bd (f_SD_row sd cu x1 x2 x3) <| fun (r_1, cu_2) => gd (inb 0 1) <| lt' (Ou_s_f ou (vp_updL (Ou_f ou) (0 : Int32).toNatClampNeg r_1.toInt64)) <| fun ou_4 => some (0, cu_2, ou_4)
section
variable {p : Program} {l : Launch} {e : Env} {R : Room} {s : State} {m : MethodId} {args : Array Value} {below : List Frame} {meth : Method} {c : Code} {Q : State → Prop} {A : Nat → Prop}
set_option maxHeartbeats 4000000 in
set_option maxRecDepth 100000 in
theorem B_Law_row {cells slots : Nat} {dC : Nat → ClassId} {dI : Nat → Nat → Nat} {cI cZ cJ : ClassId} {sd_a : Nat → Nat} {cu_a : Nat → Nat} {ou_a : Nat → Nat} {lk_w : Nat} {lk_v : Nat} {lk_wr : Nat} {lk_rd : Nat} {lk_sp : Nat} {sd : Sd} {cu : Sy} {ou : Ou} {x1 : Int32} {x2 : Int32} {x3 : Int32} {res : Int32 × Sy × Ou} (C0 : cxt p c m s args R cells slots R_Law c_Law_row tb 6 (dC, dI) vwCl (TYS cI cZ cJ) A 3 69)
    (hr20 : ∀ (H : Heap) (locs : List Loc) (ls : Array Slot) (v : Int32) (cu' : Sy) (ou' : Ou), va_P (dC, dI) vwCl (wSd cI cZ cJ sd_a lk_w lk_v lk_wr lk_rd (cu_a 0) lk_sp sd ++ wSy cI cZ cJ cu_a cu' ++ wOu cI cZ cJ ou_a ou') H → va_D A (wSd cI cZ cJ sd_a lk_w lk_v lk_wr lk_rd (cu_a 0) lk_sp sd ++ wSy cI cZ cJ cu_a cu' ++ wOu cI cZ cJ ou_a ou') → va_S A s.heap H locs → some (v, cu', ou') = some res → W p l e R s m args below meth c H locs cells slots Q (F0 m 20 ls [.int v]))
    {H : Heap} {locs : List Loc} {ls : Array Slot} (hP : va_P (dC, dI) vwCl (wSd cI cZ cJ sd_a lk_w lk_v lk_wr lk_rd (cu_a 0) lk_sp sd ++ wSy cI cZ cJ cu_a cu ++ wOu cI cZ cJ ou_a ou) H) (hD : va_D A (wSd cI cZ cJ sd_a lk_w lk_v lk_wr lk_rd (cu_a 0) lk_sp sd ++ wSy cI cZ cJ cu_a cu ++ wOu cI cZ cJ ou_a ou)) (hS : va_S A s.heap H locs) (hl : lv_has ls 6 [(0, .ref (sd_a 0)), (1, .int x1), (2, .int x2), (3, .int x3), (4, .ref (ou_a 0))]) (hf : f_Law_row sd cu ou x1 x2 x3 = some res) : W p l e R s m args below meth c H locs cells slots Q (F0 m 0 ls []) := by
  obtain ⟨hx, hb, hml, hown, hts, hK, hA, hRf, hRl, hN, hRc⟩ := id C0
  rw [f_Law_row] at hf
  refine lv_aload hx hb d_Law_row_0 (lv_at hl 4 rfl) ?_
  refine lv_iconst (v := 0) hx hb d_Law_row_2 (by decide) ?_
  refine lv_aload_n hx hb d_Law_row_3 rfl (lv_at hl 0 rfl) ?_
  refine lv_iload_n hx hb d_Law_row_4 rfl (lv_at hl 1 rfl) ?_
  refine lv_iload_n hx hb d_Law_row_5 rfl (lv_at hl 2 rfl) ?_
  refine lv_iload_n hx hb d_Law_row_6 rfl (lv_at hl 3 rfl) ?_
  obtain ⟨⟨r_1, cu_2⟩, hf1, hf⟩ := bd_ex hf
  try dsimp only at hf
  have hPc := hP.sub (ws' := (wSd cI cZ cJ sd_a lk_w lk_v lk_wr lk_rd (cu_a 0) lk_sp sd ++ wSy cI cZ cJ cu_a cu)) [0, 1, 2, 3, 4, 5, 6, 7, 8, 9, 10] rfl
  have hDc := hD.sub (ws' := (wSd cI cZ cJ sd_a lk_w lk_v lk_wr lk_rd (cu_a 0) lk_sp sd ++ wSy cI cZ cJ cu_a cu)) [0, 1, 2, 3, 4, 5, 6, 7, 8, 9, 10] (by decide) rfl
  have hFc := va_free (wc := (wSd cI cZ cJ sd_a lk_w lk_v lk_wr lk_rd (cu_a 0) lk_sp sd ++ wSy cI cZ cJ cu_a cu)) hD hS hA [0, 1, 2, 3, 4, 5, 6, 7, 8, 9, 10] rfl
  refine va_calli (va_runV (As := [.int x1, .int x2, .int x3]) (rest := [.int 0, .ref (ou_a 0)]) ⟨hx, hb, hml, hown, hts⟩ (k_SD_row l dC dI cI cZ cJ sd_a cu_a lk_w lk_v lk_wr lk_rd lk_sp H.size hf1) (cwV 3 hts (gV t_693 t_694 t_695 t_54 t_696) rfl rfl rfl hd_SD_row ⟨Nat.le_trans (Nat.le_of_ble_eq_true rfl) hRf, Nat.le_trans (Nat.le_of_ble_eq_true rfl) hRl⟩) ⟨kP_blind, va_recv hK hP (ci := 6) (q0 := 0) rfl rfl, kP_at hPc hK hDc hN⟩ rfl rfl hl.1 rfl (lv_room (Nat.le_of_ble_eq_true rfl)) d_Law_row_7 hRc) hS (fun q _ h => hFc q h) hFc (fun r9 u t H1 locs ht hvm hw hB hz1 hk1 hS => ?_)
  rw [hw]
  obtain ⟨hP, hD⟩ := kQ_join (wr := (wOu cI cZ cJ ou_a ou)) (w1 := (wSd cI cZ cJ sd_a lk_w lk_v lk_wr lk_rd (cu_a 0) lk_sp sd ++ wSy cI cZ cJ cu_a cu_2)) hP hD [0, 1, 2, 3, 4, 5, 6, 7, 8, 9, 10] [11] rfl rfl (by decide) (by decide) ht hk1 hFc hB
  generalize H1 = H at hP hS ⊢
  have hP : va_P (dC, dI) vwCl (wSd cI cZ cJ sd_a lk_w lk_v lk_wr lk_rd (cu_a 0) lk_sp sd ++ wSy cI cZ cJ cu_a cu_2 ++ wOu cI cZ cJ ou_a ou) H := hP.sub [1, 2, 3, 4, 5, 6, 7, 8, 9, 10, 11, 0] rfl
  have hD : va_D A (wSd cI cZ cJ sd_a lk_w lk_v lk_wr lk_rd (cu_a 0) lk_sp sd ++ wSy cI cZ cJ cu_a cu_2 ++ wOu cI cZ cJ ou_a ou) := hD.sub [1, 2, 3, 4, 5, 6, 7, 8, 9, 10, 11, 0] (by decide) rfl
  refine lv_i2l (v := r_1.toInt64) hx hb d_Law_row_10 rfl ?_
  obtain ⟨h_3, hf⟩ := gd_ex hf
  refine va_last (f := Ou_f ou) hx hb hK hP hD hS 11 2 rfl rfl (inb_in h_3) d_Law_row_11 (fun H locs hP hD hS => ?_)
  obtain ⟨ou_4, eou_4, hf⟩ := lt_ex hf
  try dsimp only at hf
  have hP : va_P (dC, dI) vwCl (wSd cI cZ cJ sd_a lk_w lk_v lk_wr lk_rd (cu_a 0) lk_sp sd ++ wSy cI cZ cJ cu_a cu_2 ++ wOu cI cZ cJ ou_a ou_4) H := by rw [eou_4]; exact hP
  have hD : va_D A (wSd cI cZ cJ sd_a lk_w lk_v lk_wr lk_rd (cu_a 0) lk_sp sd ++ wSy cI cZ cJ cu_a cu_2 ++ wOu cI cZ cJ ou_a ou_4) := by rw [eou_4]; exact hD
  refine lv_goto (tgt := 19) hx hb d_Law_row_12 (by decide) ?_
  refine lv_iconst (v := 0) hx hb d_Law_row_19 (by decide) ?_
  exact hr20 _ _ _ 0 cu_2 ou_4 hP hD hS hf
end
set_option maxHeartbeats 4000000 in
set_option maxRecDepth 100000 in
theorem k_Law_row (l : Launch) (dC : Nat → ClassId) (dI : Nat → Nat → Nat) (cI cZ cJ : ClassId) (sd_a : Nat → Nat) (cu_a : Nat → Nat) (ou_a : Nat → Nat) (lk_w : Nat) (lk_v : Nat) (lk_wr : Nat) (lk_rd : Nat) (lk_sp : Nat) (sz : Nat) {sd : Sd} {cu : Sy} {ou : Ou} {x1 : Int32} {x2 : Int32} {x3 : Int32} {r : Int32} {cu' : Sy} {ou' : Ou} (hf : f_Law_row sd cu ou x1 x2 x3 = some (r, cu', ou')) :
    Met l y_Law_row ws_Law_row ({ frames := 3, cells := 0, slots := 0, locals := 69 }) (va_Pc [.ref (sd_a 0), .int x1, .int x2, .int x3, .ref (ou_a 0)] (kP (dC, dI) vwCl (TYS cI cZ cJ) (wSd cI cZ cJ sd_a lk_w lk_v lk_wr lk_rd (cu_a 0) lk_sp sd ++ wSy cI cZ cJ cu_a cu ++ wOu cI cZ cJ ou_a ou) sz)) (va_Qi (fun (q : Int32) (_ : Unit) => q = r) (fun _ t => kQ (dC, dI) vwCl (TYS cI cZ cJ) (wSd cI cZ cJ sd_a lk_w lk_v lk_wr lk_rd (cu_a 0) lk_sp sd ++ wSy cI cZ cJ cu_a cu ++ wOu cI cZ cJ ou_a ou) sz (wSd cI cZ cJ sd_a lk_w lk_v lk_wr lk_rd (cu_a 0) lk_sp sd ++ wSy cI cZ cJ cu_a cu' ++ wOu cI cZ cJ ou_a ou') t) (va_A (wSd cI cZ cJ sd_a lk_w lk_v lk_wr lk_rd (cu_a 0) lk_sp sd ++ wSy cI cZ cJ cu_a cu ++ wOu cI cZ cJ ou_a ou) sz)) 0 0 (va_A (wSd cI cZ cJ sd_a lk_w lk_v lk_wr lk_rd (cu_a 0) lk_sp sd ++ wSy cI cZ cJ cu_a cu ++ wOu cI cZ cJ ou_a ou) sz) := by
  refine va_MetW (hh := [((0), (12), (15), (21))]) (cc := c_Law_row) (maxL := 6) (ret := (some .int)) (by decide) rfl ?_
  intro p e s m args below meth c s₁ B hml hv
  obtain ⟨rfl, hsz, hP, hK, hD0, hN⟩ := hv
  have hr := B.returns
  have hlocks := B.notSynchronized
  subst hsz
  have hD := hD0.self (sz := s.heap.size)
  have hl := lv_entry ([.ref (sd_a 0), .int x1, .int x2, .int x3, .ref (ou_a 0)]) (n := 6) (Nat.le_of_ble_eq_true rfl)
  rw [lg_entry_eq]
  generalize (lg_sl ([.ref (sd_a 0), .int x1, .int x2, .int x3, .ref (ou_a 0)]) ++ List.replicate (6 - (lg_sl ([.ref (sd_a 0), .int x1, .int x2, .int x3, .ref (ou_a 0)])).length) Slot.unset).toArray = ls at hl ⊢
  refine B_Law_row (A := va_A (wSd cI cZ cJ sd_a lk_w lk_v lk_wr lk_rd (cu_a 0) lk_sp sd ++ wSy cI cZ cJ cu_a cu ++ wOu cI cZ cJ ou_a ou) s.heap.size) ⟨B.exec, B.bytes, hml, findClass_of_methodNamed B.named, fun w h => atoms_spec (ws := ws_Law_row) B.pre w (List.mem_cons_of_mem _ h), hK, fun q h => Or.inr h, Nat.le_of_ble_eq_true rfl, Nat.le_of_ble_eq_true rfl, hN, Nat.le_of_ble_eq_true rfl, Nat.le_of_ble_eq_true rfl⟩ (fun H locs ls v cu'1 ou'1 hP hD hS hf => ?_) hP hD va_S.rf hl hf
  · cases hf
    exact W.iret B.exec B.bytes hr (fun t ht hW => ⟨⟨_, (), rfl, rfl, ⟨by rw [ht]; exact hP, va_K.moved hW.alike hK, hD⟩⟩, hS.F ht⟩) hS.2.2 d_Law_row_20

/-! Law_at -/
def f_Law_at (sd : Sd) (cu : Sy) (ou : Ou) (x1 : Int32) (x2 : Int32) (x3 : Int32) : Option (Int32 × Ou) := bd (f_SD_at sd cu x1 x2 x3) <| fun r_1 => (if r_1 = 0 then gd (inb 0 1) <| lt' (Ou_s_f ou (vp_updL (Ou_f ou) (0 : Int32).toNatClampNeg 0)) <| fun ou_4 => some (0, ou_4) else gd (inb 0 1) <| lt' (Ou_s_f ou (vp_updL (Ou_f ou) (0 : Int32).toNatClampNeg 1)) <| fun ou_7 => some (0, ou_7))
section
variable {p : Program} {l : Launch} {e : Env} {R : Room} {s : State} {m : MethodId} {args : Array Value} {below : List Frame} {meth : Method} {c : Code} {Q : State → Prop} {A : Nat → Prop}
set_option maxHeartbeats 4000000 in
set_option maxRecDepth 100000 in
theorem B_Law_at {cells slots : Nat} {dC : Nat → ClassId} {dI : Nat → Nat → Nat} {cI cZ cJ : ClassId} {sd_a : Nat → Nat} {cu_a : Nat → Nat} {ou_a : Nat → Nat} {lk_w : Nat} {lk_v : Nat} {lk_wr : Nat} {lk_rd : Nat} {lk_sp : Nat} {sd : Sd} {cu : Sy} {ou : Ou} {x1 : Int32} {x2 : Int32} {x3 : Int32} {res : Int32 × Ou} (C0 : cxt p c m s args R cells slots R_Law c_Law_at tb 6 (dC, dI) vwCl (TYS cI cZ cJ) A 3 68)
    (hr27 : ∀ (H : Heap) (locs : List Loc) (ls : Array Slot) (v : Int32) (ou' : Ou), va_P (dC, dI) vwCl (wSd cI cZ cJ sd_a lk_w lk_v lk_wr lk_rd (cu_a 0) lk_sp sd ++ wSy cI cZ cJ cu_a cu ++ wOu cI cZ cJ ou_a ou') H → va_D A (wSd cI cZ cJ sd_a lk_w lk_v lk_wr lk_rd (cu_a 0) lk_sp sd ++ wSy cI cZ cJ cu_a cu ++ wOu cI cZ cJ ou_a ou') → va_S A s.heap H locs → some (v, ou') = some res → W p l e R s m args below meth c H locs cells slots Q (F0 m 27 ls [.int v]))
    {H : Heap} {locs : List Loc} {ls : Array Slot} (hP : va_P (dC, dI) vwCl (wSd cI cZ cJ sd_a lk_w lk_v lk_wr lk_rd (cu_a 0) lk_sp sd ++ wSy cI cZ cJ cu_a cu ++ wOu cI cZ cJ ou_a ou) H) (hD : va_D A (wSd cI cZ cJ sd_a lk_w lk_v lk_wr lk_rd (cu_a 0) lk_sp sd ++ wSy cI cZ cJ cu_a cu ++ wOu cI cZ cJ ou_a ou)) (hS : va_S A s.heap H locs) (hl : lv_has ls 6 [(0, .ref (sd_a 0)), (1, .int x1), (2, .int x2), (3, .int x3), (4, .ref (ou_a 0))]) (hf : f_Law_at sd cu ou x1 x2 x3 = some res) : W p l e R s m args below meth c H locs cells slots Q (F0 m 0 ls []) := by
  obtain ⟨hx, hb, hml, hown, hts, hK, hA, hRf, hRl, hN, hRc⟩ := id C0
  rw [f_Law_at] at hf
  refine lv_aload hx hb d_Law_at_0 (lv_at hl 4 rfl) ?_
  refine lv_iconst (v := 0) hx hb d_Law_at_2 (by decide) ?_
  refine lv_aload_n hx hb d_Law_at_3 rfl (lv_at hl 0 rfl) ?_
  refine lv_iload_n hx hb d_Law_at_4 rfl (lv_at hl 1 rfl) ?_
  refine lv_iload_n hx hb d_Law_at_5 rfl (lv_at hl 2 rfl) ?_
  refine lv_iload_n hx hb d_Law_at_6 rfl (lv_at hl 3 rfl) ?_
  obtain ⟨r_1, hf1, hf⟩ := bd_ex hf
  try dsimp only at hf
  have hPc := hP.sub (ws' := (wSd cI cZ cJ sd_a lk_w lk_v lk_wr lk_rd (cu_a 0) lk_sp sd ++ wSy cI cZ cJ cu_a cu)) [0, 1, 2, 3, 4, 5, 6, 7, 8, 9, 10] rfl
  have hDc := hD.sub (ws' := (wSd cI cZ cJ sd_a lk_w lk_v lk_wr lk_rd (cu_a 0) lk_sp sd ++ wSy cI cZ cJ cu_a cu)) [0, 1, 2, 3, 4, 5, 6, 7, 8, 9, 10] (by decide) rfl
  have hFc := va_free (wc := (wSd cI cZ cJ sd_a lk_w lk_v lk_wr lk_rd (cu_a 0) lk_sp sd ++ wSy cI cZ cJ cu_a cu)) hD hS hA [0, 1, 2, 3, 4, 5, 6, 7, 8, 9, 10] rfl
  refine va_calli (va_runV (As := [.int x1, .int x2, .int x3]) (rest := [.int 0, .ref (ou_a 0)]) ⟨hx, hb, hml, hown, hts⟩ (k_SD_at l dC dI cI cZ cJ sd_a cu_a lk_w lk_v lk_wr lk_rd lk_sp H.size hf1) (cwV 3 hts (gV t_701 t_702 t_703 t_54 t_704) rfl rfl rfl hd_SD_at ⟨Nat.le_trans (Nat.le_of_ble_eq_true rfl) hRf, Nat.le_trans (Nat.le_of_ble_eq_true rfl) hRl⟩) ⟨kP_blind, va_recv hK hP (ci := 6) (q0 := 0) rfl rfl, kP_at hPc hK hDc hN⟩ rfl rfl hl.1 rfl (lv_room (Nat.le_of_ble_eq_true rfl)) d_Law_at_7 hRc) hS (fun q _ h => hFc q h) hFc (fun r9 u t H1 locs ht hvm hw hB hz1 hk1 hS => ?_)
  rw [hw.1]
  obtain ⟨hP, hD⟩ := kQ_join (wr := (wOu cI cZ cJ ou_a ou)) (w1 := (wSd cI cZ cJ sd_a lk_w lk_v lk_wr lk_rd (cu_a 0) lk_sp sd ++ wSy cI cZ cJ cu_a cu)) hP hD [0, 1, 2, 3, 4, 5, 6, 7, 8, 9, 10] [11] rfl rfl (by decide) (by decide) ht hk1 hFc hB
  generalize H1 = H at hP hS ⊢
  have hP : va_P (dC, dI) vwCl (wSd cI cZ cJ sd_a lk_w lk_v lk_wr lk_rd (cu_a 0) lk_sp sd ++ wSy cI cZ cJ cu_a cu ++ wOu cI cZ cJ ou_a ou) H := hP.sub [1, 2, 3, 4, 5, 6, 7, 8, 9, 10, 11, 0] rfl
  have hD : va_D A (wSd cI cZ cJ sd_a lk_w lk_v lk_wr lk_rd (cu_a 0) lk_sp sd ++ wSy cI cZ cJ cu_a cu ++ wOu cI cZ cJ ou_a ou) := hD.sub [1, 2, 3, 4, 5, 6, 7, 8, 9, 10, 11, 0] (by decide) rfl
  refine lv_if_eq (tgt := 17) hx hb d_Law_at_10 (by decide) (fun c_2 => ?_) (fun c_2 => ?_)
  · rw [if_pos c_2] at hf
    refine lv_lconst (v := 0) hx hb d_Law_at_17 (by decide) ?_
    obtain ⟨h_3, hf⟩ := gd_ex hf
    refine va_last (f := Ou_f ou) hx hb hK hP hD hS 11 2 rfl rfl (inb_in h_3) d_Law_at_18 (fun H locs hP hD hS => ?_)
    obtain ⟨ou_4, eou_4, hf⟩ := lt_ex hf
    try dsimp only at hf
    have hP : va_P (dC, dI) vwCl (wSd cI cZ cJ sd_a lk_w lk_v lk_wr lk_rd (cu_a 0) lk_sp sd ++ wSy cI cZ cJ cu_a cu ++ wOu cI cZ cJ ou_a ou_4) H := by rw [eou_4]; exact hP
    have hD : va_D A (wSd cI cZ cJ sd_a lk_w lk_v lk_wr lk_rd (cu_a 0) lk_sp sd ++ wSy cI cZ cJ cu_a cu ++ wOu cI cZ cJ ou_a ou_4) := by rw [eou_4]; exact hD
    refine lv_goto (tgt := 26) hx hb d_Law_at_19 (by decide) ?_
    refine lv_iconst (v := 0) hx hb d_Law_at_26 (by decide) ?_
    exact hr27 _ _ _ 0 ou_4 hP hD hS hf
  · rw [if_neg c_2] at hf
    refine lv_lconst (v := 1) hx hb d_Law_at_13 (by decide) ?_
    refine lv_goto (tgt := 18) hx hb d_Law_at_14 (by decide) ?_
    obtain ⟨h_6, hf⟩ := gd_ex hf
    refine va_last (f := Ou_f ou) hx hb hK hP hD hS 11 2 rfl rfl (inb_in h_6) d_Law_at_18 (fun H locs hP hD hS => ?_)
    obtain ⟨ou_7, eou_7, hf⟩ := lt_ex hf
    try dsimp only at hf
    have hP : va_P (dC, dI) vwCl (wSd cI cZ cJ sd_a lk_w lk_v lk_wr lk_rd (cu_a 0) lk_sp sd ++ wSy cI cZ cJ cu_a cu ++ wOu cI cZ cJ ou_a ou_7) H := by rw [eou_7]; exact hP
    have hD : va_D A (wSd cI cZ cJ sd_a lk_w lk_v lk_wr lk_rd (cu_a 0) lk_sp sd ++ wSy cI cZ cJ cu_a cu ++ wOu cI cZ cJ ou_a ou_7) := by rw [eou_7]; exact hD
    refine lv_goto (tgt := 26) hx hb d_Law_at_19 (by decide) ?_
    refine lv_iconst (v := 0) hx hb d_Law_at_26 (by decide) ?_
    exact hr27 _ _ _ 0 ou_7 hP hD hS hf
end
set_option maxHeartbeats 4000000 in
set_option maxRecDepth 100000 in
theorem k_Law_at (l : Launch) (dC : Nat → ClassId) (dI : Nat → Nat → Nat) (cI cZ cJ : ClassId) (sd_a : Nat → Nat) (cu_a : Nat → Nat) (ou_a : Nat → Nat) (lk_w : Nat) (lk_v : Nat) (lk_wr : Nat) (lk_rd : Nat) (lk_sp : Nat) (sz : Nat) {sd : Sd} {cu : Sy} {ou : Ou} {x1 : Int32} {x2 : Int32} {x3 : Int32} {r : Int32} {ou' : Ou} (hf : f_Law_at sd cu ou x1 x2 x3 = some (r, ou')) :
    Met l y_Law_at ws_Law_at ({ frames := 3, cells := 0, slots := 0, locals := 68 }) (va_Pc [.ref (sd_a 0), .int x1, .int x2, .int x3, .ref (ou_a 0)] (kP (dC, dI) vwCl (TYS cI cZ cJ) (wSd cI cZ cJ sd_a lk_w lk_v lk_wr lk_rd (cu_a 0) lk_sp sd ++ wSy cI cZ cJ cu_a cu ++ wOu cI cZ cJ ou_a ou) sz)) (va_Qi (fun (q : Int32) (_ : Unit) => q = r) (fun _ t => kQ (dC, dI) vwCl (TYS cI cZ cJ) (wSd cI cZ cJ sd_a lk_w lk_v lk_wr lk_rd (cu_a 0) lk_sp sd ++ wSy cI cZ cJ cu_a cu ++ wOu cI cZ cJ ou_a ou) sz (wSd cI cZ cJ sd_a lk_w lk_v lk_wr lk_rd (cu_a 0) lk_sp sd ++ wSy cI cZ cJ cu_a cu ++ wOu cI cZ cJ ou_a ou') t) (va_A (wSd cI cZ cJ sd_a lk_w lk_v lk_wr lk_rd (cu_a 0) lk_sp sd ++ wSy cI cZ cJ cu_a cu ++ wOu cI cZ cJ ou_a ou) sz)) 0 0 (va_A (wSd cI cZ cJ sd_a lk_w lk_v lk_wr lk_rd (cu_a 0) lk_sp sd ++ wSy cI cZ cJ cu_a cu ++ wOu cI cZ cJ ou_a ou) sz) := by
  refine va_MetW (hh := [((0), (19), (22), (21))]) (cc := c_Law_at) (maxL := 6) (ret := (some .int)) (by decide) rfl ?_
  intro p e s m args below meth c s₁ B hml hv
  obtain ⟨rfl, hsz, hP, hK, hD0, hN⟩ := hv
  have hr := B.returns
  have hlocks := B.notSynchronized
  subst hsz
  have hD := hD0.self (sz := s.heap.size)
  have hl := lv_entry ([.ref (sd_a 0), .int x1, .int x2, .int x3, .ref (ou_a 0)]) (n := 6) (Nat.le_of_ble_eq_true rfl)
  rw [lg_entry_eq]
  generalize (lg_sl ([.ref (sd_a 0), .int x1, .int x2, .int x3, .ref (ou_a 0)]) ++ List.replicate (6 - (lg_sl ([.ref (sd_a 0), .int x1, .int x2, .int x3, .ref (ou_a 0)])).length) Slot.unset).toArray = ls at hl ⊢
  refine B_Law_at (A := va_A (wSd cI cZ cJ sd_a lk_w lk_v lk_wr lk_rd (cu_a 0) lk_sp sd ++ wSy cI cZ cJ cu_a cu ++ wOu cI cZ cJ ou_a ou) s.heap.size) ⟨B.exec, B.bytes, hml, findClass_of_methodNamed B.named, fun w h => atoms_spec (ws := ws_Law_at) B.pre w (List.mem_cons_of_mem _ h), hK, fun q h => Or.inr h, Nat.le_of_ble_eq_true rfl, Nat.le_of_ble_eq_true rfl, hN, Nat.le_of_ble_eq_true rfl, Nat.le_of_ble_eq_true rfl⟩ (fun H locs ls v ou'1 hP hD hS hf => ?_) hP hD va_S.rf hl hf
  · cases hf
    exact W.iret B.exec B.bytes hr (fun t ht hW => ⟨⟨_, (), rfl, rfl, ⟨by rw [ht]; exact hP, va_K.moved hW.alike hK, hD⟩⟩, hS.F ht⟩) hS.2.2 d_Law_at_27

/-! Law_refined -/
def f_Law_refined (sd : Sd) (cu : Sy) (ou : Ou) (x1 : Int32) (x2 : Int32) (x3 : Int32) (x4 : Int32) : Option (Int32 × Sy × Ou) := bd (f_SD_refined sd cu x1 x2 x3 x4) <| fun (r_1, cu_2) => gd (inb 0 1) <| lt' (Ou_s_f ou (vp_updL (Ou_f ou) (0 : Int32).toNatClampNeg r_1.toInt64)) <| fun ou_4 => some (0, cu_2, ou_4)
section
variable {p : Program} {l : Launch} {e : Env} {R : Room} {s : State} {m : MethodId} {args : Array Value} {below : List Frame} {meth : Method} {c : Code} {Q : State → Prop} {A : Nat → Prop}
set_option maxHeartbeats 4000000 in
set_option maxRecDepth 100000 in
theorem B_Law_refined {cells slots : Nat} {dC : Nat → ClassId} {dI : Nat → Nat → Nat} {cI cZ cJ : ClassId} {sd_a : Nat → Nat} {cu_a : Nat → Nat} {ou_a : Nat → Nat} {lk_w : Nat} {lk_v : Nat} {lk_wr : Nat} {lk_rd : Nat} {lk_sp : Nat} {sd : Sd} {cu : Sy} {ou : Ou} {x1 : Int32} {x2 : Int32} {x3 : Int32} {x4 : Int32} {res : Int32 × Sy × Ou} (C0 : cxt p c m s args R cells slots R_Law c_Law_refined tb 7 (dC, dI) vwCl (TYS cI cZ cJ) A 2 49)
    (hr30 : ∀ (H : Heap) (locs : List Loc) (ls : Array Slot) (v : Int32) (cu' : Sy) (ou' : Ou), va_P (dC, dI) vwCl (wSd cI cZ cJ sd_a lk_w lk_v lk_wr lk_rd (cu_a 0) lk_sp sd ++ wSy cI cZ cJ cu_a cu' ++ wOu cI cZ cJ ou_a ou') H → va_D A (wSd cI cZ cJ sd_a lk_w lk_v lk_wr lk_rd (cu_a 0) lk_sp sd ++ wSy cI cZ cJ cu_a cu' ++ wOu cI cZ cJ ou_a ou') → va_S A s.heap H locs → some (v, cu', ou') = some res → W p l e R s m args below meth c H locs cells slots Q (F0 m 30 ls [.int v]))
    {H : Heap} {locs : List Loc} {ls : Array Slot} (hP : va_P (dC, dI) vwCl (wSd cI cZ cJ sd_a lk_w lk_v lk_wr lk_rd (cu_a 0) lk_sp sd ++ wSy cI cZ cJ cu_a cu ++ wOu cI cZ cJ ou_a ou) H) (hD : va_D A (wSd cI cZ cJ sd_a lk_w lk_v lk_wr lk_rd (cu_a 0) lk_sp sd ++ wSy cI cZ cJ cu_a cu ++ wOu cI cZ cJ ou_a ou)) (hS : va_S A s.heap H locs) (hl : lv_has ls 7 [(0, .ref (sd_a 0)), (1, .int x1), (2, .int x2), (3, .int x3), (4, .int x4), (5, .ref (ou_a 0))]) (hf : f_Law_refined sd cu ou x1 x2 x3 x4 = some res) : W p l e R s m args below meth c H locs cells slots Q (F0 m 0 ls []) := by
  obtain ⟨hx, hb, hml, hown, hts, hK, hA, hRf, hRl, hN, hRc⟩ := id C0
  rw [f_Law_refined] at hf
  refine lv_aload hx hb d_Law_refined_0 (lv_at hl 5 rfl) ?_
  refine lv_iconst (v := 0) hx hb d_Law_refined_2 (by decide) ?_
  refine lv_aload_n hx hb d_Law_refined_3 rfl (lv_at hl 0 rfl) ?_
  refine lv_iload_n hx hb d_Law_refined_4 rfl (lv_at hl 1 rfl) ?_
  refine lv_iload_n hx hb d_Law_refined_5 rfl (lv_at hl 2 rfl) ?_
  refine lv_iload_n hx hb d_Law_refined_6 rfl (lv_at hl 3 rfl) ?_
  refine lv_iload hx hb d_Law_refined_7 (lv_at hl 4 rfl) ?_
  obtain ⟨⟨r_1, cu_2⟩, hf1, hf⟩ := bd_ex hf
  try dsimp only at hf
  have hPc := hP.sub (ws' := (wSd cI cZ cJ sd_a lk_w lk_v lk_wr lk_rd (cu_a 0) lk_sp sd ++ wSy cI cZ cJ cu_a cu)) [0, 1, 2, 3, 4, 5, 6, 7, 8, 9, 10] rfl
  have hDc := hD.sub (ws' := (wSd cI cZ cJ sd_a lk_w lk_v lk_wr lk_rd (cu_a 0) lk_sp sd ++ wSy cI cZ cJ cu_a cu)) [0, 1, 2, 3, 4, 5, 6, 7, 8, 9, 10] (by decide) rfl
  have hFc := va_free (wc := (wSd cI cZ cJ sd_a lk_w lk_v lk_wr lk_rd (cu_a 0) lk_sp sd ++ wSy cI cZ cJ cu_a cu)) hD hS hA [0, 1, 2, 3, 4, 5, 6, 7, 8, 9, 10] rfl
  refine va_calli (va_runV (As := [.int x1, .int x2, .int x3, .int x4]) (rest := [.int 0, .ref (ou_a 0)]) ⟨hx, hb, hml, hown, hts⟩ (k_SD_refined l dC dI cI cZ cJ sd_a cu_a lk_w lk_v lk_wr lk_rd lk_sp H.size hf1) (cwV 4 hts (gV t_709 t_710 t_711 t_54 t_712) rfl rfl rfl hd_SD_refined ⟨Nat.le_trans (Nat.le_of_ble_eq_true rfl) hRf, Nat.le_trans (Nat.le_of_ble_eq_true rfl) hRl⟩) ⟨kP_blind, va_recv hK hP (ci := 6) (q0 := 0) rfl rfl, kP_at hPc hK hDc hN⟩ rfl rfl hl.1 rfl (lv_room (Nat.le_of_ble_eq_true rfl)) d_Law_refined_9 hRc) hS (fun q _ h => hFc q h) hFc (fun r9 u t H1 locs ht hvm hw hB hz1 hk1 hS => ?_)
  rw [hw]
  obtain ⟨hP, hD⟩ := kQ_join (wr := (wOu cI cZ cJ ou_a ou)) (w1 := (wSd cI cZ cJ sd_a lk_w lk_v lk_wr lk_rd (cu_a 0) lk_sp sd ++ wSy cI cZ cJ cu_a cu_2)) hP hD [0, 1, 2, 3, 4, 5, 6, 7, 8, 9, 10] [11] rfl rfl (by decide) (by decide) ht hk1 hFc hB
  generalize H1 = H at hP hS ⊢
  have hP : va_P (dC, dI) vwCl (wSd cI cZ cJ sd_a lk_w lk_v lk_wr lk_rd (cu_a 0) lk_sp sd ++ wSy cI cZ cJ cu_a cu_2 ++ wOu cI cZ cJ ou_a ou) H := hP.sub [1, 2, 3, 4, 5, 6, 7, 8, 9, 10, 11, 0] rfl
  have hD : va_D A (wSd cI cZ cJ sd_a lk_w lk_v lk_wr lk_rd (cu_a 0) lk_sp sd ++ wSy cI cZ cJ cu_a cu_2 ++ wOu cI cZ cJ ou_a ou) := hD.sub [1, 2, 3, 4, 5, 6, 7, 8, 9, 10, 11, 0] (by decide) rfl
  refine lv_i2l (v := r_1.toInt64) hx hb d_Law_refined_12 rfl ?_
  obtain ⟨h_3, hf⟩ := gd_ex hf
  refine va_last (f := Ou_f ou) hx hb hK hP hD hS 11 2 rfl rfl (inb_in h_3) d_Law_refined_13 (fun H locs hP hD hS => ?_)
  obtain ⟨ou_4, eou_4, hf⟩ := lt_ex hf
  try dsimp only at hf
  have hP : va_P (dC, dI) vwCl (wSd cI cZ cJ sd_a lk_w lk_v lk_wr lk_rd (cu_a 0) lk_sp sd ++ wSy cI cZ cJ cu_a cu_2 ++ wOu cI cZ cJ ou_a ou_4) H := by rw [eou_4]; exact hP
  have hD : va_D A (wSd cI cZ cJ sd_a lk_w lk_v lk_wr lk_rd (cu_a 0) lk_sp sd ++ wSy cI cZ cJ cu_a cu_2 ++ wOu cI cZ cJ ou_a ou_4) := by rw [eou_4]; exact hD
  refine lv_goto (tgt := 29) hx hb d_Law_refined_14 (by decide) ?_
  refine lv_iconst (v := 0) hx hb d_Law_refined_29 (by decide) ?_
  exact hr30 _ _ _ 0 cu_2 ou_4 hP hD hS hf
end
set_option maxHeartbeats 4000000 in
set_option maxRecDepth 100000 in
theorem k_Law_refined (l : Launch) (dC : Nat → ClassId) (dI : Nat → Nat → Nat) (cI cZ cJ : ClassId) (sd_a : Nat → Nat) (cu_a : Nat → Nat) (ou_a : Nat → Nat) (lk_w : Nat) (lk_v : Nat) (lk_wr : Nat) (lk_rd : Nat) (lk_sp : Nat) (sz : Nat) {sd : Sd} {cu : Sy} {ou : Ou} {x1 : Int32} {x2 : Int32} {x3 : Int32} {x4 : Int32} {r : Int32} {cu' : Sy} {ou' : Ou} (hf : f_Law_refined sd cu ou x1 x2 x3 x4 = some (r, cu', ou')) :
    Met l y_Law_refined ws_Law_refined ({ frames := 2, cells := 0, slots := 0, locals := 49 }) (va_Pc [.ref (sd_a 0), .int x1, .int x2, .int x3, .int x4, .ref (ou_a 0)] (kP (dC, dI) vwCl (TYS cI cZ cJ) (wSd cI cZ cJ sd_a lk_w lk_v lk_wr lk_rd (cu_a 0) lk_sp sd ++ wSy cI cZ cJ cu_a cu ++ wOu cI cZ cJ ou_a ou) sz)) (va_Qi (fun (q : Int32) (_ : Unit) => q = r) (fun _ t => kQ (dC, dI) vwCl (TYS cI cZ cJ) (wSd cI cZ cJ sd_a lk_w lk_v lk_wr lk_rd (cu_a 0) lk_sp sd ++ wSy cI cZ cJ cu_a cu ++ wOu cI cZ cJ ou_a ou) sz (wSd cI cZ cJ sd_a lk_w lk_v lk_wr lk_rd (cu_a 0) lk_sp sd ++ wSy cI cZ cJ cu_a cu' ++ wOu cI cZ cJ ou_a ou') t) (va_A (wSd cI cZ cJ sd_a lk_w lk_v lk_wr lk_rd (cu_a 0) lk_sp sd ++ wSy cI cZ cJ cu_a cu ++ wOu cI cZ cJ ou_a ou) sz)) 0 0 (va_A (wSd cI cZ cJ sd_a lk_w lk_v lk_wr lk_rd (cu_a 0) lk_sp sd ++ wSy cI cZ cJ cu_a cu ++ wOu cI cZ cJ ou_a ou) sz) := by
  refine va_MetW (hh := [((0), (14), (17), (21)), ((0), (14), (21), (13)), ((0), (14), (25), (35))]) (cc := c_Law_refined) (maxL := 7) (ret := (some .int)) (by decide) rfl ?_
  intro p e s m args below meth c s₁ B hml hv
  obtain ⟨rfl, hsz, hP, hK, hD0, hN⟩ := hv
  have hr := B.returns
  have hlocks := B.notSynchronized
  subst hsz
  have hD := hD0.self (sz := s.heap.size)
  have hl := lv_entry ([.ref (sd_a 0), .int x1, .int x2, .int x3, .int x4, .ref (ou_a 0)]) (n := 7) (Nat.le_of_ble_eq_true rfl)
  rw [lg_entry_eq]
  generalize (lg_sl ([.ref (sd_a 0), .int x1, .int x2, .int x3, .int x4, .ref (ou_a 0)]) ++ List.replicate (7 - (lg_sl ([.ref (sd_a 0), .int x1, .int x2, .int x3, .int x4, .ref (ou_a 0)])).length) Slot.unset).toArray = ls at hl ⊢
  refine B_Law_refined (A := va_A (wSd cI cZ cJ sd_a lk_w lk_v lk_wr lk_rd (cu_a 0) lk_sp sd ++ wSy cI cZ cJ cu_a cu ++ wOu cI cZ cJ ou_a ou) s.heap.size) ⟨B.exec, B.bytes, hml, findClass_of_methodNamed B.named, fun w h => atoms_spec (ws := ws_Law_refined) B.pre w (List.mem_cons_of_mem _ h), hK, fun q h => Or.inr h, Nat.le_of_ble_eq_true rfl, Nat.le_of_ble_eq_true rfl, hN, Nat.le_of_ble_eq_true rfl, Nat.le_of_ble_eq_true rfl⟩ (fun H locs ls v cu'1 ou'1 hP hD hS hf => ?_) hP hD va_S.rf hl hf
  · cases hf
    exact W.iret B.exec B.bytes hr (fun t ht hW => ⟨⟨_, (), rfl, rfl, ⟨by rw [ht]; exact hP, va_K.moved hW.alike hK, hD⟩⟩, hS.F ht⟩) hS.2.2 d_Law_refined_30

/-! Law_export -/
def f_Law_export (sd : Sd) (cu : Sy) (ou : Ou) (x1 : Int32) (x2 : Int32) : Option (Int32 × Sy × Ou) := bd (f_SD_export sd cu x1 x2) <| fun (r_1, cu_2) => (if r_1 = 0 then gd (inb 0 1) <| lt' (Ou_s_f ou (vp_updL (Ou_f ou) (0 : Int32).toNatClampNeg 0)) <| fun ou_5 => some (0, cu_2, ou_5) else gd (inb 0 1) <| lt' (Ou_s_f ou (vp_updL (Ou_f ou) (0 : Int32).toNatClampNeg 1)) <| fun ou_8 => some (0, cu_2, ou_8))
section
variable {p : Program} {l : Launch} {e : Env} {R : Room} {s : State} {m : MethodId} {args : Array Value} {below : List Frame} {meth : Method} {c : Code} {Q : State → Prop} {A : Nat → Prop}
set_option maxHeartbeats 4000000 in
set_option maxRecDepth 100000 in
theorem B_Law_export {cells slots : Nat} {dC : Nat → ClassId} {dI : Nat → Nat → Nat} {cI cZ cJ : ClassId} {sd_a : Nat → Nat} {cu_a : Nat → Nat} {ou_a : Nat → Nat} {lk_w : Nat} {lk_v : Nat} {lk_wr : Nat} {lk_rd : Nat} {lk_sp : Nat} {sd : Sd} {cu : Sy} {ou : Ou} {x1 : Int32} {x2 : Int32} {res : Int32 × Sy × Ou} (C0 : cxt p c m s args R cells slots R_Law c_Law_export tb 5 (dC, dI) vwCl (TYS cI cZ cJ) A 2 44)
    (hr25 : ∀ (H : Heap) (locs : List Loc) (ls : Array Slot) (v : Int32) (cu' : Sy) (ou' : Ou), va_P (dC, dI) vwCl (wSd cI cZ cJ sd_a lk_w lk_v lk_wr lk_rd (cu_a 0) lk_sp sd ++ wSy cI cZ cJ cu_a cu' ++ wOu cI cZ cJ ou_a ou') H → va_D A (wSd cI cZ cJ sd_a lk_w lk_v lk_wr lk_rd (cu_a 0) lk_sp sd ++ wSy cI cZ cJ cu_a cu' ++ wOu cI cZ cJ ou_a ou') → va_S A s.heap H locs → some (v, cu', ou') = some res → W p l e R s m args below meth c H locs cells slots Q (F0 m 25 ls [.int v]))
    {H : Heap} {locs : List Loc} {ls : Array Slot} (hP : va_P (dC, dI) vwCl (wSd cI cZ cJ sd_a lk_w lk_v lk_wr lk_rd (cu_a 0) lk_sp sd ++ wSy cI cZ cJ cu_a cu ++ wOu cI cZ cJ ou_a ou) H) (hD : va_D A (wSd cI cZ cJ sd_a lk_w lk_v lk_wr lk_rd (cu_a 0) lk_sp sd ++ wSy cI cZ cJ cu_a cu ++ wOu cI cZ cJ ou_a ou)) (hS : va_S A s.heap H locs) (hl : lv_has ls 5 [(0, .ref (sd_a 0)), (1, .int x1), (2, .int x2), (3, .ref (ou_a 0))]) (hf : f_Law_export sd cu ou x1 x2 = some res) : W p l e R s m args below meth c H locs cells slots Q (F0 m 0 ls []) := by
  obtain ⟨hx, hb, hml, hown, hts, hK, hA, hRf, hRl, hN, hRc⟩ := id C0
  rw [f_Law_export] at hf
  refine lv_aload_n hx hb d_Law_export_0 rfl (lv_at hl 3 rfl) ?_
  refine lv_iconst (v := 0) hx hb d_Law_export_1 (by decide) ?_
  refine lv_aload_n hx hb d_Law_export_2 rfl (lv_at hl 0 rfl) ?_
  refine lv_iload_n hx hb d_Law_export_3 rfl (lv_at hl 1 rfl) ?_
  refine lv_iload_n hx hb d_Law_export_4 rfl (lv_at hl 2 rfl) ?_
  obtain ⟨⟨r_1, cu_2⟩, hf1, hf⟩ := bd_ex hf
  try dsimp only at hf
  have hPc := hP.sub (ws' := (wSd cI cZ cJ sd_a lk_w lk_v lk_wr lk_rd (cu_a 0) lk_sp sd ++ wSy cI cZ cJ cu_a cu)) [0, 1, 2, 3, 4, 5, 6, 7, 8, 9, 10] rfl
  have hDc := hD.sub (ws' := (wSd cI cZ cJ sd_a lk_w lk_v lk_wr lk_rd (cu_a 0) lk_sp sd ++ wSy cI cZ cJ cu_a cu)) [0, 1, 2, 3, 4, 5, 6, 7, 8, 9, 10] (by decide) rfl
  have hFc := va_free (wc := (wSd cI cZ cJ sd_a lk_w lk_v lk_wr lk_rd (cu_a 0) lk_sp sd ++ wSy cI cZ cJ cu_a cu)) hD hS hA [0, 1, 2, 3, 4, 5, 6, 7, 8, 9, 10] rfl
  refine va_calli (va_runV (As := [.int x1, .int x2]) (rest := [.int 0, .ref (ou_a 0)]) ⟨hx, hb, hml, hown, hts⟩ (k_SD_export l dC dI cI cZ cJ sd_a cu_a lk_w lk_v lk_wr lk_rd lk_sp H.size hf1) (cwV 2 hts (gV t_735 t_736 t_737 t_54 t_738) rfl rfl rfl hd_SD_export ⟨Nat.le_trans (Nat.le_of_ble_eq_true rfl) hRf, Nat.le_trans (Nat.le_of_ble_eq_true rfl) hRl⟩) ⟨kP_blind, va_recv hK hP (ci := 6) (q0 := 0) rfl rfl, kP_at hPc hK hDc hN⟩ rfl rfl hl.1 rfl (lv_room (Nat.le_of_ble_eq_true rfl)) d_Law_export_5 hRc) hS (fun q _ h => hFc q h) hFc (fun r9 u t H1 locs ht hvm hw hB hz1 hk1 hS => ?_)
  rw [hw.1]
  obtain ⟨hP, hD⟩ := kQ_join (wr := (wOu cI cZ cJ ou_a ou)) (w1 := (wSd cI cZ cJ sd_a lk_w lk_v lk_wr lk_rd (cu_a 0) lk_sp sd ++ wSy cI cZ cJ cu_a cu_2)) hP hD [0, 1, 2, 3, 4, 5, 6, 7, 8, 9, 10] [11] rfl rfl (by decide) (by decide) ht hk1 hFc hB
  generalize H1 = H at hP hS ⊢
  have hP : va_P (dC, dI) vwCl (wSd cI cZ cJ sd_a lk_w lk_v lk_wr lk_rd (cu_a 0) lk_sp sd ++ wSy cI cZ cJ cu_a cu_2 ++ wOu cI cZ cJ ou_a ou) H := hP.sub [1, 2, 3, 4, 5, 6, 7, 8, 9, 10, 11, 0] rfl
  have hD : va_D A (wSd cI cZ cJ sd_a lk_w lk_v lk_wr lk_rd (cu_a 0) lk_sp sd ++ wSy cI cZ cJ cu_a cu_2 ++ wOu cI cZ cJ ou_a ou) := hD.sub [1, 2, 3, 4, 5, 6, 7, 8, 9, 10, 11, 0] (by decide) rfl
  refine lv_if_eq (tgt := 15) hx hb d_Law_export_8 (by decide) (fun c_3 => ?_) (fun c_3 => ?_)
  · rw [if_pos c_3] at hf
    refine lv_lconst (v := 0) hx hb d_Law_export_15 (by decide) ?_
    obtain ⟨h_4, hf⟩ := gd_ex hf
    refine va_last (f := Ou_f ou) hx hb hK hP hD hS 11 2 rfl rfl (inb_in h_4) d_Law_export_16 (fun H locs hP hD hS => ?_)
    obtain ⟨ou_5, eou_5, hf⟩ := lt_ex hf
    try dsimp only at hf
    have hP : va_P (dC, dI) vwCl (wSd cI cZ cJ sd_a lk_w lk_v lk_wr lk_rd (cu_a 0) lk_sp sd ++ wSy cI cZ cJ cu_a cu_2 ++ wOu cI cZ cJ ou_a ou_5) H := by rw [eou_5]; exact hP
    have hD : va_D A (wSd cI cZ cJ sd_a lk_w lk_v lk_wr lk_rd (cu_a 0) lk_sp sd ++ wSy cI cZ cJ cu_a cu_2 ++ wOu cI cZ cJ ou_a ou_5) := by rw [eou_5]; exact hD
    refine lv_goto (tgt := 24) hx hb d_Law_export_17 (by decide) ?_
    refine lv_iconst (v := 0) hx hb d_Law_export_24 (by decide) ?_
    exact hr25 _ _ _ 0 cu_2 ou_5 hP hD hS hf
  · rw [if_neg c_3] at hf
    refine lv_lconst (v := 1) hx hb d_Law_export_11 (by decide) ?_
    refine lv_goto (tgt := 16) hx hb d_Law_export_12 (by decide) ?_
    obtain ⟨h_7, hf⟩ := gd_ex hf
    refine va_last (f := Ou_f ou) hx hb hK hP hD hS 11 2 rfl rfl (inb_in h_7) d_Law_export_16 (fun H locs hP hD hS => ?_)
    obtain ⟨ou_8, eou_8, hf⟩ := lt_ex hf
    try dsimp only at hf
    have hP : va_P (dC, dI) vwCl (wSd cI cZ cJ sd_a lk_w lk_v lk_wr lk_rd (cu_a 0) lk_sp sd ++ wSy cI cZ cJ cu_a cu_2 ++ wOu cI cZ cJ ou_a ou_8) H := by rw [eou_8]; exact hP
    have hD : va_D A (wSd cI cZ cJ sd_a lk_w lk_v lk_wr lk_rd (cu_a 0) lk_sp sd ++ wSy cI cZ cJ cu_a cu_2 ++ wOu cI cZ cJ ou_a ou_8) := by rw [eou_8]; exact hD
    refine lv_goto (tgt := 24) hx hb d_Law_export_17 (by decide) ?_
    refine lv_iconst (v := 0) hx hb d_Law_export_24 (by decide) ?_
    exact hr25 _ _ _ 0 cu_2 ou_8 hP hD hS hf
end
set_option maxHeartbeats 4000000 in
set_option maxRecDepth 100000 in
theorem k_Law_export (l : Launch) (dC : Nat → ClassId) (dI : Nat → Nat → Nat) (cI cZ cJ : ClassId) (sd_a : Nat → Nat) (cu_a : Nat → Nat) (ou_a : Nat → Nat) (lk_w : Nat) (lk_v : Nat) (lk_wr : Nat) (lk_rd : Nat) (lk_sp : Nat) (sz : Nat) {sd : Sd} {cu : Sy} {ou : Ou} {x1 : Int32} {x2 : Int32} {r : Int32} {cu' : Sy} {ou' : Ou} (hf : f_Law_export sd cu ou x1 x2 = some (r, cu', ou')) :
    Met l y_Law_export ws_Law_export ({ frames := 2, cells := 0, slots := 0, locals := 44 }) (va_Pc [.ref (sd_a 0), .int x1, .int x2, .ref (ou_a 0)] (kP (dC, dI) vwCl (TYS cI cZ cJ) (wSd cI cZ cJ sd_a lk_w lk_v lk_wr lk_rd (cu_a 0) lk_sp sd ++ wSy cI cZ cJ cu_a cu ++ wOu cI cZ cJ ou_a ou) sz)) (va_Qi (fun (q : Int32) (_ : Unit) => q = r) (fun _ t => kQ (dC, dI) vwCl (TYS cI cZ cJ) (wSd cI cZ cJ sd_a lk_w lk_v lk_wr lk_rd (cu_a 0) lk_sp sd ++ wSy cI cZ cJ cu_a cu ++ wOu cI cZ cJ ou_a ou) sz (wSd cI cZ cJ sd_a lk_w lk_v lk_wr lk_rd (cu_a 0) lk_sp sd ++ wSy cI cZ cJ cu_a cu' ++ wOu cI cZ cJ ou_a ou') t) (va_A (wSd cI cZ cJ sd_a lk_w lk_v lk_wr lk_rd (cu_a 0) lk_sp sd ++ wSy cI cZ cJ cu_a cu ++ wOu cI cZ cJ ou_a ou) sz)) 0 0 (va_A (wSd cI cZ cJ sd_a lk_w lk_v lk_wr lk_rd (cu_a 0) lk_sp sd ++ wSy cI cZ cJ cu_a cu ++ wOu cI cZ cJ ou_a ou) sz) := by
  refine va_MetW (hh := [((0), (17), (20), (21))]) (cc := c_Law_export) (maxL := 5) (ret := (some .int)) (by decide) rfl ?_
  intro p e s m args below meth c s₁ B hml hv
  obtain ⟨rfl, hsz, hP, hK, hD0, hN⟩ := hv
  have hr := B.returns
  have hlocks := B.notSynchronized
  subst hsz
  have hD := hD0.self (sz := s.heap.size)
  have hl := lv_entry ([.ref (sd_a 0), .int x1, .int x2, .ref (ou_a 0)]) (n := 5) (Nat.le_of_ble_eq_true rfl)
  rw [lg_entry_eq]
  generalize (lg_sl ([.ref (sd_a 0), .int x1, .int x2, .ref (ou_a 0)]) ++ List.replicate (5 - (lg_sl ([.ref (sd_a 0), .int x1, .int x2, .ref (ou_a 0)])).length) Slot.unset).toArray = ls at hl ⊢
  refine B_Law_export (A := va_A (wSd cI cZ cJ sd_a lk_w lk_v lk_wr lk_rd (cu_a 0) lk_sp sd ++ wSy cI cZ cJ cu_a cu ++ wOu cI cZ cJ ou_a ou) s.heap.size) ⟨B.exec, B.bytes, hml, findClass_of_methodNamed B.named, fun w h => atoms_spec (ws := ws_Law_export) B.pre w (List.mem_cons_of_mem _ h), hK, fun q h => Or.inr h, Nat.le_of_ble_eq_true rfl, Nat.le_of_ble_eq_true rfl, hN, Nat.le_of_ble_eq_true rfl, Nat.le_of_ble_eq_true rfl⟩ (fun H locs ls v cu'1 ou'1 hP hD hS hf => ?_) hP hD va_S.rf hl hf
  · cases hf
    exact W.iret B.exec B.bytes hr (fun t ht hW => ⟨⟨_, (), rfl, rfl, ⟨by rw [ht]; exact hP, va_K.moved hW.alike hK, hD⟩⟩, hS.F ht⟩) hS.2.2 d_Law_export_25

/-! Law_byteAt -/
def f_Law_byteAt (sd : Sd) (w : Br) (ou : Ou) (x1 : Int32) : Option (Int32 × Ou) := bd (f_SD_byteAt sd w x1) <| fun r_1 => gd (inb 0 1) <| lt' (Ou_s_f ou (vp_updL (Ou_f ou) (0 : Int32).toNatClampNeg r_1.toInt64)) <| fun ou_3 => some (0, ou_3)
section
variable {p : Program} {l : Launch} {e : Env} {R : Room} {s : State} {m : MethodId} {args : Array Value} {below : List Frame} {meth : Method} {c : Code} {Q : State → Prop} {A : Nat → Prop}
set_option maxHeartbeats 4000000 in
set_option maxRecDepth 100000 in
theorem B_Law_byteAt {cells slots : Nat} {dC : Nat → ClassId} {dI : Nat → Nat → Nat} {cI cZ cJ : ClassId} {sd_a : Nat → Nat} {w_a w_b : Nat} {ou_a : Nat → Nat} {lk_v : Nat} {lk_wr : Nat} {lk_rd : Nat} {lk_cu : Nat} {lk_sp : Nat} {sd : Sd} {w : Br} {ou : Ou} {x1 : Int32} {res : Int32 × Ou} (C0 : cxt p c m s args R cells slots R_Law c_Law_byteAt tb 4 (dC, dI) vwCl (TYS cI cZ cJ) A 1 21)
    (hr16 : ∀ (H : Heap) (locs : List Loc) (ls : Array Slot) (v : Int32) (ou' : Ou), va_P (dC, dI) vwCl (wSd cI cZ cJ sd_a w_a lk_v lk_wr lk_rd lk_cu lk_sp sd ++ wBr cI cZ cJ w_a w_b w ++ wOu cI cZ cJ ou_a ou') H → va_D A (wSd cI cZ cJ sd_a w_a lk_v lk_wr lk_rd lk_cu lk_sp sd ++ wBr cI cZ cJ w_a w_b w ++ wOu cI cZ cJ ou_a ou') → va_S A s.heap H locs → some (v, ou') = some res → W p l e R s m args below meth c H locs cells slots Q (F0 m 16 ls [.int v]))
    {H : Heap} {locs : List Loc} {ls : Array Slot} (hP : va_P (dC, dI) vwCl (wSd cI cZ cJ sd_a w_a lk_v lk_wr lk_rd lk_cu lk_sp sd ++ wBr cI cZ cJ w_a w_b w ++ wOu cI cZ cJ ou_a ou) H) (hD : va_D A (wSd cI cZ cJ sd_a w_a lk_v lk_wr lk_rd lk_cu lk_sp sd ++ wBr cI cZ cJ w_a w_b w ++ wOu cI cZ cJ ou_a ou)) (hS : va_S A s.heap H locs) (hl : lv_has ls 4 [(0, .ref (sd_a 0)), (1, .int x1), (2, .ref (ou_a 0))]) (hf : f_Law_byteAt sd w ou x1 = some res) : W p l e R s m args below meth c H locs cells slots Q (F0 m 0 ls []) := by
  obtain ⟨hx, hb, hml, hown, hts, hK, hA, hRf, hRl, hN, hRc⟩ := id C0
  rw [f_Law_byteAt] at hf
  refine lv_aload_n hx hb d_Law_byteAt_0 rfl (lv_at hl 2 rfl) ?_
  refine lv_iconst (v := 0) hx hb d_Law_byteAt_1 (by decide) ?_
  refine lv_aload_n hx hb d_Law_byteAt_2 rfl (lv_at hl 0 rfl) ?_
  refine lv_iload_n hx hb d_Law_byteAt_3 rfl (lv_at hl 1 rfl) ?_
  obtain ⟨r_1, hf1, hf⟩ := bd_ex hf
  try dsimp only at hf
  have hPc := hP.sub (ws' := (wSd cI cZ cJ sd_a w_a lk_v lk_wr lk_rd lk_cu lk_sp sd ++ wBr cI cZ cJ w_a w_b w)) [0, 1, 2] rfl
  have hDc := hD.sub (ws' := (wSd cI cZ cJ sd_a w_a lk_v lk_wr lk_rd lk_cu lk_sp sd ++ wBr cI cZ cJ w_a w_b w)) [0, 1, 2] (by decide) rfl
  have hFc := va_free (wc := (wSd cI cZ cJ sd_a w_a lk_v lk_wr lk_rd lk_cu lk_sp sd ++ wBr cI cZ cJ w_a w_b w)) hD hS hA [0, 1, 2] rfl
  refine va_calli (va_runV (As := [.int x1]) (rest := [.int 0, .ref (ou_a 0)]) ⟨hx, hb, hml, hown, hts⟩ (k_SD_byteAt l dC dI cI cZ cJ sd_a w_a w_b lk_v lk_wr lk_rd lk_cu lk_sp H.size hf1) (cwV 1 hts (gV t_742 t_743 t_744 t_54 t_745) rfl rfl rfl hd_SD_byteAt ⟨Nat.le_trans (Nat.le_of_ble_eq_true rfl) hRf, Nat.le_trans (Nat.le_of_ble_eq_true rfl) hRl⟩) ⟨kP_blind, va_recv hK hP (ci := 6) (q0 := 0) rfl rfl, kP_at hPc hK hDc hN⟩ rfl rfl hl.1 rfl (lv_room (Nat.le_of_ble_eq_true rfl)) d_Law_byteAt_4 hRc) hS (fun q _ h => hFc q h) hFc (fun r9 u t H1 locs ht hvm hw hB hz1 hk1 hS => ?_)
  rw [hw]
  obtain ⟨hP, hD⟩ := kQ_join (wr := (wOu cI cZ cJ ou_a ou)) (w1 := (wSd cI cZ cJ sd_a w_a lk_v lk_wr lk_rd lk_cu lk_sp sd ++ wBr cI cZ cJ w_a w_b w)) hP hD [0, 1, 2] [3] rfl rfl (by decide) (by decide) ht hk1 hFc hB
  generalize H1 = H at hP hS ⊢
  have hP : va_P (dC, dI) vwCl (wSd cI cZ cJ sd_a w_a lk_v lk_wr lk_rd lk_cu lk_sp sd ++ wBr cI cZ cJ w_a w_b w ++ wOu cI cZ cJ ou_a ou) H := hP.sub [1, 2, 3, 0] rfl
  have hD : va_D A (wSd cI cZ cJ sd_a w_a lk_v lk_wr lk_rd lk_cu lk_sp sd ++ wBr cI cZ cJ w_a w_b w ++ wOu cI cZ cJ ou_a ou) := hD.sub [1, 2, 3, 0] (by decide) rfl
  refine lv_i2l (v := r_1.toInt64) hx hb d_Law_byteAt_7 rfl ?_
  obtain ⟨h_2, hf⟩ := gd_ex hf
  refine va_last (f := Ou_f ou) hx hb hK hP hD hS 3 2 rfl rfl (inb_in h_2) d_Law_byteAt_8 (fun H locs hP hD hS => ?_)
  obtain ⟨ou_3, eou_3, hf⟩ := lt_ex hf
  try dsimp only at hf
  have hP : va_P (dC, dI) vwCl (wSd cI cZ cJ sd_a w_a lk_v lk_wr lk_rd lk_cu lk_sp sd ++ wBr cI cZ cJ w_a w_b w ++ wOu cI cZ cJ ou_a ou_3) H := by rw [eou_3]; exact hP
  have hD : va_D A (wSd cI cZ cJ sd_a w_a lk_v lk_wr lk_rd lk_cu lk_sp sd ++ wBr cI cZ cJ w_a w_b w ++ wOu cI cZ cJ ou_a ou_3) := by rw [eou_3]; exact hD
  refine lv_goto (tgt := 15) hx hb d_Law_byteAt_9 (by decide) ?_
  refine lv_iconst (v := 0) hx hb d_Law_byteAt_15 (by decide) ?_
  exact hr16 _ _ _ 0 ou_3 hP hD hS hf
end
set_option maxHeartbeats 4000000 in
set_option maxRecDepth 100000 in
theorem k_Law_byteAt (l : Launch) (dC : Nat → ClassId) (dI : Nat → Nat → Nat) (cI cZ cJ : ClassId) (sd_a : Nat → Nat) (w_a w_b : Nat) (ou_a : Nat → Nat) (lk_v : Nat) (lk_wr : Nat) (lk_rd : Nat) (lk_cu : Nat) (lk_sp : Nat) (sz : Nat) {sd : Sd} {w : Br} {ou : Ou} {x1 : Int32} {r : Int32} {ou' : Ou} (hf : f_Law_byteAt sd w ou x1 = some (r, ou')) :
    Met l y_Law_byteAt ws_Law_byteAt ({ frames := 1, cells := 0, slots := 0, locals := 21 }) (va_Pc [.ref (sd_a 0), .int x1, .ref (ou_a 0)] (kP (dC, dI) vwCl (TYS cI cZ cJ) (wSd cI cZ cJ sd_a w_a lk_v lk_wr lk_rd lk_cu lk_sp sd ++ wBr cI cZ cJ w_a w_b w ++ wOu cI cZ cJ ou_a ou) sz)) (va_Qi (fun (q : Int32) (_ : Unit) => q = r) (fun _ t => kQ (dC, dI) vwCl (TYS cI cZ cJ) (wSd cI cZ cJ sd_a w_a lk_v lk_wr lk_rd lk_cu lk_sp sd ++ wBr cI cZ cJ w_a w_b w ++ wOu cI cZ cJ ou_a ou) sz (wSd cI cZ cJ sd_a w_a lk_v lk_wr lk_rd lk_cu lk_sp sd ++ wBr cI cZ cJ w_a w_b w ++ wOu cI cZ cJ ou_a ou') t) (va_A (wSd cI cZ cJ sd_a w_a lk_v lk_wr lk_rd lk_cu lk_sp sd ++ wBr cI cZ cJ w_a w_b w ++ wOu cI cZ cJ ou_a ou) sz)) 0 0 (va_A (wSd cI cZ cJ sd_a w_a lk_v lk_wr lk_rd lk_cu lk_sp sd ++ wBr cI cZ cJ w_a w_b w ++ wOu cI cZ cJ ou_a ou) sz) := by
  refine va_MetW (hh := [((0), (9), (12), (21))]) (cc := c_Law_byteAt) (maxL := 4) (ret := (some .int)) (by decide) rfl ?_
  intro p e s m args below meth c s₁ B hml hv
  obtain ⟨rfl, hsz, hP, hK, hD0, hN⟩ := hv
  have hr := B.returns
  have hlocks := B.notSynchronized
  subst hsz
  have hD := hD0.self (sz := s.heap.size)
  have hl := lv_entry ([.ref (sd_a 0), .int x1, .ref (ou_a 0)]) (n := 4) (Nat.le_of_ble_eq_true rfl)
  rw [lg_entry_eq]
  generalize (lg_sl ([.ref (sd_a 0), .int x1, .ref (ou_a 0)]) ++ List.replicate (4 - (lg_sl ([.ref (sd_a 0), .int x1, .ref (ou_a 0)])).length) Slot.unset).toArray = ls at hl ⊢
  refine B_Law_byteAt (A := va_A (wSd cI cZ cJ sd_a w_a lk_v lk_wr lk_rd lk_cu lk_sp sd ++ wBr cI cZ cJ w_a w_b w ++ wOu cI cZ cJ ou_a ou) s.heap.size) ⟨B.exec, B.bytes, hml, findClass_of_methodNamed B.named, fun w h => atoms_spec (ws := ws_Law_byteAt) B.pre w (List.mem_cons_of_mem _ h), hK, fun q h => Or.inr h, Nat.le_of_ble_eq_true rfl, Nat.le_of_ble_eq_true rfl, hN, Nat.le_of_ble_eq_true rfl, Nat.le_of_ble_eq_true rfl⟩ (fun H locs ls v ou'1 hP hD hS hf => ?_) hP hD va_S.rf hl hf
  · cases hf
    exact W.iret B.exec B.bytes hr (fun t ht hW => ⟨⟨_, (), rfl, rfl, ⟨by rw [ht]; exact hP, va_K.moved hW.alike hK, hD⟩⟩, hS.F ht⟩) hS.2.2 d_Law_byteAt_16

/-! Law_feed -/
def f_Law_feed (sd : Sd) (v : Br) (ou : Ou) (x1 : Int32) : Option (Int32 × Br × Ou) := bd (f_SD_feed sd v x1) <| fun (r_1, v_2) => gd (inb 0 1) <| lt' (Ou_s_f ou (vp_updL (Ou_f ou) (0 : Int32).toNatClampNeg r_1.toInt64)) <| fun ou_5 => some (0, v_2, ou_5)
theorem mo_Law_feed {sd : Sd} {v : Br} {ou : Ou} {x1 : Int32} : mle (f_Law_feed sd v ou x1) (Br_byL v) (fun r : Int32 × Br × Ou => Br_byL r.2.1) := by
  rw [f_Law_feed]
  refine mle_bd (fun y9 hy9 => ?_)
  obtain ⟨r_1, v_2⟩ := y9
  try dsimp only
  refine mle_le (mo_SD_feed _ hy9) ?_
  try dsimp only
  refine mle_gd ?_
  refine mle_lt (fun ou_5 eou_5 => ?_)
  exact mle_some (Nat.le_refl _)
section
variable {p : Program} {l : Launch} {e : Env} {R : Room} {s : State} {m : MethodId} {args : Array Value} {below : List Frame} {meth : Method} {c : Code} {Q : State → Prop} {A : Nat → Prop}
set_option maxHeartbeats 4000000 in
set_option maxRecDepth 100000 in
theorem B_Law_feed {cells slots : Nat} {l0 : Nat} {dC : Nat → ClassId} {dI : Nat → Nat → Nat} {cI cZ cJ : ClassId} {sd_a : Nat → Nat} {v_a : Nat} {ou_a : Nat → Nat} {lk_w : Nat} {lk_wr : Nat} {lk_rd : Nat} {lk_cu : Nat} {lk_sp : Nat} {v_b : Nat} {sd : Sd} {v : Br} {ou : Ou} {x1 : Int32} {res : Int32 × Br × Ou} (C0 : cxt p c m s args R 0 0 R_Law c_Law_feed tb 4 (dC, dI) vwCl (TYS cI cZ cJ) A 4 128) (hRc : gR l0 ((fun r : Int32 × Br × Ou => Br_byL r.2.1) res) R)
    (hr19 : ∀ (H : Heap) (locs : List Loc) (ls : Array Slot) (cells slots : Nat) (v_b : Nat) (v : Int32) (v' : Br) (ou' : Ou), gok R l0 (Br_byL v') cells slots → va_P (dC, dI) vwCl (wSd cI cZ cJ sd_a lk_w v_a lk_wr lk_rd lk_cu lk_sp sd ++ wBr cI cZ cJ v_a v_b v' ++ wOu cI cZ cJ ou_a ou') H → va_D A (wSd cI cZ cJ sd_a lk_w v_a lk_wr lk_rd lk_cu lk_sp sd ++ wBr cI cZ cJ v_a v_b v' ++ wOu cI cZ cJ ou_a ou') → va_S A s.heap H locs → some (v, v', ou') = some res → W p l e R s m args below meth c H locs cells slots Q (F0 m 19 ls [.int v]))
    {H : Heap} {locs : List Loc} {ls : Array Slot} (hg : gok R l0 (Br_byL v) cells slots) (hP : va_P (dC, dI) vwCl (wSd cI cZ cJ sd_a lk_w v_a lk_wr lk_rd lk_cu lk_sp sd ++ wBr cI cZ cJ v_a v_b v ++ wOu cI cZ cJ ou_a ou) H) (hD : va_D A (wSd cI cZ cJ sd_a lk_w v_a lk_wr lk_rd lk_cu lk_sp sd ++ wBr cI cZ cJ v_a v_b v ++ wOu cI cZ cJ ou_a ou)) (hS : va_S A s.heap H locs) (hl : lv_has ls 4 [(0, .ref (sd_a 0)), (1, .int x1), (2, .ref (ou_a 0))]) (hf : f_Law_feed sd v ou x1 = some res) : W p l e R s m args below meth c H locs cells slots Q (F0 m 0 ls []) := by
  obtain ⟨hx, hb, hml, hown, hts, hK, hA, hRf, hRl, hN, _⟩ := id C0
  rw [f_Law_feed] at hf
  refine lv_aload_n hx hb d_Law_feed_0 rfl (lv_at hl 2 rfl) ?_
  refine lv_iconst (v := 0) hx hb d_Law_feed_1 (by decide) ?_
  refine lv_aload_n hx hb d_Law_feed_2 rfl (lv_at hl 0 rfl) ?_
  refine lv_iload_n hx hb d_Law_feed_3 rfl (lv_at hl 1 rfl) ?_
  obtain ⟨⟨r_1, v_2⟩, hf1, hf⟩ := bd_ex hf
  try dsimp only at hf
  have hm0 := mo_SD_feed _ hf1
  try dsimp only at hm0
  have hm : Br_byL v_2 ≤ (fun r : Int32 × Br × Ou => Br_byL r.2.1) res := by
    refine mle_use (π := (fun r : Int32 × Br × Ou => Br_byL r.2.1)) hf ?_
    refine mle_gd ?_
    refine mle_lt (fun ou_5 eou_5 => ?_)
    exact mle_some (Nat.le_refl _)
  have hPc := hP.sub (ws' := (wSd cI cZ cJ sd_a lk_w v_a lk_wr lk_rd lk_cu lk_sp sd ++ wBr cI cZ cJ v_a v_b v)) [0, 1, 2] rfl
  have hDc := hD.sub (ws' := (wSd cI cZ cJ sd_a lk_w v_a lk_wr lk_rd lk_cu lk_sp sd ++ wBr cI cZ cJ v_a v_b v)) [0, 1, 2] (by decide) rfl
  have hFc := va_free (wc := (wSd cI cZ cJ sd_a lk_w v_a lk_wr lk_rd lk_cu lk_sp sd ++ wBr cI cZ cJ v_a v_b v)) hD hS hA [0, 1, 2] rfl
  refine va_calli (va_runV (As := [.int x1]) (rest := [.int 0, .ref (ou_a 0)]) ⟨hx, hb, hml, hown, hts⟩ (k_SD_feed l dC dI cI cZ cJ sd_a v_a v_b lk_w lk_wr lk_rd lk_cu lk_sp H.size hf1) (cwV 1 hts (gV t_750 t_751 t_752 t_54 t_753) rfl rfl rfl hd_SD_feed ⟨Nat.le_trans (Nat.le_of_ble_eq_true rfl) hRf, Nat.le_trans (Nat.le_of_ble_eq_true rfl) hRl⟩) ⟨kP_blind, va_recv hK hP (ci := 6) (q0 := 0) rfl rfl, kP_at hPc hK hDc hN⟩ rfl rfl hl.1 rfl (lv_room (Nat.le_of_ble_eq_true rfl)) d_Law_feed_4 (g_room hg hm0 hm hRc)) hS (fun q _ h => hFc q h) hFc (fun r9 v_q_3 t H1 locs ht hvm hw hB hz1 hk1 hS => ?_)
  rw [hw]
  have hg := g_step (L0 := Br_byL v) (L1 := Br_byL v_2) hg hm0 hm hRc
  generalize cells + (Br_byL v_2 - Br_byL v) = cells at hg ⊢
  generalize slots + 2 * (Br_byL v_2 - Br_byL v) = slots at hg ⊢
  obtain ⟨hP, hD⟩ := kQ_join (wr := (wOu cI cZ cJ ou_a ou)) (w1 := (wSd cI cZ cJ sd_a lk_w v_a lk_wr lk_rd lk_cu lk_sp sd ++ wBr cI cZ cJ v_a v_q_3 v_2)) hP hD [0, 1, 2] [3] rfl rfl (by decide) (by decide) ht hk1 hFc hB
  generalize H1 = H at hP hS ⊢
  have hP : va_P (dC, dI) vwCl (wSd cI cZ cJ sd_a lk_w v_a lk_wr lk_rd lk_cu lk_sp sd ++ wBr cI cZ cJ v_a v_q_3 v_2 ++ wOu cI cZ cJ ou_a ou) H := hP.sub [1, 2, 3, 0] rfl
  have hD : va_D A (wSd cI cZ cJ sd_a lk_w v_a lk_wr lk_rd lk_cu lk_sp sd ++ wBr cI cZ cJ v_a v_q_3 v_2 ++ wOu cI cZ cJ ou_a ou) := hD.sub [1, 2, 3, 0] (by decide) rfl
  refine lv_i2l (v := r_1.toInt64) hx hb d_Law_feed_7 rfl ?_
  obtain ⟨h_4, hf⟩ := gd_ex hf
  refine va_last (f := Ou_f ou) hx hb hK hP hD hS 3 2 rfl rfl (inb_in h_4) d_Law_feed_8 (fun H locs hP hD hS => ?_)
  obtain ⟨ou_5, eou_5, hf⟩ := lt_ex hf
  try dsimp only at hf
  have hP : va_P (dC, dI) vwCl (wSd cI cZ cJ sd_a lk_w v_a lk_wr lk_rd lk_cu lk_sp sd ++ wBr cI cZ cJ v_a v_q_3 v_2 ++ wOu cI cZ cJ ou_a ou_5) H := by rw [eou_5]; exact hP
  have hD : va_D A (wSd cI cZ cJ sd_a lk_w v_a lk_wr lk_rd lk_cu lk_sp sd ++ wBr cI cZ cJ v_a v_q_3 v_2 ++ wOu cI cZ cJ ou_a ou_5) := by rw [eou_5]; exact hD
  refine lv_goto (tgt := 18) hx hb d_Law_feed_9 (by decide) ?_
  refine lv_iconst (v := 0) hx hb d_Law_feed_18 (by decide) ?_
  exact hr19 _ _ _ _ _ _ 0 v_2 ou_5 hg hP hD hS hf
end
set_option maxHeartbeats 4000000 in
set_option maxRecDepth 100000 in
theorem k_Law_feed (l : Launch) (dC : Nat → ClassId) (dI : Nat → Nat → Nat) (cI cZ cJ : ClassId) (sd_a : Nat → Nat) (v_a v_b : Nat) (ou_a : Nat → Nat) (lk_w : Nat) (lk_wr : Nat) (lk_rd : Nat) (lk_cu : Nat) (lk_sp : Nat) (sz : Nat) {sd : Sd} {v : Br} {ou : Ou} {x1 : Int32} {r : Int32} {v' : Br} {ou' : Ou} (hf : f_Law_feed sd v ou x1 = some (r, v', ou')) :
    Met l y_Law_feed ws_Law_feed ({ frames := 4, cells := (Br_byL v' - Br_byL v), slots := (2 * (Br_byL v' - Br_byL v)), locals := 128 }) (va_Pc [.ref (sd_a 0), .int x1, .ref (ou_a 0)] (kP (dC, dI) vwCl (TYS cI cZ cJ) (wSd cI cZ cJ sd_a lk_w v_a lk_wr lk_rd lk_cu lk_sp sd ++ wBr cI cZ cJ v_a v_b v ++ wOu cI cZ cJ ou_a ou) sz)) (va_Qi (fun (q : Int32) (_ : Nat) => q = r) (fun q9 t => kQ (dC, dI) vwCl (TYS cI cZ cJ) (wSd cI cZ cJ sd_a lk_w v_a lk_wr lk_rd lk_cu lk_sp sd ++ wBr cI cZ cJ v_a v_b v ++ wOu cI cZ cJ ou_a ou) sz (wSd cI cZ cJ sd_a lk_w v_a lk_wr lk_rd lk_cu lk_sp sd ++ wBr cI cZ cJ v_a q9 v' ++ wOu cI cZ cJ ou_a ou') t) (va_A (wSd cI cZ cJ sd_a lk_w v_a lk_wr lk_rd lk_cu lk_sp sd ++ wBr cI cZ cJ v_a v_b v ++ wOu cI cZ cJ ou_a ou) sz)) (Br_byL v' - Br_byL v) (2 * (Br_byL v' - Br_byL v)) (va_A (wSd cI cZ cJ sd_a lk_w v_a lk_wr lk_rd lk_cu lk_sp sd ++ wBr cI cZ cJ v_a v_b v ++ wOu cI cZ cJ ou_a ou) sz) := by
  refine va_MetW (hh := [((0), (9), (12), (13)), ((0), (9), (15), (15))]) (cc := c_Law_feed) (maxL := 4) (ret := (some .int)) (by decide) rfl ?_
  intro p e s m args below meth c s₁ B hml hv
  obtain ⟨rfl, hsz, hP, hK, hD0, hN⟩ := hv
  have hr := B.returns
  have hlocks := B.notSynchronized
  subst hsz
  have hD := hD0.self (sz := s.heap.size)
  have hl := lv_entry ([.ref (sd_a 0), .int x1, .ref (ou_a 0)]) (n := 4) (Nat.le_of_ble_eq_true rfl)
  rw [lg_entry_eq]
  generalize (lg_sl ([.ref (sd_a 0), .int x1, .ref (ou_a 0)]) ++ List.replicate (4 - (lg_sl ([.ref (sd_a 0), .int x1, .ref (ou_a 0)])).length) Slot.unset).toArray = ls at hl ⊢
  refine B_Law_feed (A := va_A (wSd cI cZ cJ sd_a lk_w v_a lk_wr lk_rd lk_cu lk_sp sd ++ wBr cI cZ cJ v_a v_b v ++ wOu cI cZ cJ ou_a ou) s.heap.size) ⟨B.exec, B.bytes, hml, findClass_of_methodNamed B.named, fun w h => atoms_spec (ws := ws_Law_feed) B.pre w (List.mem_cons_of_mem _ h), hK, fun q h => Or.inr h, Nat.le_of_ble_eq_true rfl, Nat.le_of_ble_eq_true rfl, hN, Nat.zero_le _, Nat.zero_le _⟩ ⟨Nat.le_refl _, Nat.le_refl _⟩ (fun H locs ls cells slots q9 v v'1 ou'1 hg hP hD hS hf => ?_) ⟨Nat.le_refl _, Nat.zero_le _, Nat.zero_le _, Nat.zero_le _, Nat.zero_le _⟩ hP hD va_S.rf hl hf
  · cases hf
    refine W.widen (k := (Br_byL v' - Br_byL v)) (n := (2 * (Br_byL v' - Br_byL v))) hg.2.1 hg.2.2.1 ?_
    exact W.iret B.exec B.bytes hr (fun t ht hW => ⟨⟨_, q9, rfl, rfl, ⟨by rw [ht]; exact hP, va_K.moved hW.alike hK, hD⟩⟩, hS.F ht⟩) hS.2.2 d_Law_feed_19

/-! Law_pass -/
def f_Law_pass (sd : Sd) (w : Br) (v : Br) (ou : Ou) : Option (Int32 × Br × Ou) := bd (f_SD_pass sd w v) <| fun (r_1, v_2) => gd (inb 0 1) <| lt' (Ou_s_f ou (vp_updL (Ou_f ou) (0 : Int32).toNatClampNeg r_1.toInt64)) <| fun ou_5 => some (0, v_2, ou_5)
theorem mo_Law_pass {sd : Sd} {w : Br} {v : Br} {ou : Ou} : mle (f_Law_pass sd w v ou) (Br_byL v) (fun r : Int32 × Br × Ou => Br_byL r.2.1) := by
  rw [f_Law_pass]
  refine mle_bd (fun y9 hy9 => ?_)
  obtain ⟨r_1, v_2⟩ := y9
  try dsimp only
  refine mle_le (mo_SD_pass _ hy9) ?_
  try dsimp only
  refine mle_gd ?_
  refine mle_lt (fun ou_5 eou_5 => ?_)
  exact mle_some (Nat.le_refl _)
section
variable {p : Program} {l : Launch} {e : Env} {R : Room} {s : State} {m : MethodId} {args : Array Value} {below : List Frame} {meth : Method} {c : Code} {Q : State → Prop} {A : Nat → Prop}
set_option maxHeartbeats 4000000 in
set_option maxRecDepth 100000 in
theorem B_Law_pass {cells slots : Nat} {l0 : Nat} {dC : Nat → ClassId} {dI : Nat → Nat → Nat} {cI cZ cJ : ClassId} {sd_a : Nat → Nat} {w_a w_b : Nat} {v_a : Nat} {ou_a : Nat → Nat} {lk_wr : Nat} {lk_rd : Nat} {lk_cu : Nat} {lk_sp : Nat} {v_b : Nat} {sd : Sd} {w : Br} {v : Br} {ou : Ou} {res : Int32 × Br × Ou} (C0 : cxt p c m s args R 0 0 R_Law c_Law_pass tb 3 (dC, dI) vwCl (TYS cI cZ cJ) A 5 149) (hRc : gR l0 ((fun r : Int32 × Br × Ou => Br_byL r.2.1) res) R)
    (hr15 : ∀ (H : Heap) (locs : List Loc) (ls : Array Slot) (cells slots : Nat) (v_b : Nat) (v : Int32) (v' : Br) (ou' : Ou), gok R l0 (Br_byL v') cells slots → va_P (dC, dI) vwCl (wSd cI cZ cJ sd_a w_a v_a lk_wr lk_rd lk_cu lk_sp sd ++ wBr cI cZ cJ w_a w_b w ++ wBr cI cZ cJ v_a v_b v' ++ wOu cI cZ cJ ou_a ou') H → va_D A (wSd cI cZ cJ sd_a w_a v_a lk_wr lk_rd lk_cu lk_sp sd ++ wBr cI cZ cJ w_a w_b w ++ wBr cI cZ cJ v_a v_b v' ++ wOu cI cZ cJ ou_a ou') → va_S A s.heap H locs → some (v, v', ou') = some res → W p l e R s m args below meth c H locs cells slots Q (F0 m 15 ls [.int v]))
    {H : Heap} {locs : List Loc} {ls : Array Slot} (hg : gok R l0 (Br_byL v) cells slots) (hP : va_P (dC, dI) vwCl (wSd cI cZ cJ sd_a w_a v_a lk_wr lk_rd lk_cu lk_sp sd ++ wBr cI cZ cJ w_a w_b w ++ wBr cI cZ cJ v_a v_b v ++ wOu cI cZ cJ ou_a ou) H) (hD : va_D A (wSd cI cZ cJ sd_a w_a v_a lk_wr lk_rd lk_cu lk_sp sd ++ wBr cI cZ cJ w_a w_b w ++ wBr cI cZ cJ v_a v_b v ++ wOu cI cZ cJ ou_a ou)) (hS : va_S A s.heap H locs) (hl : lv_has ls 3 [(0, .ref (sd_a 0)), (1, .ref (ou_a 0))]) (hf : f_Law_pass sd w v ou = some res) : W p l e R s m args below meth c H locs cells slots Q (F0 m 0 ls []) := by
  obtain ⟨hx, hb, hml, hown, hts, hK, hA, hRf, hRl, hN, _⟩ := id C0
  rw [f_Law_pass] at hf
  refine lv_aload_n hx hb d_Law_pass_0 rfl (lv_at hl 1 rfl) ?_
  refine lv_iconst (v := 0) hx hb d_Law_pass_1 (by decide) ?_
  refine lv_aload_n hx hb d_Law_pass_2 rfl (lv_at hl 0 rfl) ?_
  obtain ⟨⟨r_1, v_2⟩, hf1, hf⟩ := bd_ex hf
  try dsimp only at hf
  have hm0 := mo_SD_pass _ hf1
  try dsimp only at hm0
  have hm : Br_byL v_2 ≤ (fun r : Int32 × Br × Ou => Br_byL r.2.1) res := by
    refine mle_use (π := (fun r : Int32 × Br × Ou => Br_byL r.2.1)) hf ?_
    refine mle_gd ?_
    refine mle_lt (fun ou_5 eou_5 => ?_)
    exact mle_some (Nat.le_refl _)
  have hPc := hP.sub (ws' := (wSd cI cZ cJ sd_a w_a v_a lk_wr lk_rd lk_cu lk_sp sd ++ wBr cI cZ cJ w_a w_b w ++ wBr cI cZ cJ v_a v_b v)) [0, 1, 2, 3, 4] rfl
  have hDc := hD.sub (ws' := (wSd cI cZ cJ sd_a w_a v_a lk_wr lk_rd lk_cu lk_sp sd ++ wBr cI cZ cJ w_a w_b w ++ wBr cI cZ cJ v_a v_b v)) [0, 1, 2, 3, 4] (by decide) rfl
  have hFc := va_free (wc := (wSd cI cZ cJ sd_a w_a v_a lk_wr lk_rd lk_cu lk_sp sd ++ wBr cI cZ cJ w_a w_b w ++ wBr cI cZ cJ v_a v_b v)) hD hS hA [0, 1, 2, 3, 4] rfl
  refine va_calli (va_runV (As := []) (rest := [.int 0, .ref (ou_a 0)]) ⟨hx, hb, hml, hown, hts⟩ (k_SD_pass l dC dI cI cZ cJ sd_a w_a w_b v_a v_b lk_wr lk_rd lk_cu lk_sp H.size hf1) (cwV 0 hts (gV t_760 t_761 t_762 t_54 t_763) rfl rfl rfl hd_SD_pass ⟨Nat.le_trans (Nat.le_of_ble_eq_true rfl) hRf, Nat.le_trans (Nat.le_of_ble_eq_true rfl) hRl⟩) ⟨kP_blind, va_recv hK hP (ci := 6) (q0 := 0) rfl rfl, kP_at hPc hK hDc hN⟩ rfl rfl hl.1 rfl (lv_room (Nat.le_of_ble_eq_true rfl)) d_Law_pass_3 (g_room hg hm0 hm hRc)) hS (fun q _ h => hFc q h) hFc (fun r9 v_q_3 t H1 locs ht hvm hw hB hz1 hk1 hS => ?_)
  rw [hw]
  have hg := g_step (L0 := Br_byL v) (L1 := Br_byL v_2) hg hm0 hm hRc
  generalize cells + (Br_byL v_2 - Br_byL v) = cells at hg ⊢
  generalize slots + 2 * (Br_byL v_2 - Br_byL v) = slots at hg ⊢
  obtain ⟨hP, hD⟩ := kQ_join (wr := (wOu cI cZ cJ ou_a ou)) (w1 := (wSd cI cZ cJ sd_a w_a v_a lk_wr lk_rd lk_cu lk_sp sd ++ wBr cI cZ cJ w_a w_b w ++ wBr cI cZ cJ v_a v_q_3 v_2)) hP hD [0, 1, 2, 3, 4] [5] rfl rfl (by decide) (by decide) ht hk1 hFc hB
  generalize H1 = H at hP hS ⊢
  have hP : va_P (dC, dI) vwCl (wSd cI cZ cJ sd_a w_a v_a lk_wr lk_rd lk_cu lk_sp sd ++ wBr cI cZ cJ w_a w_b w ++ wBr cI cZ cJ v_a v_q_3 v_2 ++ wOu cI cZ cJ ou_a ou) H := hP.sub [1, 2, 3, 4, 5, 0] rfl
  have hD : va_D A (wSd cI cZ cJ sd_a w_a v_a lk_wr lk_rd lk_cu lk_sp sd ++ wBr cI cZ cJ w_a w_b w ++ wBr cI cZ cJ v_a v_q_3 v_2 ++ wOu cI cZ cJ ou_a ou) := hD.sub [1, 2, 3, 4, 5, 0] (by decide) rfl
  refine lv_i2l (v := r_1.toInt64) hx hb d_Law_pass_6 rfl ?_
  obtain ⟨h_4, hf⟩ := gd_ex hf
  refine va_last (f := Ou_f ou) hx hb hK hP hD hS 5 2 rfl rfl (inb_in h_4) d_Law_pass_7 (fun H locs hP hD hS => ?_)
  obtain ⟨ou_5, eou_5, hf⟩ := lt_ex hf
  try dsimp only at hf
  have hP : va_P (dC, dI) vwCl (wSd cI cZ cJ sd_a w_a v_a lk_wr lk_rd lk_cu lk_sp sd ++ wBr cI cZ cJ w_a w_b w ++ wBr cI cZ cJ v_a v_q_3 v_2 ++ wOu cI cZ cJ ou_a ou_5) H := by rw [eou_5]; exact hP
  have hD : va_D A (wSd cI cZ cJ sd_a w_a v_a lk_wr lk_rd lk_cu lk_sp sd ++ wBr cI cZ cJ w_a w_b w ++ wBr cI cZ cJ v_a v_q_3 v_2 ++ wOu cI cZ cJ ou_a ou_5) := by rw [eou_5]; exact hD
  refine lv_goto (tgt := 14) hx hb d_Law_pass_8 (by decide) ?_
  refine lv_iconst (v := 0) hx hb d_Law_pass_14 (by decide) ?_
  exact hr15 _ _ _ _ _ _ 0 v_2 ou_5 hg hP hD hS hf
end
set_option maxHeartbeats 4000000 in
set_option maxRecDepth 100000 in
theorem k_Law_pass (l : Launch) (dC : Nat → ClassId) (dI : Nat → Nat → Nat) (cI cZ cJ : ClassId) (sd_a : Nat → Nat) (w_a w_b : Nat) (v_a v_b : Nat) (ou_a : Nat → Nat) (lk_wr : Nat) (lk_rd : Nat) (lk_cu : Nat) (lk_sp : Nat) (sz : Nat) {sd : Sd} {w : Br} {v : Br} {ou : Ou} {r : Int32} {v' : Br} {ou' : Ou} (hf : f_Law_pass sd w v ou = some (r, v', ou')) :
    Met l y_Law_pass ws_Law_pass ({ frames := 5, cells := (Br_byL v' - Br_byL v), slots := (2 * (Br_byL v' - Br_byL v)), locals := 149 }) (va_Pc [.ref (sd_a 0), .ref (ou_a 0)] (kP (dC, dI) vwCl (TYS cI cZ cJ) (wSd cI cZ cJ sd_a w_a v_a lk_wr lk_rd lk_cu lk_sp sd ++ wBr cI cZ cJ w_a w_b w ++ wBr cI cZ cJ v_a v_b v ++ wOu cI cZ cJ ou_a ou) sz)) (va_Qi (fun (q : Int32) (_ : Nat) => q = r) (fun q9 t => kQ (dC, dI) vwCl (TYS cI cZ cJ) (wSd cI cZ cJ sd_a w_a v_a lk_wr lk_rd lk_cu lk_sp sd ++ wBr cI cZ cJ w_a w_b w ++ wBr cI cZ cJ v_a v_b v ++ wOu cI cZ cJ ou_a ou) sz (wSd cI cZ cJ sd_a w_a v_a lk_wr lk_rd lk_cu lk_sp sd ++ wBr cI cZ cJ w_a w_b w ++ wBr cI cZ cJ v_a q9 v' ++ wOu cI cZ cJ ou_a ou') t) (va_A (wSd cI cZ cJ sd_a w_a v_a lk_wr lk_rd lk_cu lk_sp sd ++ wBr cI cZ cJ w_a w_b w ++ wBr cI cZ cJ v_a v_b v ++ wOu cI cZ cJ ou_a ou) sz)) (Br_byL v' - Br_byL v) (2 * (Br_byL v' - Br_byL v)) (va_A (wSd cI cZ cJ sd_a w_a v_a lk_wr lk_rd lk_cu lk_sp sd ++ wBr cI cZ cJ w_a w_b w ++ wBr cI cZ cJ v_a v_b v ++ wOu cI cZ cJ ou_a ou) sz) := by
  refine va_MetW (hh := [((0), (8), (11), (15))]) (cc := c_Law_pass) (maxL := 3) (ret := (some .int)) (by decide) rfl ?_
  intro p e s m args below meth c s₁ B hml hv
  obtain ⟨rfl, hsz, hP, hK, hD0, hN⟩ := hv
  have hr := B.returns
  have hlocks := B.notSynchronized
  subst hsz
  have hD := hD0.self (sz := s.heap.size)
  have hl := lv_entry ([.ref (sd_a 0), .ref (ou_a 0)]) (n := 3) (Nat.le_of_ble_eq_true rfl)
  rw [lg_entry_eq]
  generalize (lg_sl ([.ref (sd_a 0), .ref (ou_a 0)]) ++ List.replicate (3 - (lg_sl ([.ref (sd_a 0), .ref (ou_a 0)])).length) Slot.unset).toArray = ls at hl ⊢
  refine B_Law_pass (A := va_A (wSd cI cZ cJ sd_a w_a v_a lk_wr lk_rd lk_cu lk_sp sd ++ wBr cI cZ cJ w_a w_b w ++ wBr cI cZ cJ v_a v_b v ++ wOu cI cZ cJ ou_a ou) s.heap.size) ⟨B.exec, B.bytes, hml, findClass_of_methodNamed B.named, fun w h => atoms_spec (ws := ws_Law_pass) B.pre w (List.mem_cons_of_mem _ h), hK, fun q h => Or.inr h, Nat.le_of_ble_eq_true rfl, Nat.le_of_ble_eq_true rfl, hN, Nat.zero_le _, Nat.zero_le _⟩ ⟨Nat.le_refl _, Nat.le_refl _⟩ (fun H locs ls cells slots q9 v v'1 ou'1 hg hP hD hS hf => ?_) ⟨Nat.le_refl _, Nat.zero_le _, Nat.zero_le _, Nat.zero_le _, Nat.zero_le _⟩ hP hD va_S.rf hl hf
  · cases hf
    refine W.widen (k := (Br_byL v' - Br_byL v)) (n := (2 * (Br_byL v' - Br_byL v))) hg.2.1 hg.2.2.1 ?_
    exact W.iret B.exec B.bytes hr (fun t ht hW => ⟨⟨_, q9, rfl, rfl, ⟨by rw [ht]; exact hP, va_K.moved hW.alike hK, hD⟩⟩, hS.F ht⟩) hS.2.2 d_Law_pass_15

/-! Law_told -/
def f_Law_told (sd : Sd) (cu : Sy) (ou : Ou) (x1 : Int32) (x2 : Int32) : Option (Int32 × Ou) := bd (f_SD_told sd cu x1 x2) <| fun r_1 => gd (inb 0 1) <| lt' (Ou_s_f ou (vp_updL (Ou_f ou) (0 : Int32).toNatClampNeg r_1.toInt64)) <| fun ou_3 => some (0, ou_3)
section
variable {p : Program} {l : Launch} {e : Env} {R : Room} {s : State} {m : MethodId} {args : Array Value} {below : List Frame} {meth : Method} {c : Code} {Q : State → Prop} {A : Nat → Prop}
set_option maxHeartbeats 4000000 in
set_option maxRecDepth 100000 in
theorem B_Law_told {cells slots : Nat} {dC : Nat → ClassId} {dI : Nat → Nat → Nat} {cI cZ cJ : ClassId} {sd_a : Nat → Nat} {cu_a : Nat → Nat} {ou_a : Nat → Nat} {lk_w : Nat} {lk_v : Nat} {lk_wr : Nat} {lk_rd : Nat} {lk_sp : Nat} {sd : Sd} {cu : Sy} {ou : Ou} {x1 : Int32} {x2 : Int32} {res : Int32 × Ou} (C0 : cxt p c m s args R cells slots R_Law c_Law_told tb 5 (dC, dI) vwCl (TYS cI cZ cJ) A 3 67)
    (hr22 : ∀ (H : Heap) (locs : List Loc) (ls : Array Slot) (v : Int32) (ou' : Ou), va_P (dC, dI) vwCl (wSd cI cZ cJ sd_a lk_w lk_v lk_wr lk_rd (cu_a 0) lk_sp sd ++ wSy cI cZ cJ cu_a cu ++ wOu cI cZ cJ ou_a ou') H → va_D A (wSd cI cZ cJ sd_a lk_w lk_v lk_wr lk_rd (cu_a 0) lk_sp sd ++ wSy cI cZ cJ cu_a cu ++ wOu cI cZ cJ ou_a ou') → va_S A s.heap H locs → some (v, ou') = some res → W p l e R s m args below meth c H locs cells slots Q (F0 m 22 ls [.int v]))
    {H : Heap} {locs : List Loc} {ls : Array Slot} (hP : va_P (dC, dI) vwCl (wSd cI cZ cJ sd_a lk_w lk_v lk_wr lk_rd (cu_a 0) lk_sp sd ++ wSy cI cZ cJ cu_a cu ++ wOu cI cZ cJ ou_a ou) H) (hD : va_D A (wSd cI cZ cJ sd_a lk_w lk_v lk_wr lk_rd (cu_a 0) lk_sp sd ++ wSy cI cZ cJ cu_a cu ++ wOu cI cZ cJ ou_a ou)) (hS : va_S A s.heap H locs) (hl : lv_has ls 5 [(0, .ref (sd_a 0)), (1, .int x1), (2, .int x2), (3, .ref (ou_a 0))]) (hf : f_Law_told sd cu ou x1 x2 = some res) : W p l e R s m args below meth c H locs cells slots Q (F0 m 0 ls []) := by
  obtain ⟨hx, hb, hml, hown, hts, hK, hA, hRf, hRl, hN, hRc⟩ := id C0
  rw [f_Law_told] at hf
  refine lv_aload_n hx hb d_Law_told_0 rfl (lv_at hl 3 rfl) ?_
  refine lv_iconst (v := 0) hx hb d_Law_told_1 (by decide) ?_
  refine lv_aload_n hx hb d_Law_told_2 rfl (lv_at hl 0 rfl) ?_
  refine lv_iload_n hx hb d_Law_told_3 rfl (lv_at hl 1 rfl) ?_
  refine lv_iload_n hx hb d_Law_told_4 rfl (lv_at hl 2 rfl) ?_
  obtain ⟨r_1, hf1, hf⟩ := bd_ex hf
  try dsimp only at hf
  have hPc := hP.sub (ws' := (wSd cI cZ cJ sd_a lk_w lk_v lk_wr lk_rd (cu_a 0) lk_sp sd ++ wSy cI cZ cJ cu_a cu)) [0, 1, 2, 3, 4, 5, 6, 7, 8, 9, 10] rfl
  have hDc := hD.sub (ws' := (wSd cI cZ cJ sd_a lk_w lk_v lk_wr lk_rd (cu_a 0) lk_sp sd ++ wSy cI cZ cJ cu_a cu)) [0, 1, 2, 3, 4, 5, 6, 7, 8, 9, 10] (by decide) rfl
  have hFc := va_free (wc := (wSd cI cZ cJ sd_a lk_w lk_v lk_wr lk_rd (cu_a 0) lk_sp sd ++ wSy cI cZ cJ cu_a cu)) hD hS hA [0, 1, 2, 3, 4, 5, 6, 7, 8, 9, 10] rfl
  refine va_calli (va_runV (As := [.int x1, .int x2]) (rest := [.int 0, .ref (ou_a 0)]) ⟨hx, hb, hml, hown, hts⟩ (k_SD_told l dC dI cI cZ cJ sd_a cu_a lk_w lk_v lk_wr lk_rd lk_sp H.size hf1) (cwV 2 hts (gV t_773 t_774 t_775 t_54 t_776) rfl rfl rfl hd_SD_told ⟨Nat.le_trans (Nat.le_of_ble_eq_true rfl) hRf, Nat.le_trans (Nat.le_of_ble_eq_true rfl) hRl⟩) ⟨kP_blind, va_recv hK hP (ci := 6) (q0 := 0) rfl rfl, kP_at hPc hK hDc hN⟩ rfl rfl hl.1 rfl (lv_room (Nat.le_of_ble_eq_true rfl)) d_Law_told_5 hRc) hS (fun q _ h => hFc q h) hFc (fun r9 u t H1 locs ht hvm hw hB hz1 hk1 hS => ?_)
  rw [hw]
  obtain ⟨hP, hD⟩ := kQ_join (wr := (wOu cI cZ cJ ou_a ou)) (w1 := (wSd cI cZ cJ sd_a lk_w lk_v lk_wr lk_rd (cu_a 0) lk_sp sd ++ wSy cI cZ cJ cu_a cu)) hP hD [0, 1, 2, 3, 4, 5, 6, 7, 8, 9, 10] [11] rfl rfl (by decide) (by decide) ht hk1 hFc hB
  generalize H1 = H at hP hS ⊢
  have hP : va_P (dC, dI) vwCl (wSd cI cZ cJ sd_a lk_w lk_v lk_wr lk_rd (cu_a 0) lk_sp sd ++ wSy cI cZ cJ cu_a cu ++ wOu cI cZ cJ ou_a ou) H := hP.sub [1, 2, 3, 4, 5, 6, 7, 8, 9, 10, 11, 0] rfl
  have hD : va_D A (wSd cI cZ cJ sd_a lk_w lk_v lk_wr lk_rd (cu_a 0) lk_sp sd ++ wSy cI cZ cJ cu_a cu ++ wOu cI cZ cJ ou_a ou) := hD.sub [1, 2, 3, 4, 5, 6, 7, 8, 9, 10, 11, 0] (by decide) rfl
  refine lv_i2l (v := r_1.toInt64) hx hb d_Law_told_8 rfl ?_
  obtain ⟨h_2, hf⟩ := gd_ex hf
  refine va_last (f := Ou_f ou) hx hb hK hP hD hS 11 2 rfl rfl (inb_in h_2) d_Law_told_9 (fun H locs hP hD hS => ?_)
  obtain ⟨ou_3, eou_3, hf⟩ := lt_ex hf
  try dsimp only at hf
  have hP : va_P (dC, dI) vwCl (wSd cI cZ cJ sd_a lk_w lk_v lk_wr lk_rd (cu_a 0) lk_sp sd ++ wSy cI cZ cJ cu_a cu ++ wOu cI cZ cJ ou_a ou_3) H := by rw [eou_3]; exact hP
  have hD : va_D A (wSd cI cZ cJ sd_a lk_w lk_v lk_wr lk_rd (cu_a 0) lk_sp sd ++ wSy cI cZ cJ cu_a cu ++ wOu cI cZ cJ ou_a ou_3) := by rw [eou_3]; exact hD
  refine lv_goto (tgt := 21) hx hb d_Law_told_10 (by decide) ?_
  refine lv_iconst (v := 0) hx hb d_Law_told_21 (by decide) ?_
  exact hr22 _ _ _ 0 ou_3 hP hD hS hf
end
set_option maxHeartbeats 4000000 in
set_option maxRecDepth 100000 in
theorem k_Law_told (l : Launch) (dC : Nat → ClassId) (dI : Nat → Nat → Nat) (cI cZ cJ : ClassId) (sd_a : Nat → Nat) (cu_a : Nat → Nat) (ou_a : Nat → Nat) (lk_w : Nat) (lk_v : Nat) (lk_wr : Nat) (lk_rd : Nat) (lk_sp : Nat) (sz : Nat) {sd : Sd} {cu : Sy} {ou : Ou} {x1 : Int32} {x2 : Int32} {r : Int32} {ou' : Ou} (hf : f_Law_told sd cu ou x1 x2 = some (r, ou')) :
    Met l y_Law_told ws_Law_told ({ frames := 3, cells := 0, slots := 0, locals := 67 }) (va_Pc [.ref (sd_a 0), .int x1, .int x2, .ref (ou_a 0)] (kP (dC, dI) vwCl (TYS cI cZ cJ) (wSd cI cZ cJ sd_a lk_w lk_v lk_wr lk_rd (cu_a 0) lk_sp sd ++ wSy cI cZ cJ cu_a cu ++ wOu cI cZ cJ ou_a ou) sz)) (va_Qi (fun (q : Int32) (_ : Unit) => q = r) (fun _ t => kQ (dC, dI) vwCl (TYS cI cZ cJ) (wSd cI cZ cJ sd_a lk_w lk_v lk_wr lk_rd (cu_a 0) lk_sp sd ++ wSy cI cZ cJ cu_a cu ++ wOu cI cZ cJ ou_a ou) sz (wSd cI cZ cJ sd_a lk_w lk_v lk_wr lk_rd (cu_a 0) lk_sp sd ++ wSy cI cZ cJ cu_a cu ++ wOu cI cZ cJ ou_a ou') t) (va_A (wSd cI cZ cJ sd_a lk_w lk_v lk_wr lk_rd (cu_a 0) lk_sp sd ++ wSy cI cZ cJ cu_a cu ++ wOu cI cZ cJ ou_a ou) sz)) 0 0 (va_A (wSd cI cZ cJ sd_a lk_w lk_v lk_wr lk_rd (cu_a 0) lk_sp sd ++ wSy cI cZ cJ cu_a cu ++ wOu cI cZ cJ ou_a ou) sz) := by
  refine va_MetW (hh := [((0), (10), (13), (21)), ((0), (10), (17), (13))]) (cc := c_Law_told) (maxL := 5) (ret := (some .int)) (by decide) rfl ?_
  intro p e s m args below meth c s₁ B hml hv
  obtain ⟨rfl, hsz, hP, hK, hD0, hN⟩ := hv
  have hr := B.returns
  have hlocks := B.notSynchronized
  subst hsz
  have hD := hD0.self (sz := s.heap.size)
  have hl := lv_entry ([.ref (sd_a 0), .int x1, .int x2, .ref (ou_a 0)]) (n := 5) (Nat.le_of_ble_eq_true rfl)
  rw [lg_entry_eq]
  generalize (lg_sl ([.ref (sd_a 0), .int x1, .int x2, .ref (ou_a 0)]) ++ List.replicate (5 - (lg_sl ([.ref (sd_a 0), .int x1, .int x2, .ref (ou_a 0)])).length) Slot.unset).toArray = ls at hl ⊢
  refine B_Law_told (A := va_A (wSd cI cZ cJ sd_a lk_w lk_v lk_wr lk_rd (cu_a 0) lk_sp sd ++ wSy cI cZ cJ cu_a cu ++ wOu cI cZ cJ ou_a ou) s.heap.size) ⟨B.exec, B.bytes, hml, findClass_of_methodNamed B.named, fun w h => atoms_spec (ws := ws_Law_told) B.pre w (List.mem_cons_of_mem _ h), hK, fun q h => Or.inr h, Nat.le_of_ble_eq_true rfl, Nat.le_of_ble_eq_true rfl, hN, Nat.le_of_ble_eq_true rfl, Nat.le_of_ble_eq_true rfl⟩ (fun H locs ls v ou'1 hP hD hS hf => ?_) hP hD va_S.rf hl hf
  · cases hf
    exact W.iret B.exec B.bytes hr (fun t ht hW => ⟨⟨_, (), rfl, rfl, ⟨by rw [ht]; exact hP, va_K.moved hW.alike hK, hD⟩⟩, hS.F ht⟩) hS.2.2 d_Law_told_22

/-! Law_likeness -/
def f_Law_likeness (sd : Sd) (cu : Sy) (ou : Ou) (x1 : Int32) (x2 : Int32) : Option (Int32 × Ou) := bd (f_SD_likeness sd cu x1 x2) <| fun r_1 => gd (inb 0 1) <| lt' (Ou_s_f ou (vp_updL (Ou_f ou) (0 : Int32).toNatClampNeg r_1.toInt64)) <| fun ou_3 => some (0, ou_3)
section
variable {p : Program} {l : Launch} {e : Env} {R : Room} {s : State} {m : MethodId} {args : Array Value} {below : List Frame} {meth : Method} {c : Code} {Q : State → Prop} {A : Nat → Prop}
set_option maxHeartbeats 4000000 in
set_option maxRecDepth 100000 in
theorem B_Law_likeness {cells slots : Nat} {dC : Nat → ClassId} {dI : Nat → Nat → Nat} {cI cZ cJ : ClassId} {sd_a : Nat → Nat} {cu_a : Nat → Nat} {ou_a : Nat → Nat} {lk_w : Nat} {lk_v : Nat} {lk_wr : Nat} {lk_rd : Nat} {lk_sp : Nat} {sd : Sd} {cu : Sy} {ou : Ou} {x1 : Int32} {x2 : Int32} {res : Int32 × Ou} (C0 : cxt p c m s args R cells slots R_Law c_Law_likeness tb 5 (dC, dI) vwCl (TYS cI cZ cJ) A 3 68)
    (hr18 : ∀ (H : Heap) (locs : List Loc) (ls : Array Slot) (v : Int32) (ou' : Ou), va_P (dC, dI) vwCl (wSd cI cZ cJ sd_a lk_w lk_v lk_wr lk_rd (cu_a 0) lk_sp sd ++ wSy cI cZ cJ cu_a cu ++ wOu cI cZ cJ ou_a ou') H → va_D A (wSd cI cZ cJ sd_a lk_w lk_v lk_wr lk_rd (cu_a 0) lk_sp sd ++ wSy cI cZ cJ cu_a cu ++ wOu cI cZ cJ ou_a ou') → va_S A s.heap H locs → some (v, ou') = some res → W p l e R s m args below meth c H locs cells slots Q (F0 m 18 ls [.int v]))
    {H : Heap} {locs : List Loc} {ls : Array Slot} (hP : va_P (dC, dI) vwCl (wSd cI cZ cJ sd_a lk_w lk_v lk_wr lk_rd (cu_a 0) lk_sp sd ++ wSy cI cZ cJ cu_a cu ++ wOu cI cZ cJ ou_a ou) H) (hD : va_D A (wSd cI cZ cJ sd_a lk_w lk_v lk_wr lk_rd (cu_a 0) lk_sp sd ++ wSy cI cZ cJ cu_a cu ++ wOu cI cZ cJ ou_a ou)) (hS : va_S A s.heap H locs) (hl : lv_has ls 5 [(0, .ref (sd_a 0)), (1, .int x1), (2, .int x2), (3, .ref (ou_a 0))]) (hf : f_Law_likeness sd cu ou x1 x2 = some res) : W p l e R s m args below meth c H locs cells slots Q (F0 m 0 ls []) := by
  obtain ⟨hx, hb, hml, hown, hts, hK, hA, hRf, hRl, hN, hRc⟩ := id C0
  rw [f_Law_likeness] at hf
  refine lv_aload_n hx hb d_Law_likeness_0 rfl (lv_at hl 3 rfl) ?_
  refine lv_iconst (v := 0) hx hb d_Law_likeness_1 (by decide) ?_
  refine lv_aload_n hx hb d_Law_likeness_2 rfl (lv_at hl 0 rfl) ?_
  refine lv_iload_n hx hb d_Law_likeness_3 rfl (lv_at hl 1 rfl) ?_
  refine lv_iload_n hx hb d_Law_likeness_4 rfl (lv_at hl 2 rfl) ?_
  obtain ⟨r_1, hf1, hf⟩ := bd_ex hf
  try dsimp only at hf
  have hPc := hP.sub (ws' := (wSd cI cZ cJ sd_a lk_w lk_v lk_wr lk_rd (cu_a 0) lk_sp sd ++ wSy cI cZ cJ cu_a cu)) [0, 1, 2, 3, 4, 5, 6, 7, 8, 9, 10] rfl
  have hDc := hD.sub (ws' := (wSd cI cZ cJ sd_a lk_w lk_v lk_wr lk_rd (cu_a 0) lk_sp sd ++ wSy cI cZ cJ cu_a cu)) [0, 1, 2, 3, 4, 5, 6, 7, 8, 9, 10] (by decide) rfl
  have hFc := va_free (wc := (wSd cI cZ cJ sd_a lk_w lk_v lk_wr lk_rd (cu_a 0) lk_sp sd ++ wSy cI cZ cJ cu_a cu)) hD hS hA [0, 1, 2, 3, 4, 5, 6, 7, 8, 9, 10] rfl
  refine va_calli (va_runV (As := [.int x1, .int x2]) (rest := [.int 0, .ref (ou_a 0)]) ⟨hx, hb, hml, hown, hts⟩ (k_SD_likeness l dC dI cI cZ cJ sd_a cu_a lk_w lk_v lk_wr lk_rd lk_sp H.size hf1) (cwV 2 hts (gV t_786 t_787 t_788 t_54 t_789) rfl rfl rfl hd_SD_likeness ⟨Nat.le_trans (Nat.le_of_ble_eq_true rfl) hRf, Nat.le_trans (Nat.le_of_ble_eq_true rfl) hRl⟩) ⟨kP_blind, va_recv hK hP (ci := 6) (q0 := 0) rfl rfl, kP_at hPc hK hDc hN⟩ rfl rfl hl.1 rfl (lv_room (Nat.le_of_ble_eq_true rfl)) d_Law_likeness_5 hRc) hS (fun q _ h => hFc q h) hFc (fun r9 u t H1 locs ht hvm hw hB hz1 hk1 hS => ?_)
  rw [hw]
  obtain ⟨hP, hD⟩ := kQ_join (wr := (wOu cI cZ cJ ou_a ou)) (w1 := (wSd cI cZ cJ sd_a lk_w lk_v lk_wr lk_rd (cu_a 0) lk_sp sd ++ wSy cI cZ cJ cu_a cu)) hP hD [0, 1, 2, 3, 4, 5, 6, 7, 8, 9, 10] [11] rfl rfl (by decide) (by decide) ht hk1 hFc hB
  generalize H1 = H at hP hS ⊢
  have hP : va_P (dC, dI) vwCl (wSd cI cZ cJ sd_a lk_w lk_v lk_wr lk_rd (cu_a 0) lk_sp sd ++ wSy cI cZ cJ cu_a cu ++ wOu cI cZ cJ ou_a ou) H := hP.sub [1, 2, 3, 4, 5, 6, 7, 8, 9, 10, 11, 0] rfl
  have hD : va_D A (wSd cI cZ cJ sd_a lk_w lk_v lk_wr lk_rd (cu_a 0) lk_sp sd ++ wSy cI cZ cJ cu_a cu ++ wOu cI cZ cJ ou_a ou) := hD.sub [1, 2, 3, 4, 5, 6, 7, 8, 9, 10, 11, 0] (by decide) rfl
  refine lv_i2l (v := r_1.toInt64) hx hb d_Law_likeness_8 rfl ?_
  obtain ⟨h_2, hf⟩ := gd_ex hf
  refine va_last (f := Ou_f ou) hx hb hK hP hD hS 11 2 rfl rfl (inb_in h_2) d_Law_likeness_9 (fun H locs hP hD hS => ?_)
  obtain ⟨ou_3, eou_3, hf⟩ := lt_ex hf
  try dsimp only at hf
  have hP : va_P (dC, dI) vwCl (wSd cI cZ cJ sd_a lk_w lk_v lk_wr lk_rd (cu_a 0) lk_sp sd ++ wSy cI cZ cJ cu_a cu ++ wOu cI cZ cJ ou_a ou_3) H := by rw [eou_3]; exact hP
  have hD : va_D A (wSd cI cZ cJ sd_a lk_w lk_v lk_wr lk_rd (cu_a 0) lk_sp sd ++ wSy cI cZ cJ cu_a cu ++ wOu cI cZ cJ ou_a ou_3) := by rw [eou_3]; exact hD
  refine lv_goto (tgt := 17) hx hb d_Law_likeness_10 (by decide) ?_
  refine lv_iconst (v := 0) hx hb d_Law_likeness_17 (by decide) ?_
  exact hr18 _ _ _ 0 ou_3 hP hD hS hf
end
set_option maxHeartbeats 4000000 in
set_option maxRecDepth 100000 in
theorem k_Law_likeness (l : Launch) (dC : Nat → ClassId) (dI : Nat → Nat → Nat) (cI cZ cJ : ClassId) (sd_a : Nat → Nat) (cu_a : Nat → Nat) (ou_a : Nat → Nat) (lk_w : Nat) (lk_v : Nat) (lk_wr : Nat) (lk_rd : Nat) (lk_sp : Nat) (sz : Nat) {sd : Sd} {cu : Sy} {ou : Ou} {x1 : Int32} {x2 : Int32} {r : Int32} {ou' : Ou} (hf : f_Law_likeness sd cu ou x1 x2 = some (r, ou')) :
    Met l y_Law_likeness ws_Law_likeness ({ frames := 3, cells := 0, slots := 0, locals := 68 }) (va_Pc [.ref (sd_a 0), .int x1, .int x2, .ref (ou_a 0)] (kP (dC, dI) vwCl (TYS cI cZ cJ) (wSd cI cZ cJ sd_a lk_w lk_v lk_wr lk_rd (cu_a 0) lk_sp sd ++ wSy cI cZ cJ cu_a cu ++ wOu cI cZ cJ ou_a ou) sz)) (va_Qi (fun (q : Int32) (_ : Unit) => q = r) (fun _ t => kQ (dC, dI) vwCl (TYS cI cZ cJ) (wSd cI cZ cJ sd_a lk_w lk_v lk_wr lk_rd (cu_a 0) lk_sp sd ++ wSy cI cZ cJ cu_a cu ++ wOu cI cZ cJ ou_a ou) sz (wSd cI cZ cJ sd_a lk_w lk_v lk_wr lk_rd (cu_a 0) lk_sp sd ++ wSy cI cZ cJ cu_a cu ++ wOu cI cZ cJ ou_a ou') t) (va_A (wSd cI cZ cJ sd_a lk_w lk_v lk_wr lk_rd (cu_a 0) lk_sp sd ++ wSy cI cZ cJ cu_a cu ++ wOu cI cZ cJ ou_a ou) sz)) 0 0 (va_A (wSd cI cZ cJ sd_a lk_w lk_v lk_wr lk_rd (cu_a 0) lk_sp sd ++ wSy cI cZ cJ cu_a cu ++ wOu cI cZ cJ ou_a ou) sz) := by
  refine va_MetW (hh := [((0), (10), (13), (21))]) (cc := c_Law_likeness) (maxL := 5) (ret := (some .int)) (by decide) rfl ?_
  intro p e s m args below meth c s₁ B hml hv
  obtain ⟨rfl, hsz, hP, hK, hD0, hN⟩ := hv
  have hr := B.returns
  have hlocks := B.notSynchronized
  subst hsz
  have hD := hD0.self (sz := s.heap.size)
  have hl := lv_entry ([.ref (sd_a 0), .int x1, .int x2, .ref (ou_a 0)]) (n := 5) (Nat.le_of_ble_eq_true rfl)
  rw [lg_entry_eq]
  generalize (lg_sl ([.ref (sd_a 0), .int x1, .int x2, .ref (ou_a 0)]) ++ List.replicate (5 - (lg_sl ([.ref (sd_a 0), .int x1, .int x2, .ref (ou_a 0)])).length) Slot.unset).toArray = ls at hl ⊢
  refine B_Law_likeness (A := va_A (wSd cI cZ cJ sd_a lk_w lk_v lk_wr lk_rd (cu_a 0) lk_sp sd ++ wSy cI cZ cJ cu_a cu ++ wOu cI cZ cJ ou_a ou) s.heap.size) ⟨B.exec, B.bytes, hml, findClass_of_methodNamed B.named, fun w h => atoms_spec (ws := ws_Law_likeness) B.pre w (List.mem_cons_of_mem _ h), hK, fun q h => Or.inr h, Nat.le_of_ble_eq_true rfl, Nat.le_of_ble_eq_true rfl, hN, Nat.le_of_ble_eq_true rfl, Nat.le_of_ble_eq_true rfl⟩ (fun H locs ls v ou'1 hP hD hS hf => ?_) hP hD va_S.rf hl hf
  · cases hf
    exact W.iret B.exec B.bytes hr (fun t ht hW => ⟨⟨_, (), rfl, rfl, ⟨by rw [ht]; exact hP, va_K.moved hW.alike hK, hD⟩⟩, hS.F ht⟩) hS.2.2 d_Law_likeness_18

/-! Law_classes -/
def f_Law_classes (sd : Sd) (cu : Sy) (ou : Ou) (x1 : Int32) : Option (Int32 × Sy × Ou) := bd (f_SD_classes sd cu x1) <| fun (r_1, cu_2) => gd (inb 0 1) <| lt' (Ou_s_f ou (vp_updL (Ou_f ou) (0 : Int32).toNatClampNeg r_1.toInt64)) <| fun ou_4 => some (0, cu_2, ou_4)
section
variable {p : Program} {l : Launch} {e : Env} {R : Room} {s : State} {m : MethodId} {args : Array Value} {below : List Frame} {meth : Method} {c : Code} {Q : State → Prop} {A : Nat → Prop}
set_option maxHeartbeats 4000000 in
set_option maxRecDepth 100000 in
theorem B_Law_classes {cells slots : Nat} {dC : Nat → ClassId} {dI : Nat → Nat → Nat} {cI cZ cJ : ClassId} {sd_a : Nat → Nat} {cu_a : Nat → Nat} {ou_a : Nat → Nat} {lk_w : Nat} {lk_v : Nat} {lk_wr : Nat} {lk_rd : Nat} {lk_sp : Nat} {sd : Sd} {cu : Sy} {ou : Ou} {x1 : Int32} {res : Int32 × Sy × Ou} (C0 : cxt p c m s args R cells slots R_Law c_Law_classes tb 4 (dC, dI) vwCl (TYS cI cZ cJ) A 5 116)
    (hr16 : ∀ (H : Heap) (locs : List Loc) (ls : Array Slot) (v : Int32) (cu' : Sy) (ou' : Ou), va_P (dC, dI) vwCl (wSd cI cZ cJ sd_a lk_w lk_v lk_wr lk_rd (cu_a 0) lk_sp sd ++ wSy cI cZ cJ cu_a cu' ++ wOu cI cZ cJ ou_a ou') H → va_D A (wSd cI cZ cJ sd_a lk_w lk_v lk_wr lk_rd (cu_a 0) lk_sp sd ++ wSy cI cZ cJ cu_a cu' ++ wOu cI cZ cJ ou_a ou') → va_S A s.heap H locs → some (v, cu', ou') = some res → W p l e R s m args below meth c H locs cells slots Q (F0 m 16 ls [.int v]))
    {H : Heap} {locs : List Loc} {ls : Array Slot} (hP : va_P (dC, dI) vwCl (wSd cI cZ cJ sd_a lk_w lk_v lk_wr lk_rd (cu_a 0) lk_sp sd ++ wSy cI cZ cJ cu_a cu ++ wOu cI cZ cJ ou_a ou) H) (hD : va_D A (wSd cI cZ cJ sd_a lk_w lk_v lk_wr lk_rd (cu_a 0) lk_sp sd ++ wSy cI cZ cJ cu_a cu ++ wOu cI cZ cJ ou_a ou)) (hS : va_S A s.heap H locs) (hl : lv_has ls 4 [(0, .ref (sd_a 0)), (1, .int x1), (2, .ref (ou_a 0))]) (hf : f_Law_classes sd cu ou x1 = some res) : W p l e R s m args below meth c H locs cells slots Q (F0 m 0 ls []) := by
  obtain ⟨hx, hb, hml, hown, hts, hK, hA, hRf, hRl, hN, hRc⟩ := id C0
  rw [f_Law_classes] at hf
  refine lv_aload_n hx hb d_Law_classes_0 rfl (lv_at hl 2 rfl) ?_
  refine lv_iconst (v := 0) hx hb d_Law_classes_1 (by decide) ?_
  refine lv_aload_n hx hb d_Law_classes_2 rfl (lv_at hl 0 rfl) ?_
  refine lv_iload_n hx hb d_Law_classes_3 rfl (lv_at hl 1 rfl) ?_
  obtain ⟨⟨r_1, cu_2⟩, hf1, hf⟩ := bd_ex hf
  try dsimp only at hf
  have hPc := hP.sub (ws' := (wSd cI cZ cJ sd_a lk_w lk_v lk_wr lk_rd (cu_a 0) lk_sp sd ++ wSy cI cZ cJ cu_a cu)) [0, 1, 2, 3, 4, 5, 6, 7, 8, 9, 10] rfl
  have hDc := hD.sub (ws' := (wSd cI cZ cJ sd_a lk_w lk_v lk_wr lk_rd (cu_a 0) lk_sp sd ++ wSy cI cZ cJ cu_a cu)) [0, 1, 2, 3, 4, 5, 6, 7, 8, 9, 10] (by decide) rfl
  have hFc := va_free (wc := (wSd cI cZ cJ sd_a lk_w lk_v lk_wr lk_rd (cu_a 0) lk_sp sd ++ wSy cI cZ cJ cu_a cu)) hD hS hA [0, 1, 2, 3, 4, 5, 6, 7, 8, 9, 10] rfl
  refine va_calli (va_runV (As := [.int x1]) (rest := [.int 0, .ref (ou_a 0)]) ⟨hx, hb, hml, hown, hts⟩ (k_SD_classes l dC dI cI cZ cJ sd_a cu_a lk_w lk_v lk_wr lk_rd lk_sp H.size hf1) (cwV 1 hts (gV t_797 t_798 t_799 t_54 t_800) rfl rfl rfl hd_SD_classes ⟨Nat.le_trans (Nat.le_of_ble_eq_true rfl) hRf, Nat.le_trans (Nat.le_of_ble_eq_true rfl) hRl⟩) ⟨kP_blind, va_recv hK hP (ci := 6) (q0 := 0) rfl rfl, kP_at hPc hK hDc hN⟩ rfl rfl hl.1 rfl (lv_room (Nat.le_of_ble_eq_true rfl)) d_Law_classes_4 hRc) hS (fun q _ h => hFc q h) hFc (fun r9 u t H1 locs ht hvm hw hB hz1 hk1 hS => ?_)
  rw [hw]
  obtain ⟨hP, hD⟩ := kQ_join (wr := (wOu cI cZ cJ ou_a ou)) (w1 := (wSd cI cZ cJ sd_a lk_w lk_v lk_wr lk_rd (cu_a 0) lk_sp sd ++ wSy cI cZ cJ cu_a cu_2)) hP hD [0, 1, 2, 3, 4, 5, 6, 7, 8, 9, 10] [11] rfl rfl (by decide) (by decide) ht hk1 hFc hB
  generalize H1 = H at hP hS ⊢
  have hP : va_P (dC, dI) vwCl (wSd cI cZ cJ sd_a lk_w lk_v lk_wr lk_rd (cu_a 0) lk_sp sd ++ wSy cI cZ cJ cu_a cu_2 ++ wOu cI cZ cJ ou_a ou) H := hP.sub [1, 2, 3, 4, 5, 6, 7, 8, 9, 10, 11, 0] rfl
  have hD : va_D A (wSd cI cZ cJ sd_a lk_w lk_v lk_wr lk_rd (cu_a 0) lk_sp sd ++ wSy cI cZ cJ cu_a cu_2 ++ wOu cI cZ cJ ou_a ou) := hD.sub [1, 2, 3, 4, 5, 6, 7, 8, 9, 10, 11, 0] (by decide) rfl
  refine lv_i2l (v := r_1.toInt64) hx hb d_Law_classes_7 rfl ?_
  obtain ⟨h_3, hf⟩ := gd_ex hf
  refine va_last (f := Ou_f ou) hx hb hK hP hD hS 11 2 rfl rfl (inb_in h_3) d_Law_classes_8 (fun H locs hP hD hS => ?_)
  obtain ⟨ou_4, eou_4, hf⟩ := lt_ex hf
  try dsimp only at hf
  have hP : va_P (dC, dI) vwCl (wSd cI cZ cJ sd_a lk_w lk_v lk_wr lk_rd (cu_a 0) lk_sp sd ++ wSy cI cZ cJ cu_a cu_2 ++ wOu cI cZ cJ ou_a ou_4) H := by rw [eou_4]; exact hP
  have hD : va_D A (wSd cI cZ cJ sd_a lk_w lk_v lk_wr lk_rd (cu_a 0) lk_sp sd ++ wSy cI cZ cJ cu_a cu_2 ++ wOu cI cZ cJ ou_a ou_4) := by rw [eou_4]; exact hD
  refine lv_goto (tgt := 15) hx hb d_Law_classes_9 (by decide) ?_
  refine lv_iconst (v := 0) hx hb d_Law_classes_15 (by decide) ?_
  exact hr16 _ _ _ 0 cu_2 ou_4 hP hD hS hf
end
set_option maxHeartbeats 4000000 in
set_option maxRecDepth 100000 in
theorem k_Law_classes (l : Launch) (dC : Nat → ClassId) (dI : Nat → Nat → Nat) (cI cZ cJ : ClassId) (sd_a : Nat → Nat) (cu_a : Nat → Nat) (ou_a : Nat → Nat) (lk_w : Nat) (lk_v : Nat) (lk_wr : Nat) (lk_rd : Nat) (lk_sp : Nat) (sz : Nat) {sd : Sd} {cu : Sy} {ou : Ou} {x1 : Int32} {r : Int32} {cu' : Sy} {ou' : Ou} (hf : f_Law_classes sd cu ou x1 = some (r, cu', ou')) :
    Met l y_Law_classes ws_Law_classes ({ frames := 5, cells := 0, slots := 0, locals := 116 }) (va_Pc [.ref (sd_a 0), .int x1, .ref (ou_a 0)] (kP (dC, dI) vwCl (TYS cI cZ cJ) (wSd cI cZ cJ sd_a lk_w lk_v lk_wr lk_rd (cu_a 0) lk_sp sd ++ wSy cI cZ cJ cu_a cu ++ wOu cI cZ cJ ou_a ou) sz)) (va_Qi (fun (q : Int32) (_ : Unit) => q = r) (fun _ t => kQ (dC, dI) vwCl (TYS cI cZ cJ) (wSd cI cZ cJ sd_a lk_w lk_v lk_wr lk_rd (cu_a 0) lk_sp sd ++ wSy cI cZ cJ cu_a cu ++ wOu cI cZ cJ ou_a ou) sz (wSd cI cZ cJ sd_a lk_w lk_v lk_wr lk_rd (cu_a 0) lk_sp sd ++ wSy cI cZ cJ cu_a cu' ++ wOu cI cZ cJ ou_a ou') t) (va_A (wSd cI cZ cJ sd_a lk_w lk_v lk_wr lk_rd (cu_a 0) lk_sp sd ++ wSy cI cZ cJ cu_a cu ++ wOu cI cZ cJ ou_a ou) sz)) 0 0 (va_A (wSd cI cZ cJ sd_a lk_w lk_v lk_wr lk_rd (cu_a 0) lk_sp sd ++ wSy cI cZ cJ cu_a cu ++ wOu cI cZ cJ ou_a ou) sz) := by
  refine va_MetW (hh := [((0), (9), (12), (13))]) (cc := c_Law_classes) (maxL := 4) (ret := (some .int)) (by decide) rfl ?_
  intro p e s m args below meth c s₁ B hml hv
  obtain ⟨rfl, hsz, hP, hK, hD0, hN⟩ := hv
  have hr := B.returns
  have hlocks := B.notSynchronized
  subst hsz
  have hD := hD0.self (sz := s.heap.size)
  have hl := lv_entry ([.ref (sd_a 0), .int x1, .ref (ou_a 0)]) (n := 4) (Nat.le_of_ble_eq_true rfl)
  rw [lg_entry_eq]
  generalize (lg_sl ([.ref (sd_a 0), .int x1, .ref (ou_a 0)]) ++ List.replicate (4 - (lg_sl ([.ref (sd_a 0), .int x1, .ref (ou_a 0)])).length) Slot.unset).toArray = ls at hl ⊢
  refine B_Law_classes (A := va_A (wSd cI cZ cJ sd_a lk_w lk_v lk_wr lk_rd (cu_a 0) lk_sp sd ++ wSy cI cZ cJ cu_a cu ++ wOu cI cZ cJ ou_a ou) s.heap.size) ⟨B.exec, B.bytes, hml, findClass_of_methodNamed B.named, fun w h => atoms_spec (ws := ws_Law_classes) B.pre w (List.mem_cons_of_mem _ h), hK, fun q h => Or.inr h, Nat.le_of_ble_eq_true rfl, Nat.le_of_ble_eq_true rfl, hN, Nat.le_of_ble_eq_true rfl, Nat.le_of_ble_eq_true rfl⟩ (fun H locs ls v cu'1 ou'1 hP hD hS hf => ?_) hP hD va_S.rf hl hf
  · cases hf
    exact W.iret B.exec B.bytes hr (fun t ht hW => ⟨⟨_, (), rfl, rfl, ⟨by rw [ht]; exact hP, va_K.moved hW.alike hK, hD⟩⟩, hS.F ht⟩) hS.2.2 d_Law_classes_16

/-! Law_cls -/
def f_Law_cls (sd : Sd) (cu : Sy) (ou : Ou) (x1 : Int32) : Option (Int32 × Ou) := bd (f_SD_cls sd cu x1) <| fun r_1 => gd (inb 0 1) <| lt' (Ou_s_f ou (vp_updL (Ou_f ou) (0 : Int32).toNatClampNeg r_1.toInt64)) <| fun ou_3 => some (0, ou_3)
section
variable {p : Program} {l : Launch} {e : Env} {R : Room} {s : State} {m : MethodId} {args : Array Value} {below : List Frame} {meth : Method} {c : Code} {Q : State → Prop} {A : Nat → Prop}
set_option maxHeartbeats 4000000 in
set_option maxRecDepth 100000 in
theorem B_Law_cls {cells slots : Nat} {dC : Nat → ClassId} {dI : Nat → Nat → Nat} {cI cZ cJ : ClassId} {sd_a : Nat → Nat} {cu_a : Nat → Nat} {ou_a : Nat → Nat} {lk_w : Nat} {lk_v : Nat} {lk_wr : Nat} {lk_rd : Nat} {lk_sp : Nat} {sd : Sd} {cu : Sy} {ou : Ou} {x1 : Int32} {res : Int32 × Ou} (C0 : cxt p c m s args R cells slots R_Law c_Law_cls tb 4 (dC, dI) vwCl (TYS cI cZ cJ) A 2 42)
    (hr16 : ∀ (H : Heap) (locs : List Loc) (ls : Array Slot) (v : Int32) (ou' : Ou), va_P (dC, dI) vwCl (wSd cI cZ cJ sd_a lk_w lk_v lk_wr lk_rd (cu_a 0) lk_sp sd ++ wSy cI cZ cJ cu_a cu ++ wOu cI cZ cJ ou_a ou') H → va_D A (wSd cI cZ cJ sd_a lk_w lk_v lk_wr lk_rd (cu_a 0) lk_sp sd ++ wSy cI cZ cJ cu_a cu ++ wOu cI cZ cJ ou_a ou') → va_S A s.heap H locs → some (v, ou') = some res → W p l e R s m args below meth c H locs cells slots Q (F0 m 16 ls [.int v]))
    {H : Heap} {locs : List Loc} {ls : Array Slot} (hP : va_P (dC, dI) vwCl (wSd cI cZ cJ sd_a lk_w lk_v lk_wr lk_rd (cu_a 0) lk_sp sd ++ wSy cI cZ cJ cu_a cu ++ wOu cI cZ cJ ou_a ou) H) (hD : va_D A (wSd cI cZ cJ sd_a lk_w lk_v lk_wr lk_rd (cu_a 0) lk_sp sd ++ wSy cI cZ cJ cu_a cu ++ wOu cI cZ cJ ou_a ou)) (hS : va_S A s.heap H locs) (hl : lv_has ls 4 [(0, .ref (sd_a 0)), (1, .int x1), (2, .ref (ou_a 0))]) (hf : f_Law_cls sd cu ou x1 = some res) : W p l e R s m args below meth c H locs cells slots Q (F0 m 0 ls []) := by
  obtain ⟨hx, hb, hml, hown, hts, hK, hA, hRf, hRl, hN, hRc⟩ := id C0
  rw [f_Law_cls] at hf
  refine lv_aload_n hx hb d_Law_cls_0 rfl (lv_at hl 2 rfl) ?_
  refine lv_iconst (v := 0) hx hb d_Law_cls_1 (by decide) ?_
  refine lv_aload_n hx hb d_Law_cls_2 rfl (lv_at hl 0 rfl) ?_
  refine lv_iload_n hx hb d_Law_cls_3 rfl (lv_at hl 1 rfl) ?_
  obtain ⟨r_1, hf1, hf⟩ := bd_ex hf
  try dsimp only at hf
  have hPc := hP.sub (ws' := (wSd cI cZ cJ sd_a lk_w lk_v lk_wr lk_rd (cu_a 0) lk_sp sd ++ wSy cI cZ cJ cu_a cu)) [0, 1, 2, 3, 4, 5, 6, 7, 8, 9, 10] rfl
  have hDc := hD.sub (ws' := (wSd cI cZ cJ sd_a lk_w lk_v lk_wr lk_rd (cu_a 0) lk_sp sd ++ wSy cI cZ cJ cu_a cu)) [0, 1, 2, 3, 4, 5, 6, 7, 8, 9, 10] (by decide) rfl
  have hFc := va_free (wc := (wSd cI cZ cJ sd_a lk_w lk_v lk_wr lk_rd (cu_a 0) lk_sp sd ++ wSy cI cZ cJ cu_a cu)) hD hS hA [0, 1, 2, 3, 4, 5, 6, 7, 8, 9, 10] rfl
  refine va_calli (va_runV (As := [.int x1]) (rest := [.int 0, .ref (ou_a 0)]) ⟨hx, hb, hml, hown, hts⟩ (k_SD_cls l dC dI cI cZ cJ sd_a cu_a lk_w lk_v lk_wr lk_rd lk_sp H.size hf1) (cwV 1 hts (gV t_814 t_815 t_816 t_54 t_817) rfl rfl rfl hd_SD_cls ⟨Nat.le_trans (Nat.le_of_ble_eq_true rfl) hRf, Nat.le_trans (Nat.le_of_ble_eq_true rfl) hRl⟩) ⟨kP_blind, va_recv hK hP (ci := 6) (q0 := 0) rfl rfl, kP_at hPc hK hDc hN⟩ rfl rfl hl.1 rfl (lv_room (Nat.le_of_ble_eq_true rfl)) d_Law_cls_4 hRc) hS (fun q _ h => hFc q h) hFc (fun r9 u t H1 locs ht hvm hw hB hz1 hk1 hS => ?_)
  rw [hw]
  obtain ⟨hP, hD⟩ := kQ_join (wr := (wOu cI cZ cJ ou_a ou)) (w1 := (wSd cI cZ cJ sd_a lk_w lk_v lk_wr lk_rd (cu_a 0) lk_sp sd ++ wSy cI cZ cJ cu_a cu)) hP hD [0, 1, 2, 3, 4, 5, 6, 7, 8, 9, 10] [11] rfl rfl (by decide) (by decide) ht hk1 hFc hB
  generalize H1 = H at hP hS ⊢
  have hP : va_P (dC, dI) vwCl (wSd cI cZ cJ sd_a lk_w lk_v lk_wr lk_rd (cu_a 0) lk_sp sd ++ wSy cI cZ cJ cu_a cu ++ wOu cI cZ cJ ou_a ou) H := hP.sub [1, 2, 3, 4, 5, 6, 7, 8, 9, 10, 11, 0] rfl
  have hD : va_D A (wSd cI cZ cJ sd_a lk_w lk_v lk_wr lk_rd (cu_a 0) lk_sp sd ++ wSy cI cZ cJ cu_a cu ++ wOu cI cZ cJ ou_a ou) := hD.sub [1, 2, 3, 4, 5, 6, 7, 8, 9, 10, 11, 0] (by decide) rfl
  refine lv_i2l (v := r_1.toInt64) hx hb d_Law_cls_7 rfl ?_
  obtain ⟨h_2, hf⟩ := gd_ex hf
  refine va_last (f := Ou_f ou) hx hb hK hP hD hS 11 2 rfl rfl (inb_in h_2) d_Law_cls_8 (fun H locs hP hD hS => ?_)
  obtain ⟨ou_3, eou_3, hf⟩ := lt_ex hf
  try dsimp only at hf
  have hP : va_P (dC, dI) vwCl (wSd cI cZ cJ sd_a lk_w lk_v lk_wr lk_rd (cu_a 0) lk_sp sd ++ wSy cI cZ cJ cu_a cu ++ wOu cI cZ cJ ou_a ou_3) H := by rw [eou_3]; exact hP
  have hD : va_D A (wSd cI cZ cJ sd_a lk_w lk_v lk_wr lk_rd (cu_a 0) lk_sp sd ++ wSy cI cZ cJ cu_a cu ++ wOu cI cZ cJ ou_a ou_3) := by rw [eou_3]; exact hD
  refine lv_goto (tgt := 15) hx hb d_Law_cls_9 (by decide) ?_
  refine lv_iconst (v := 0) hx hb d_Law_cls_15 (by decide) ?_
  exact hr16 _ _ _ 0 ou_3 hP hD hS hf
end
set_option maxHeartbeats 4000000 in
set_option maxRecDepth 100000 in
theorem k_Law_cls (l : Launch) (dC : Nat → ClassId) (dI : Nat → Nat → Nat) (cI cZ cJ : ClassId) (sd_a : Nat → Nat) (cu_a : Nat → Nat) (ou_a : Nat → Nat) (lk_w : Nat) (lk_v : Nat) (lk_wr : Nat) (lk_rd : Nat) (lk_sp : Nat) (sz : Nat) {sd : Sd} {cu : Sy} {ou : Ou} {x1 : Int32} {r : Int32} {ou' : Ou} (hf : f_Law_cls sd cu ou x1 = some (r, ou')) :
    Met l y_Law_cls ws_Law_cls ({ frames := 2, cells := 0, slots := 0, locals := 42 }) (va_Pc [.ref (sd_a 0), .int x1, .ref (ou_a 0)] (kP (dC, dI) vwCl (TYS cI cZ cJ) (wSd cI cZ cJ sd_a lk_w lk_v lk_wr lk_rd (cu_a 0) lk_sp sd ++ wSy cI cZ cJ cu_a cu ++ wOu cI cZ cJ ou_a ou) sz)) (va_Qi (fun (q : Int32) (_ : Unit) => q = r) (fun _ t => kQ (dC, dI) vwCl (TYS cI cZ cJ) (wSd cI cZ cJ sd_a lk_w lk_v lk_wr lk_rd (cu_a 0) lk_sp sd ++ wSy cI cZ cJ cu_a cu ++ wOu cI cZ cJ ou_a ou) sz (wSd cI cZ cJ sd_a lk_w lk_v lk_wr lk_rd (cu_a 0) lk_sp sd ++ wSy cI cZ cJ cu_a cu ++ wOu cI cZ cJ ou_a ou') t) (va_A (wSd cI cZ cJ sd_a lk_w lk_v lk_wr lk_rd (cu_a 0) lk_sp sd ++ wSy cI cZ cJ cu_a cu ++ wOu cI cZ cJ ou_a ou) sz)) 0 0 (va_A (wSd cI cZ cJ sd_a lk_w lk_v lk_wr lk_rd (cu_a 0) lk_sp sd ++ wSy cI cZ cJ cu_a cu ++ wOu cI cZ cJ ou_a ou) sz) := by
  refine va_MetW (hh := [((0), (9), (12), (21))]) (cc := c_Law_cls) (maxL := 4) (ret := (some .int)) (by decide) rfl ?_
  intro p e s m args below meth c s₁ B hml hv
  obtain ⟨rfl, hsz, hP, hK, hD0, hN⟩ := hv
  have hr := B.returns
  have hlocks := B.notSynchronized
  subst hsz
  have hD := hD0.self (sz := s.heap.size)
  have hl := lv_entry ([.ref (sd_a 0), .int x1, .ref (ou_a 0)]) (n := 4) (Nat.le_of_ble_eq_true rfl)
  rw [lg_entry_eq]
  generalize (lg_sl ([.ref (sd_a 0), .int x1, .ref (ou_a 0)]) ++ List.replicate (4 - (lg_sl ([.ref (sd_a 0), .int x1, .ref (ou_a 0)])).length) Slot.unset).toArray = ls at hl ⊢
  refine B_Law_cls (A := va_A (wSd cI cZ cJ sd_a lk_w lk_v lk_wr lk_rd (cu_a 0) lk_sp sd ++ wSy cI cZ cJ cu_a cu ++ wOu cI cZ cJ ou_a ou) s.heap.size) ⟨B.exec, B.bytes, hml, findClass_of_methodNamed B.named, fun w h => atoms_spec (ws := ws_Law_cls) B.pre w (List.mem_cons_of_mem _ h), hK, fun q h => Or.inr h, Nat.le_of_ble_eq_true rfl, Nat.le_of_ble_eq_true rfl, hN, Nat.le_of_ble_eq_true rfl, Nat.le_of_ble_eq_true rfl⟩ (fun H locs ls v ou'1 hP hD hS hf => ?_) hP hD va_S.rf hl hf
  · cases hf
    exact W.iret B.exec B.bytes hr (fun t ht hW => ⟨⟨_, (), rfl, rfl, ⟨by rw [ht]; exact hP, va_K.moved hW.alike hK, hD⟩⟩, hS.F ht⟩) hS.2.2 d_Law_cls_16

