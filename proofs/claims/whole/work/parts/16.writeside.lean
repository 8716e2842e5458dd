/-! rows that grow: how many cells and slots were made, by the row's length -/
def gok (R : Room) (l0 L cells slots : Nat) : Prop := l0 ≤ L ∧ cells ≤ L - l0 ∧ slots ≤ 2 * (L - l0) ∧ cells ≤ R.cells ∧ slots ≤ R.slots
def gR (l0 LF : Nat) (R : Room) : Prop := LF - l0 ≤ R.cells ∧ 2 * (LF - l0) ≤ R.slots
theorem mle_use {ρ : Type} {o : Option ρ} {r : ρ} {b : Nat} {π : ρ → Nat} (hf : o = some r) (h : mle o b π) : b ≤ π r := h r hf
theorem g_room {R : Room} {l0 L0 L1 LF cells slots : Nat} (hg : gok R l0 L0 cells slots) (h0 : L0 ≤ L1) (h1 : L1 ≤ LF) (hR : gR l0 LF R) : cells + (L1 - L0) ≤ R.cells ∧ slots + 2 * (L1 - L0) ≤ R.slots := by
  obtain ⟨a1, a2, a3, a4, a5⟩ := hg
  obtain ⟨b1, b2⟩ := hR
  constructor <;> omega
theorem g_step {R : Room} {l0 L0 L1 LF cells slots : Nat} (hg : gok R l0 L0 cells slots) (h0 : L0 ≤ L1) (h1 : L1 ≤ LF) (hR : gR l0 LF R) : gok R l0 L1 (cells + (L1 - L0)) (slots + 2 * (L1 - L0)) := by
  obtain ⟨a1, a2, a3, a4, a5⟩ := hg
  obtain ⟨b1, b2⟩ := hR
  refine ⟨?_, ?_, ?_, ?_, ?_⟩ <;> omega
theorem eq_ByteRow_removeAll {br br1 : Br} (h : f_ByteRow_removeAll br = some br1) : Br_byL br1 = Br_byL br := by
  rw [f_ByteRow_removeAll] at h
  obtain ⟨b1, e1, h⟩ := lt_ex h
  obtain ⟨b2, e2, h⟩ := lt_ex h
  cases h
  rw [e2, e1]
theorem mo_ByteRow_removeAll {br : Br} : mle (f_ByteRow_removeAll br) (Br_byL br) Br_byL := fun r hr => Nat.le_of_eq (eq_ByteRow_removeAll hr).symm
theorem t_123 : (.fieldLink R_PlainBits 7 "SymbolDictionaries$PlainBits" "written" "LSymbolDictionaries$ByteRow;" : Cond) ∈ tb := List.mem_filter.mpr ⟨List.mem_of_getElem? (i := 123) (by decide +kernel), by decide +kernel⟩
theorem t_124 : (.sameField R_PlainBits R_Bits "written" "LSymbolDictionaries$ByteRow;" : Cond) ∈ tb := List.mem_filter.mpr ⟨List.mem_of_getElem? (i := 124) (by decide +kernel), by decide +kernel⟩
theorem t_318 : (.methodLink R_PlainBits 13 y_ByteRow_removeAll : Cond) ∈ tb := List.mem_filter.mpr ⟨List.mem_of_getElem? (i := 318) (by decide +kernel), by decide +kernel⟩
theorem t_303 : (.instanceMethod y_ByteRow_removeAll : Cond) ∈ tb := List.mem_filter.mpr ⟨List.mem_of_getElem? (i := 303) (by decide +kernel), by decide +kernel⟩
theorem t_304 : (.selects R_ByteRow y_ByteRow_removeAll y_ByteRow_removeAll : Cond) ∈ tb := List.mem_filter.mpr ⟨List.mem_of_getElem? (i := 304) (by decide +kernel), by decide +kernel⟩
theorem t_305 : (.code y_ByteRow_removeAll c_ByteRow_removeAll 1 none : Cond) ∈ tb := List.mem_filter.mpr ⟨List.mem_of_getElem? (i := 305) (by decide +kernel), by decide +kernel⟩
theorem t_380 : (.methodLink R_PlainBits 26 y_ByteRow_add : Cond) ∈ tb := List.mem_filter.mpr ⟨List.mem_of_getElem? (i := 380) (by decide +kernel), by decide +kernel⟩
theorem t_354 : (.instanceMethod y_ByteRow_add : Cond) ∈ tb := List.mem_filter.mpr ⟨List.mem_of_getElem? (i := 354) (by decide +kernel), by decide +kernel⟩
theorem t_355 : (.selects R_ByteRow y_ByteRow_add y_ByteRow_add : Cond) ∈ tb := List.mem_filter.mpr ⟨List.mem_of_getElem? (i := 355) (by decide +kernel), by decide +kernel⟩
theorem t_356 : (.code y_ByteRow_add c_ByteRow_add 2 none : Cond) ∈ tb := List.mem_filter.mpr ⟨List.mem_of_getElem? (i := 356) (by decide +kernel), by decide +kernel⟩
theorem t_121 : (.fieldLink R_ChanceBits 15 "SymbolDictionaries$ChanceBits" "written" "LSymbolDictionaries$ByteRow;" : Cond) ∈ tb := List.mem_filter.mpr ⟨List.mem_of_getElem? (i := 121) (by decide +kernel), by decide +kernel⟩
theorem t_122 : (.sameField R_ChanceBits R_Bits "written" "LSymbolDictionaries$ByteRow;" : Cond) ∈ tb := List.mem_filter.mpr ⟨List.mem_of_getElem? (i := 122) (by decide +kernel), by decide +kernel⟩
theorem t_302 : (.methodLink R_ChanceBits 19 y_ByteRow_removeAll : Cond) ∈ tb := List.mem_filter.mpr ⟨List.mem_of_getElem? (i := 302) (by decide +kernel), by decide +kernel⟩
theorem t_353 : (.methodLink R_ChanceBits 44 y_ByteRow_add : Cond) ∈ tb := List.mem_filter.mpr ⟨List.mem_of_getElem? (i := 353) (by decide +kernel), by decide +kernel⟩
theorem t_377 : (.selects R_PlainBits y_Bits_putBit y_PlainBits_putBit : Cond) ∈ tb := List.mem_filter.mpr ⟨List.mem_of_getElem? (i := 377) (by decide +kernel), by decide +kernel⟩
theorem t_331 : (.methodLink R_Bits 22 y_Bits_putBit : Cond) ∈ tb := List.mem_filter.mpr ⟨List.mem_of_getElem? (i := 331) (by decide +kernel), by decide +kernel⟩
theorem t_333 : (.sameMethod R_Bits R_Bits "putBit" "(II)V" : Cond) ∈ tb := List.mem_filter.mpr ⟨List.mem_of_getElem? (i := 333) (by decide +kernel), by decide +kernel⟩
theorem t_378 : (.instanceMethod y_PlainBits_putBit : Cond) ∈ tb := List.mem_filter.mpr ⟨List.mem_of_getElem? (i := 378) (by decide +kernel), by decide +kernel⟩
theorem t_379 : (.code y_PlainBits_putBit c_PlainBits_putBit 3 none : Cond) ∈ tb := List.mem_filter.mpr ⟨List.mem_of_getElem? (i := 379) (by decide +kernel), by decide +kernel⟩
theorem t_329 : (.selects R_PlainBits y_Bits_putBits y_Bits_putBits : Cond) ∈ tb := List.mem_filter.mpr ⟨List.mem_of_getElem? (i := 329) (by decide +kernel), by decide +kernel⟩
theorem t_325 : (.methodLink R_Bits 18 y_Bits_putBits : Cond) ∈ tb := List.mem_filter.mpr ⟨List.mem_of_getElem? (i := 325) (by decide +kernel), by decide +kernel⟩
theorem t_327 : (.sameMethod R_Bits R_Bits "putBits" "(II)V" : Cond) ∈ tb := List.mem_filter.mpr ⟨List.mem_of_getElem? (i := 327) (by decide +kernel), by decide +kernel⟩
theorem t_326 : (.instanceMethod y_Bits_putBits : Cond) ∈ tb := List.mem_filter.mpr ⟨List.mem_of_getElem? (i := 326) (by decide +kernel), by decide +kernel⟩
theorem t_330 : (.code y_Bits_putBits c_Bits_putBits 4 none : Cond) ∈ tb := List.mem_filter.mpr ⟨List.mem_of_getElem? (i := 330) (by decide +kernel), by decide +kernel⟩
theorem t_334 : (.selects R_ChanceBits y_Bits_putBit y_ChanceBits_putBit : Cond) ∈ tb := List.mem_filter.mpr ⟨List.mem_of_getElem? (i := 334) (by decide +kernel), by decide +kernel⟩
theorem t_335 : (.instanceMethod y_ChanceBits_putBit : Cond) ∈ tb := List.mem_filter.mpr ⟨List.mem_of_getElem? (i := 335) (by decide +kernel), by decide +kernel⟩
theorem t_336 : (.code y_ChanceBits_putBit c_ChanceBits_putBit 4 none : Cond) ∈ tb := List.mem_filter.mpr ⟨List.mem_of_getElem? (i := 336) (by decide +kernel), by decide +kernel⟩
theorem t_328 : (.selects R_ChanceBits y_Bits_putBits y_Bits_putBits : Cond) ∈ tb := List.mem_filter.mpr ⟨List.mem_of_getElem? (i := 328) (by decide +kernel), by decide +kernel⟩
abbrev ws_PlainBits_startWriting : List Cond := .code y_PlainBits_startWriting c_PlainBits_startWriting 1 none :: tb
theorem hd_PlainBits_startWriting : y_PlainBits_startWriting.cls = R_PlainBits ∧ y_PlainBits_startWriting.cls ≠ "java/lang/invoke/MethodHandle" ∧ y_PlainBits_startWriting.cls ≠ "java/lang/invoke/VarHandle" ∧ (parseMethodDescriptor y_PlainBits_startWriting.desc).map (fun d => d.parameters.length) = some 0 := by decide +kernel
theorem d_PlainBits_startWriting_0 : decode c_PlainBits_startWriting 0 = .ok (.aload_n 0, 1) := by decide +kernel
theorem d_PlainBits_startWriting_1 : decode c_PlainBits_startWriting 1 = .ok (.getfield 7, 3) := by decide +kernel
theorem d_PlainBits_startWriting_4 : decode c_PlainBits_startWriting 4 = .ok (.invokevirtual 13, 3) := by decide +kernel
theorem d_PlainBits_startWriting_7 : decode c_PlainBits_startWriting 7 = .ok (.aload_n 0, 1) := by decide +kernel
theorem d_PlainBits_startWriting_8 : decode c_PlainBits_startWriting 8 = .ok (.iconst 0, 1) := by decide +kernel
theorem d_PlainBits_startWriting_9 : decode c_PlainBits_startWriting 9 = .ok (.putfield 19, 3) := by decide +kernel
theorem d_PlainBits_startWriting_12 : decode c_PlainBits_startWriting 12 = .ok (.aload_n 0, 1) := by decide +kernel
theorem d_PlainBits_startWriting_13 : decode c_PlainBits_startWriting 13 = .ok (.iconst 0, 1) := by decide +kernel
theorem d_PlainBits_startWriting_14 : decode c_PlainBits_startWriting 14 = .ok (.putfield 23, 3) := by decide +kernel
theorem d_PlainBits_startWriting_17 : decode c_PlainBits_startWriting 17 = .ok (.return_, 1) := by decide +kernel
abbrev ws_PlainBits_putBit : List Cond := .code y_PlainBits_putBit c_PlainBits_putBit 3 none :: tb
theorem hd_PlainBits_putBit : y_PlainBits_putBit.cls = R_PlainBits ∧ y_PlainBits_putBit.cls ≠ "java/lang/invoke/MethodHandle" ∧ y_PlainBits_putBit.cls ≠ "java/lang/invoke/VarHandle" ∧ (parseMethodDescriptor y_PlainBits_putBit.desc).map (fun d => d.parameters.length) = some 2 := by decide +kernel
theorem d_PlainBits_putBit_0 : decode c_PlainBits_putBit 0 = .ok (.aload_n 0, 1) := by decide +kernel
theorem d_PlainBits_putBit_1 : decode c_PlainBits_putBit 1 = .ok (.aload_n 0, 1) := by decide +kernel
theorem d_PlainBits_putBit_2 : decode c_PlainBits_putBit 2 = .ok (.getfield 19, 3) := by decide +kernel
theorem d_PlainBits_putBit_5 : decode c_PlainBits_putBit 5 = .ok (.iconst 1, 1) := by decide +kernel
theorem d_PlainBits_putBit_6 : decode c_PlainBits_putBit 6 = .ok (.ishl, 1) := by decide +kernel
theorem d_PlainBits_putBit_7 : decode c_PlainBits_putBit 7 = .ok (.iload_n 1, 1) := by decide +kernel
theorem d_PlainBits_putBit_8 : decode c_PlainBits_putBit 8 = .ok (.ior, 1) := by decide +kernel
theorem d_PlainBits_putBit_9 : decode c_PlainBits_putBit 9 = .ok (.putfield 19, 3) := by decide +kernel
theorem d_PlainBits_putBit_12 : decode c_PlainBits_putBit 12 = .ok (.aload_n 0, 1) := by decide +kernel
theorem d_PlainBits_putBit_13 : decode c_PlainBits_putBit 13 = .ok (.dup, 1) := by decide +kernel
theorem d_PlainBits_putBit_14 : decode c_PlainBits_putBit 14 = .ok (.getfield 23, 3) := by decide +kernel
theorem d_PlainBits_putBit_17 : decode c_PlainBits_putBit 17 = .ok (.iconst 1, 1) := by decide +kernel
theorem d_PlainBits_putBit_18 : decode c_PlainBits_putBit 18 = .ok (.iadd, 1) := by decide +kernel
theorem d_PlainBits_putBit_19 : decode c_PlainBits_putBit 19 = .ok (.putfield 23, 3) := by decide +kernel
theorem d_PlainBits_putBit_22 : decode c_PlainBits_putBit 22 = .ok (.aload_n 0, 1) := by decide +kernel
theorem d_PlainBits_putBit_23 : decode c_PlainBits_putBit 23 = .ok (.getfield 23, 3) := by decide +kernel
theorem d_PlainBits_putBit_26 : decode c_PlainBits_putBit 26 = .ok (.bipush 8, 2) := by decide +kernel
theorem d_PlainBits_putBit_28 : decode c_PlainBits_putBit 28 = .ok (.if_icmp .ne 24, 3) := by decide +kernel
theorem d_PlainBits_putBit_31 : decode c_PlainBits_putBit 31 = .ok (.aload_n 0, 1) := by decide +kernel
theorem d_PlainBits_putBit_32 : decode c_PlainBits_putBit 32 = .ok (.getfield 7, 3) := by decide +kernel
theorem d_PlainBits_putBit_35 : decode c_PlainBits_putBit 35 = .ok (.aload_n 0, 1) := by decide +kernel
theorem d_PlainBits_putBit_36 : decode c_PlainBits_putBit 36 = .ok (.getfield 19, 3) := by decide +kernel
theorem d_PlainBits_putBit_39 : decode c_PlainBits_putBit 39 = .ok (.invokevirtual 26, 3) := by decide +kernel
theorem d_PlainBits_putBit_42 : decode c_PlainBits_putBit 42 = .ok (.aload_n 0, 1) := by decide +kernel
theorem d_PlainBits_putBit_43 : decode c_PlainBits_putBit 43 = .ok (.iconst 0, 1) := by decide +kernel
theorem d_PlainBits_putBit_44 : decode c_PlainBits_putBit 44 = .ok (.putfield 19, 3) := by decide +kernel
theorem d_PlainBits_putBit_47 : decode c_PlainBits_putBit 47 = .ok (.aload_n 0, 1) := by decide +kernel
theorem d_PlainBits_putBit_48 : decode c_PlainBits_putBit 48 = .ok (.iconst 0, 1) := by decide +kernel
theorem d_PlainBits_putBit_49 : decode c_PlainBits_putBit 49 = .ok (.putfield 23, 3) := by decide +kernel
theorem d_PlainBits_putBit_52 : decode c_PlainBits_putBit 52 = .ok (.return_, 1) := by decide +kernel
abbrev ws_PlainBits_finishWriting : List Cond := .code y_PlainBits_finishWriting c_PlainBits_finishWriting 1 none :: tb
theorem hd_PlainBits_finishWriting : y_PlainBits_finishWriting.cls = R_PlainBits ∧ y_PlainBits_finishWriting.cls ≠ "java/lang/invoke/MethodHandle" ∧ y_PlainBits_finishWriting.cls ≠ "java/lang/invoke/VarHandle" ∧ (parseMethodDescriptor y_PlainBits_finishWriting.desc).map (fun d => d.parameters.length) = some 0 := by decide +kernel
theorem d_PlainBits_finishWriting_0 : decode c_PlainBits_finishWriting 0 = .ok (.aload_n 0, 1) := by decide +kernel
theorem d_PlainBits_finishWriting_1 : decode c_PlainBits_finishWriting 1 = .ok (.getfield 23, 3) := by decide +kernel
theorem d_PlainBits_finishWriting_4 : decode c_PlainBits_finishWriting 4 = .ok (.ifCond .le 22, 3) := by decide +kernel
theorem d_PlainBits_finishWriting_7 : decode c_PlainBits_finishWriting 7 = .ok (.aload_n 0, 1) := by decide +kernel
theorem d_PlainBits_finishWriting_8 : decode c_PlainBits_finishWriting 8 = .ok (.getfield 7, 3) := by decide +kernel
theorem d_PlainBits_finishWriting_11 : decode c_PlainBits_finishWriting 11 = .ok (.aload_n 0, 1) := by decide +kernel
theorem d_PlainBits_finishWriting_12 : decode c_PlainBits_finishWriting 12 = .ok (.getfield 19, 3) := by decide +kernel
theorem d_PlainBits_finishWriting_15 : decode c_PlainBits_finishWriting 15 = .ok (.bipush 8, 2) := by decide +kernel
theorem d_PlainBits_finishWriting_17 : decode c_PlainBits_finishWriting 17 = .ok (.aload_n 0, 1) := by decide +kernel
theorem d_PlainBits_finishWriting_18 : decode c_PlainBits_finishWriting 18 = .ok (.getfield 23, 3) := by decide +kernel
theorem d_PlainBits_finishWriting_21 : decode c_PlainBits_finishWriting 21 = .ok (.isub, 1) := by decide +kernel
theorem d_PlainBits_finishWriting_22 : decode c_PlainBits_finishWriting 22 = .ok (.ishl, 1) := by decide +kernel
theorem d_PlainBits_finishWriting_23 : decode c_PlainBits_finishWriting 23 = .ok (.invokevirtual 26, 3) := by decide +kernel
theorem d_PlainBits_finishWriting_26 : decode c_PlainBits_finishWriting 26 = .ok (.return_, 1) := by decide +kernel
abbrev ws_ChanceBits_startWriting : List Cond := .code y_ChanceBits_startWriting c_ChanceBits_startWriting 1 none :: tb
theorem hd_ChanceBits_startWriting : y_ChanceBits_startWriting.cls = R_ChanceBits ∧ y_ChanceBits_startWriting.cls ≠ "java/lang/invoke/MethodHandle" ∧ y_ChanceBits_startWriting.cls ≠ "java/lang/invoke/VarHandle" ∧ (parseMethodDescriptor y_ChanceBits_startWriting.desc).map (fun d => d.parameters.length) = some 0 := by decide +kernel
theorem d_ChanceBits_startWriting_0 : decode c_ChanceBits_startWriting 0 = .ok (.aload_n 0, 1) := by decide +kernel
theorem d_ChanceBits_startWriting_1 : decode c_ChanceBits_startWriting 1 = .ok (.getfield 15, 3) := by decide +kernel
theorem d_ChanceBits_startWriting_4 : decode c_ChanceBits_startWriting 4 = .ok (.invokevirtual 19, 3) := by decide +kernel
theorem d_ChanceBits_startWriting_7 : decode c_ChanceBits_startWriting 7 = .ok (.aload_n 0, 1) := by decide +kernel
theorem d_ChanceBits_startWriting_8 : decode c_ChanceBits_startWriting 8 = .ok (.invokevirtual 25, 3) := by decide +kernel
theorem d_ChanceBits_startWriting_11 : decode c_ChanceBits_startWriting 11 = .ok (.return_, 1) := by decide +kernel
abbrev ws_ChanceBits_putBit : List Cond := .code y_ChanceBits_putBit c_ChanceBits_putBit 4 none :: tb
theorem hd_ChanceBits_putBit : y_ChanceBits_putBit.cls = R_ChanceBits ∧ y_ChanceBits_putBit.cls ≠ "java/lang/invoke/MethodHandle" ∧ y_ChanceBits_putBit.cls ≠ "java/lang/invoke/VarHandle" ∧ (parseMethodDescriptor y_ChanceBits_putBit.desc).map (fun d => d.parameters.length) = some 2 := by decide +kernel
theorem d_ChanceBits_putBit_0 : decode c_ChanceBits_putBit 0 = .ok (.aload_n 0, 1) := by decide +kernel
theorem d_ChanceBits_putBit_1 : decode c_ChanceBits_putBit 1 = .ok (.iload_n 1, 1) := by decide +kernel
theorem d_ChanceBits_putBit_2 : decode c_ChanceBits_putBit 2 = .ok (.aload_n 0, 1) := by decide +kernel
theorem d_ChanceBits_putBit_3 : decode c_ChanceBits_putBit 3 = .ok (.iload_n 2, 1) := by decide +kernel
theorem d_ChanceBits_putBit_4 : decode c_ChanceBits_putBit 4 = .ok (.invokevirtual 28, 3) := by decide +kernel
theorem d_ChanceBits_putBit_7 : decode c_ChanceBits_putBit 7 = .ok (.iload_n 2, 1) := by decide +kernel
theorem d_ChanceBits_putBit_8 : decode c_ChanceBits_putBit 8 = .ok (.invokevirtual 32, 3) := by decide +kernel
theorem d_ChanceBits_putBit_11 : decode c_ChanceBits_putBit 11 = .ok (.iconst 0, 1) := by decide +kernel
theorem d_ChanceBits_putBit_12 : decode c_ChanceBits_putBit 12 = .ok (.istore_n 3, 1) := by decide +kernel
theorem d_ChanceBits_putBit_13 : decode c_ChanceBits_putBit 13 = .ok (.iload_n 3, 1) := by decide +kernel
theorem d_ChanceBits_putBit_14 : decode c_ChanceBits_putBit 14 = .ok (.iconst 4, 1) := by decide +kernel
theorem d_ChanceBits_putBit_15 : decode c_ChanceBits_putBit 15 = .ok (.if_icmp .ge 35, 3) := by decide +kernel
theorem d_ChanceBits_putBit_18 : decode c_ChanceBits_putBit 18 = .ok (.aload_n 0, 1) := by decide +kernel
theorem d_ChanceBits_putBit_19 : decode c_ChanceBits_putBit 19 = .ok (.invokevirtual 36, 3) := by decide +kernel
theorem d_ChanceBits_putBit_22 : decode c_ChanceBits_putBit 22 = .ok (.ifCond .eq 28, 3) := by decide +kernel
theorem d_ChanceBits_putBit_25 : decode c_ChanceBits_putBit 25 = .ok (.aload_n 0, 1) := by decide +kernel
theorem d_ChanceBits_putBit_26 : decode c_ChanceBits_putBit 26 = .ok (.getfield 15, 3) := by decide +kernel
theorem d_ChanceBits_putBit_29 : decode c_ChanceBits_putBit 29 = .ok (.aload_n 0, 1) := by decide +kernel
theorem d_ChanceBits_putBit_30 : decode c_ChanceBits_putBit 30 = .ok (.getfield 40, 3) := by decide +kernel
theorem d_ChanceBits_putBit_33 : decode c_ChanceBits_putBit 33 = .ok (.bipush 24, 2) := by decide +kernel
theorem d_ChanceBits_putBit_35 : decode c_ChanceBits_putBit 35 = .ok (.lshr, 1) := by decide +kernel
theorem d_ChanceBits_putBit_36 : decode c_ChanceBits_putBit 36 = .ok (.l2i, 1) := by decide +kernel
theorem d_ChanceBits_putBit_37 : decode c_ChanceBits_putBit 37 = .ok (.invokevirtual 44, 3) := by decide +kernel
theorem d_ChanceBits_putBit_40 : decode c_ChanceBits_putBit 40 = .ok (.aload_n 0, 1) := by decide +kernel
theorem d_ChanceBits_putBit_41 : decode c_ChanceBits_putBit 41 = .ok (.invokevirtual 48, 3) := by decide +kernel
theorem d_ChanceBits_putBit_44 : decode c_ChanceBits_putBit 44 = .ok (.iinc 3 1, 3) := by decide +kernel
theorem d_ChanceBits_putBit_47 : decode c_ChanceBits_putBit 47 = .ok (.goto (-34), 3) := by decide +kernel
theorem d_ChanceBits_putBit_50 : decode c_ChanceBits_putBit 50 = .ok (.return_, 1) := by decide +kernel
abbrev ws_ChanceBits_finishWriting : List Cond := .code y_ChanceBits_finishWriting c_ChanceBits_finishWriting 3 none :: tb
theorem hd_ChanceBits_finishWriting : y_ChanceBits_finishWriting.cls = R_ChanceBits ∧ y_ChanceBits_finishWriting.cls ≠ "java/lang/invoke/MethodHandle" ∧ y_ChanceBits_finishWriting.cls ≠ "java/lang/invoke/VarHandle" ∧ (parseMethodDescriptor y_ChanceBits_finishWriting.desc).map (fun d => d.parameters.length) = some 0 := by decide +kernel
theorem d_ChanceBits_finishWriting_0 : decode c_ChanceBits_finishWriting 0 = .ok (.aload_n 0, 1) := by decide +kernel
theorem d_ChanceBits_finishWriting_1 : decode c_ChanceBits_finishWriting 1 = .ok (.getfield 40, 3) := by decide +kernel
theorem d_ChanceBits_finishWriting_4 : decode c_ChanceBits_finishWriting 4 = .ok (.ldc2_w 51, 3) := by decide +kernel
theorem d_ChanceBits_finishWriting_7 : decode c_ChanceBits_finishWriting 7 = .ok (.ladd, 1) := by decide +kernel
theorem d_ChanceBits_finishWriting_8 : decode c_ChanceBits_finishWriting 8 = .ok (.lstore_n 1, 1) := by decide +kernel
theorem d_ChanceBits_finishWriting_9 : decode c_ChanceBits_finishWriting 9 = .ok (.aload_n 0, 1) := by decide +kernel
theorem d_ChanceBits_finishWriting_10 : decode c_ChanceBits_finishWriting 10 = .ok (.getfield 15, 3) := by decide +kernel
theorem d_ChanceBits_finishWriting_13 : decode c_ChanceBits_finishWriting 13 = .ok (.lload_n 1, 1) := by decide +kernel
theorem d_ChanceBits_finishWriting_14 : decode c_ChanceBits_finishWriting 14 = .ok (.bipush 24, 2) := by decide +kernel
theorem d_ChanceBits_finishWriting_16 : decode c_ChanceBits_finishWriting 16 = .ok (.lshr, 1) := by decide +kernel
theorem d_ChanceBits_finishWriting_17 : decode c_ChanceBits_finishWriting 17 = .ok (.l2i, 1) := by decide +kernel
theorem d_ChanceBits_finishWriting_18 : decode c_ChanceBits_finishWriting 18 = .ok (.sipush 255, 3) := by decide +kernel
theorem d_ChanceBits_finishWriting_21 : decode c_ChanceBits_finishWriting 21 = .ok (.iand, 1) := by decide +kernel
theorem d_ChanceBits_finishWriting_22 : decode c_ChanceBits_finishWriting 22 = .ok (.invokevirtual 44, 3) := by decide +kernel
theorem d_ChanceBits_finishWriting_25 : decode c_ChanceBits_finishWriting 25 = .ok (.aload_n 0, 1) := by decide +kernel
theorem d_ChanceBits_finishWriting_26 : decode c_ChanceBits_finishWriting 26 = .ok (.getfield 15, 3) := by decide +kernel
theorem d_ChanceBits_finishWriting_29 : decode c_ChanceBits_finishWriting 29 = .ok (.lload_n 1, 1) := by decide +kernel
theorem d_ChanceBits_finishWriting_30 : decode c_ChanceBits_finishWriting 30 = .ok (.bipush 16, 2) := by decide +kernel
theorem d_ChanceBits_finishWriting_32 : decode c_ChanceBits_finishWriting 32 = .ok (.lshr, 1) := by decide +kernel
theorem d_ChanceBits_finishWriting_33 : decode c_ChanceBits_finishWriting 33 = .ok (.l2i, 1) := by decide +kernel
theorem d_ChanceBits_finishWriting_34 : decode c_ChanceBits_finishWriting 34 = .ok (.sipush 255, 3) := by decide +kernel
theorem d_ChanceBits_finishWriting_37 : decode c_ChanceBits_finishWriting 37 = .ok (.iand, 1) := by decide +kernel
theorem d_ChanceBits_finishWriting_38 : decode c_ChanceBits_finishWriting 38 = .ok (.invokevirtual 44, 3) := by decide +kernel
theorem d_ChanceBits_finishWriting_41 : decode c_ChanceBits_finishWriting 41 = .ok (.return_, 1) := by decide +kernel
abbrev ws_Bits_putBits : List Cond := .code y_Bits_putBits c_Bits_putBits 4 none :: tb
theorem hd_Bits_putBits : y_Bits_putBits.cls = R_Bits ∧ y_Bits_putBits.cls ≠ "java/lang/invoke/MethodHandle" ∧ y_Bits_putBits.cls ≠ "java/lang/invoke/VarHandle" ∧ (parseMethodDescriptor y_Bits_putBits.desc).map (fun d => d.parameters.length) = some 2 := by decide +kernel
theorem d_Bits_putBits_0 : decode c_Bits_putBits 0 = .ok (.iload_n 2, 1) := by decide +kernel
theorem d_Bits_putBits_1 : decode c_Bits_putBits 1 = .ok (.iconst 1, 1) := by decide +kernel
theorem d_Bits_putBits_2 : decode c_Bits_putBits 2 = .ok (.isub, 1) := by decide +kernel
theorem d_Bits_putBits_3 : decode c_Bits_putBits 3 = .ok (.istore_n 3, 1) := by decide +kernel
theorem d_Bits_putBits_4 : decode c_Bits_putBits 4 = .ok (.iload_n 3, 1) := by decide +kernel
theorem d_Bits_putBits_5 : decode c_Bits_putBits 5 = .ok (.ifCond .lt 19, 3) := by decide +kernel
theorem d_Bits_putBits_8 : decode c_Bits_putBits 8 = .ok (.aload_n 0, 1) := by decide +kernel
theorem d_Bits_putBits_9 : decode c_Bits_putBits 9 = .ok (.iload_n 1, 1) := by decide +kernel
theorem d_Bits_putBits_10 : decode c_Bits_putBits 10 = .ok (.iload_n 3, 1) := by decide +kernel
theorem d_Bits_putBits_11 : decode c_Bits_putBits 11 = .ok (.ishr, 1) := by decide +kernel
theorem d_Bits_putBits_12 : decode c_Bits_putBits 12 = .ok (.iconst 1, 1) := by decide +kernel
theorem d_Bits_putBits_13 : decode c_Bits_putBits 13 = .ok (.iand, 1) := by decide +kernel
theorem d_Bits_putBits_14 : decode c_Bits_putBits 14 = .ok (.iconst (-1), 1) := by decide +kernel
theorem d_Bits_putBits_15 : decode c_Bits_putBits 15 = .ok (.invokevirtual 22, 3) := by decide +kernel
theorem d_Bits_putBits_18 : decode c_Bits_putBits 18 = .ok (.iinc 3 (-1), 3) := by decide +kernel
theorem d_Bits_putBits_21 : decode c_Bits_putBits 21 = .ok (.goto (-17), 3) := by decide +kernel
theorem d_Bits_putBits_24 : decode c_Bits_putBits 24 = .ok (.return_, 1) := by decide +kernel
abbrev ws_Bits_putNumber : List Cond := .code y_Bits_putNumber c_Bits_putNumber 4 none :: tb
theorem hd_Bits_putNumber : y_Bits_putNumber.cls = R_Bits ∧ y_Bits_putNumber.cls ≠ "java/lang/invoke/MethodHandle" ∧ y_Bits_putNumber.cls ≠ "java/lang/invoke/VarHandle" ∧ (parseMethodDescriptor y_Bits_putNumber.desc).map (fun d => d.parameters.length) = some 1 := by decide +kernel
theorem d_Bits_putNumber_0 : decode c_Bits_putNumber 0 = .ok (.iload_n 1, 1) := by decide +kernel
theorem d_Bits_putNumber_1 : decode c_Bits_putNumber 1 = .ok (.iconst 1, 1) := by decide +kernel
theorem d_Bits_putNumber_2 : decode c_Bits_putNumber 2 = .ok (.iadd, 1) := by decide +kernel
theorem d_Bits_putNumber_3 : decode c_Bits_putNumber 3 = .ok (.istore_n 2, 1) := by decide +kernel
theorem d_Bits_putNumber_4 : decode c_Bits_putNumber 4 = .ok (.iconst 0, 1) := by decide +kernel
theorem d_Bits_putNumber_5 : decode c_Bits_putNumber 5 = .ok (.istore_n 3, 1) := by decide +kernel
theorem d_Bits_putNumber_6 : decode c_Bits_putNumber 6 = .ok (.iload_n 3, 1) := by decide +kernel
theorem d_Bits_putNumber_7 : decode c_Bits_putNumber 7 = .ok (.bipush 8, 2) := by decide +kernel
theorem d_Bits_putNumber_9 : decode c_Bits_putNumber 9 = .ok (.if_icmp .ge 17, 3) := by decide +kernel
theorem d_Bits_putNumber_12 : decode c_Bits_putNumber 12 = .ok (.iload_n 2, 1) := by decide +kernel
theorem d_Bits_putNumber_13 : decode c_Bits_putNumber 13 = .ok (.iload_n 3, 1) := by decide +kernel
theorem d_Bits_putNumber_14 : decode c_Bits_putNumber 14 = .ok (.iconst 1, 1) := by decide +kernel
theorem d_Bits_putNumber_15 : decode c_Bits_putNumber 15 = .ok (.iadd, 1) := by decide +kernel
theorem d_Bits_putNumber_16 : decode c_Bits_putNumber 16 = .ok (.ishr, 1) := by decide +kernel
theorem d_Bits_putNumber_17 : decode c_Bits_putNumber 17 = .ok (.ifCond .eq 9, 3) := by decide +kernel
theorem d_Bits_putNumber_20 : decode c_Bits_putNumber 20 = .ok (.iinc 3 1, 3) := by decide +kernel
theorem d_Bits_putNumber_23 : decode c_Bits_putNumber 23 = .ok (.goto (-17), 3) := by decide +kernel
theorem d_Bits_putNumber_26 : decode c_Bits_putNumber 26 = .ok (.aload_n 0, 1) := by decide +kernel
theorem d_Bits_putNumber_27 : decode c_Bits_putNumber 27 = .ok (.iload_n 2, 1) := by decide +kernel
theorem d_Bits_putNumber_28 : decode c_Bits_putNumber 28 = .ok (.iconst 2, 1) := by decide +kernel
theorem d_Bits_putNumber_29 : decode c_Bits_putNumber 29 = .ok (.iload_n 3, 1) := by decide +kernel
theorem d_Bits_putNumber_30 : decode c_Bits_putNumber 30 = .ok (.imul, 1) := by decide +kernel
theorem d_Bits_putNumber_31 : decode c_Bits_putNumber 31 = .ok (.iconst 1, 1) := by decide +kernel
theorem d_Bits_putNumber_32 : decode c_Bits_putNumber 32 = .ok (.iadd, 1) := by decide +kernel
theorem d_Bits_putNumber_33 : decode c_Bits_putNumber 33 = .ok (.invokevirtual 18, 3) := by decide +kernel
theorem d_Bits_putNumber_36 : decode c_Bits_putNumber 36 = .ok (.return_, 1) := by decide +kernel
/-! P_PlainBits_startWriting -/
def f_P_PlainBits_startWriting (pb : Pb) (w : Br) : Option (Pb × Br) := bd (f_ByteRow_removeAll w) <| fun w_1 => lt' (Pb_s_he pb 0) <| fun pb_2 => lt' (Pb_s_hm pb_2 0) <| fun pb_4 => some (pb_4, w_1)
section
variable {p : Program} {l : Launch} {e : Env} {R : Room} {s : State} {m : MethodId} {args : Array Value} {below : List Frame} {meth : Method} {c : Code} {Q : State → Prop} {A : Nat → Prop}
set_option maxHeartbeats 4000000 in
set_option maxRecDepth 100000 in
theorem B_P_PlainBits_startWriting {cells slots : Nat} {dC : Nat → ClassId} {dI : Nat → Nat → Nat} {cI cZ cJ : ClassId} {pb_a : Nat → Nat} {w_a w_b : Nat} {lk_v : Nat} {pb : Pb} {w : Br} {res : Pb × Br} (C0 : cxt p c m s args R cells slots R_PlainBits c_PlainBits_startWriting tb 1 (dC, dI) vwCl (TYS cI cZ cJ) A 1 20)
    (hr17 : ∀ (H : Heap) (locs : List Loc) (ls : Array Slot) (pb' : Pb) (w' : Br), va_P (dC, dI) vwCl (wPb cI cZ cJ pb_a w_a lk_v pb' ++ wBr cI cZ cJ w_a w_b w') H → va_D A (wPb cI cZ cJ pb_a w_a lk_v pb' ++ wBr cI cZ cJ w_a w_b w') → va_S A s.heap H locs → some (pb', w') = some res → W p l e R s m args below meth c H locs cells slots Q (F0 m 17 ls []))
    {H : Heap} {locs : List Loc} {ls : Array Slot} (hP : va_P (dC, dI) vwCl (wPb cI cZ cJ pb_a w_a lk_v pb ++ wBr cI cZ cJ w_a w_b w) H) (hD : va_D A (wPb cI cZ cJ pb_a w_a lk_v pb ++ wBr cI cZ cJ w_a w_b w)) (hS : va_S A s.heap H locs) (hl : lv_has ls 1 [(0, .ref (pb_a 0))]) (hf : f_P_PlainBits_startWriting pb w = some res) : W p l e R s m args below meth c H locs cells slots Q (F0 m 0 ls []) := by
  obtain ⟨hx, hb, hml, hown, hts, hK, hA, hRf, hRl, hN, hRc⟩ := id C0
  rw [f_P_PlainBits_startWriting] at hf
  refine lv_aload_n hx hb d_PlainBits_startWriting_0 rfl (lv_at hl 0 rfl) ?_
  refine va_get (D := (dC, dI)) (ci := 2) (v := .ref w_a) (C := R_PlainBits) (T := T_PlainBits) (N := 4) hx hb hts in_PlainBits hown hK hP 0 rfl rfl 0 (by decide) (hts _ t_123) (u_same (hts _ t_124)) rfl d_PlainBits_startWriting_1 ?_
  obtain ⟨w_1, hf1, hf⟩ := bd_ex hf
  try dsimp only at hf
  have hPc := hP.sub (ws' := (wBr cI cZ cJ w_a w_b w)) [1, 2] rfl
  have hDc := hD.sub (ws' := (wBr cI cZ cJ w_a w_b w)) [1, 2] (by decide) rfl
  have hFc := va_free (wc := (wBr cI cZ cJ w_a w_b w)) hD hS hA [1, 2] rfl
  refine va_callv (va_runV (As := []) (rest := []) ⟨hx, hb, hml, hown, hts⟩ (k_ByteRow_removeAll l dC dI cI cZ cJ w_a w_b H.size hf1) (cwV 0 hts (gV t_318 t_303 t_304 t_56 t_305) rfl rfl rfl hd_ByteRow_removeAll ⟨Nat.le_trans (Nat.le_of_ble_eq_true rfl) hRf, Nat.le_trans (Nat.le_of_ble_eq_true rfl) hRl⟩) ⟨kP_blind, va_recv hK hP (ci := 1) (q0 := 1) rfl rfl, kP_at hPc hK hDc hN⟩ rfl rfl hl.1 rfl (lv_room (Nat.le_of_ble_eq_true rfl)) d_PlainBits_startWriting_4 hRc) hS (fun q _ h => hFc q h) hFc (fun u t H1 locs ht hvm hw hB hz1 hk1 hS => ?_)
  obtain ⟨hP, hD⟩ := kQ_join (wr := (wPb cI cZ cJ pb_a w_a lk_v pb)) (w1 := (wBr cI cZ cJ w_a w_b w_1)) hP hD [1, 2] [0] rfl rfl (by decide) (by decide) ht hk1 hFc hB
  generalize H1 = H at hP hS ⊢
  have hP : va_P (dC, dI) vwCl (wPb cI cZ cJ pb_a w_a lk_v pb ++ wBr cI cZ cJ w_a w_b w_1) H := hP.sub [0, 1, 2] rfl
  have hD : va_D A (wPb cI cZ cJ pb_a w_a lk_v pb ++ wBr cI cZ cJ w_a w_b w_1) := hD.sub [0, 1, 2] (by decide) rfl
  refine lv_aload_n hx hb d_PlainBits_startWriting_7 rfl (lv_at hl 0 rfl) ?_
  refine lv_iconst (v := 0) hx hb d_PlainBits_startWriting_8 (by decide) ?_
  refine va_put (D := (dC, dI)) (ci := 2) (v := .int 0) (ty := .int) (C := R_PlainBits) (T := T_PlainBits) (N := 4) hx hb hts in_PlainBits ty_PlainBits tyok_PlainBits nm_PlainBits hown hK hP hD hS 0 rfl rfl 2 (by decide) (hts _ t_149) (fun _ h9 => h9) rfl (by decide +kernel) rfl rfl (Nat.le_of_ble_eq_true rfl) d_PlainBits_startWriting_9 (fun H locs hP hD hS => ?_)
  obtain ⟨pb_2, epb_2, hf⟩ := lt_ex hf
  try dsimp only at hf
  have hP : va_P (dC, dI) vwCl (wPb cI cZ cJ pb_a w_a lk_v pb_2 ++ wBr cI cZ cJ w_a w_b w_1) H := by rw [epb_2]; exact hP
  have hD : va_D A (wPb cI cZ cJ pb_a w_a lk_v pb_2 ++ wBr cI cZ cJ w_a w_b w_1) := by rw [epb_2]; exact hD
  refine lv_aload_n hx hb d_PlainBits_startWriting_12 rfl (lv_at hl 0 rfl) ?_
  refine lv_iconst (v := 0) hx hb d_PlainBits_startWriting_13 (by decide) ?_
  refine va_put (D := (dC, dI)) (ci := 2) (v := .int 0) (ty := .int) (C := R_PlainBits) (T := T_PlainBits) (N := 4) hx hb hts in_PlainBits ty_PlainBits tyok_PlainBits nm_PlainBits hown hK hP hD hS 0 rfl rfl 3 (by decide) (hts _ t_150) (fun _ h9 => h9) rfl (by decide +kernel) rfl rfl (Nat.le_of_ble_eq_true rfl) d_PlainBits_startWriting_14 (fun H locs hP hD hS => ?_)
  obtain ⟨pb_4, epb_4, hf⟩ := lt_ex hf
  try dsimp only at hf
  have hP : va_P (dC, dI) vwCl (wPb cI cZ cJ pb_a w_a lk_v pb_4 ++ wBr cI cZ cJ w_a w_b w_1) H := by rw [epb_4]; exact hP
  have hD : va_D A (wPb cI cZ cJ pb_a w_a lk_v pb_4 ++ wBr cI cZ cJ w_a w_b w_1) := by rw [epb_4]; exact hD
  exact hr17 _ _ _ pb_4 w_1 hP hD hS hf
end
set_option maxHeartbeats 4000000 in
set_option maxRecDepth 100000 in
theorem k_P_PlainBits_startWriting (l : Launch) (dC : Nat → ClassId) (dI : Nat → Nat → Nat) (cI cZ cJ : ClassId) (pb_a : Nat → Nat) (w_a w_b : Nat) (lk_v : Nat) (sz : Nat) {pb : Pb} {w : Br} {pb' : Pb} {w' : Br} (hf : f_P_PlainBits_startWriting pb w = some (pb', w')) :
    Met l y_PlainBits_startWriting ws_PlainBits_startWriting ({ frames := 1, cells := 0, slots := 0, locals := 20 }) (va_Pc [.ref (pb_a 0)] (kP (dC, dI) vwCl (TYS cI cZ cJ) (wPb cI cZ cJ pb_a w_a lk_v pb ++ wBr cI cZ cJ w_a w_b w) sz)) (va_Qv (fun (_ : Unit) => True) (fun _ t => kQ (dC, dI) vwCl (TYS cI cZ cJ) (wPb cI cZ cJ pb_a w_a lk_v pb ++ wBr cI cZ cJ w_a w_b w) sz (wPb cI cZ cJ pb_a w_a lk_v pb' ++ wBr cI cZ cJ w_a w_b w') t) (va_A (wPb cI cZ cJ pb_a w_a lk_v pb ++ wBr cI cZ cJ w_a w_b w) sz)) 0 0 (va_A (wPb cI cZ cJ pb_a w_a lk_v pb ++ wBr cI cZ cJ w_a w_b w) sz) := by
  refine Met.ofW (cc := c_PlainBits_startWriting) (maxL := 1) (ret := none) (by decide) rfl ?_
  intro p e s m args below meth c s₁ B hml hv
  obtain ⟨rfl, hsz, hP, hK, hD0, hN⟩ := hv
  have hr := B.returns
  have hlocks := B.notSynchronized
  subst hsz
  have hD := hD0.self (sz := s.heap.size)
  have hl := lv_entry ([.ref (pb_a 0)]) (n := 1) (Nat.le_of_ble_eq_true rfl)
  rw [lg_entry_eq]
  generalize (lg_sl ([.ref (pb_a 0)]) ++ List.replicate (1 - (lg_sl ([.ref (pb_a 0)])).length) Slot.unset).toArray = ls at hl ⊢
  refine B_P_PlainBits_startWriting (A := va_A (wPb cI cZ cJ pb_a w_a lk_v pb ++ wBr cI cZ cJ w_a w_b w) s.heap.size) ⟨B.exec, B.bytes, hml, findClass_of_methodNamed B.named, fun w h => atoms_spec (ws := ws_PlainBits_startWriting) B.pre w (List.mem_cons_of_mem _ h), hK, fun q h => Or.inr h, Nat.le_of_ble_eq_true rfl, Nat.le_of_ble_eq_true rfl, hN, Nat.le_of_ble_eq_true rfl, Nat.le_of_ble_eq_true rfl⟩ (fun H locs ls pb'1 w'1 hP hD hS hf => ?_) hP hD va_S.rf hl hf
  · cases hf
    exact W.vret B.exec B.bytes hr (fun t ht hW => ⟨⟨(), rfl, trivial, ⟨by rw [ht]; exact hP, va_K.moved hW.alike hK, hD⟩⟩, hS.F ht⟩) hS.2.2 d_PlainBits_startWriting_17

/-! P_PlainBits_putBit -/
def f_P_PlainBits_putBit (pb : Pb) (w : Br) (x1 : Int32) (x2 : Int32) : Option (Pb × Br) := lt' (Pb_s_he pb (((Pb_he pb) <<< ((1 : Int32) &&& 31)) ||| x1)) <| fun pb_1 => lt' (Pb_s_hm pb_1 ((Pb_hm pb_1) + 1)) <| fun pb_3 => (if (Pb_hm pb_3) = 8 then bd (f_ByteRow_add w (Pb_he pb_3)) <| fun w_6 => lt' (Pb_s_he pb_3 0) <| fun pb_8 => lt' (Pb_s_hm pb_8 0) <| fun pb_10 => some (pb_10, w_6) else some (pb_3, w))
theorem mo_P_PlainBits_putBit {pb : Pb} {w : Br} {x1 : Int32} {x2 : Int32} : mle (f_P_PlainBits_putBit pb w x1 x2) (Br_byL w) (fun r : Pb × Br => Br_byL r.2) := by
  rw [f_P_PlainBits_putBit]
  refine mle_lt (fun pb_1 epb_1 => ?_)
  refine mle_lt (fun pb_3 epb_3 => ?_)
  refine mle_if (fun _ => ?_) (fun _ => ?_)
  · refine mle_bd (fun y9 hy9 => ?_)
    obtain ⟨w_6, rfl⟩ : ∃ z, z = y9 := ⟨_, rfl⟩
    try dsimp only
    refine mle_le (mo_ByteRow_add _ hy9) ?_
    try dsimp only
    refine mle_lt (fun pb_8 epb_8 => ?_)
    refine mle_lt (fun pb_10 epb_10 => ?_)
    exact mle_some (Nat.le_refl _)
  · exact mle_some (Nat.le_refl _)
section
variable {p : Program} {l : Launch} {e : Env} {R : Room} {s : State} {m : MethodId} {args : Array Value} {below : List Frame} {meth : Method} {c : Code} {Q : State → Prop} {A : Nat → Prop}
set_option maxHeartbeats 4000000 in
set_option maxRecDepth 100000 in
theorem B_P_PlainBits_putBit {cells slots : Nat} {l0 : Nat} {dC : Nat → ClassId} {dI : Nat → Nat → Nat} {cI cZ cJ : ClassId} {pb_a : Nat → Nat} {w_a : Nat} {lk_v : Nat} {w_b : Nat} {pb : Pb} {w : Br} {x1 : Int32} {x2 : Int32} {res : Pb × Br} (C0 : cxt p c m s args R 0 0 R_PlainBits c_PlainBits_putBit tb 3 (dC, dI) vwCl (TYS cI cZ cJ) A 3 107) (hRc : gR l0 ((fun r : Pb × Br => Br_byL r.2) res) R)
    (hr52 : ∀ (H : Heap) (locs : List Loc) (ls : Array Slot) (cells slots : Nat) (w_b : Nat) (pb' : Pb) (w' : Br), gok R l0 (Br_byL w') cells slots → va_P (dC, dI) vwCl (wPb cI cZ cJ pb_a w_a lk_v pb' ++ wBr cI cZ cJ w_a w_b w') H → va_D A (wPb cI cZ cJ pb_a w_a lk_v pb' ++ wBr cI cZ cJ w_a w_b w') → va_S A s.heap H locs → some (pb', w') = some res → W p l e R s m args below meth c H locs cells slots Q (F0 m 52 ls []))
    {H : Heap} {locs : List Loc} {ls : Array Slot} (hg : gok R l0 (Br_byL w) cells slots) (hP : va_P (dC, dI) vwCl (wPb cI cZ cJ pb_a w_a lk_v pb ++ wBr cI cZ cJ w_a w_b w) H) (hD : va_D A (wPb cI cZ cJ pb_a w_a lk_v pb ++ wBr cI cZ cJ w_a w_b w)) (hS : va_S A s.heap H locs) (hl : lv_has ls 3 [(0, .ref (pb_a 0)), (1, .int x1), (2, .int x2)]) (hf : f_P_PlainBits_putBit pb w x1 x2 = some res) : W p l e R s m args below meth c H locs cells slots Q (F0 m 0 ls []) := by
  obtain ⟨hx, hb, hml, hown, hts, hK, hA, hRf, hRl, hN, _⟩ := id C0
  rw [f_P_PlainBits_putBit] at hf
  refine lv_aload_n hx hb d_PlainBits_putBit_0 rfl (lv_at hl 0 rfl) ?_
  refine lv_aload_n hx hb d_PlainBits_putBit_1 rfl (lv_at hl 0 rfl) ?_
  refine va_get (D := (dC, dI)) (ci := 2) (v := .int (Pb_he pb)) (C := R_PlainBits) (T := T_PlainBits) (N := 4) hx hb hts in_PlainBits hown hK hP 0 rfl rfl 2 (by decide) (hts _ t_149) (fun _ h9 => h9) rfl d_PlainBits_putBit_2 ?_
  refine lv_iconst (v := 1) hx hb d_PlainBits_putBit_5 (by decide) ?_
  refine lv_ishl hx hb d_PlainBits_putBit_6 ?_
  refine lv_iload_n hx hb d_PlainBits_putBit_7 rfl (lv_at hl 1 rfl) ?_
  refine lv_ior hx hb d_PlainBits_putBit_8 ?_
  refine va_put (D := (dC, dI)) (ci := 2) (v := .int (((Pb_he pb) <<< ((1 : Int32) &&& 31)) ||| x1)) (ty := .int) (C := R_PlainBits) (T := T_PlainBits) (N := 4) hx hb hts in_PlainBits ty_PlainBits tyok_PlainBits nm_PlainBits hown hK hP hD hS 0 rfl rfl 2 (by decide) (hts _ t_149) (fun _ h9 => h9) rfl (by decide +kernel) rfl rfl (Nat.le_of_ble_eq_true rfl) d_PlainBits_putBit_9 (fun H locs hP hD hS => ?_)
  obtain ⟨pb_1, epb_1, hf⟩ := lt_ex hf
  try dsimp only at hf
  have hP : va_P (dC, dI) vwCl (wPb cI cZ cJ pb_a w_a lk_v pb_1 ++ wBr cI cZ cJ w_a w_b w) H := by rw [epb_1]; exact hP
  have hD : va_D A (wPb cI cZ cJ pb_a w_a lk_v pb_1 ++ wBr cI cZ cJ w_a w_b w) := by rw [epb_1]; exact hD
  refine lv_aload_n hx hb d_PlainBits_putBit_12 rfl (lv_at hl 0 rfl) ?_
  refine lv_dup hx hb d_PlainBits_putBit_13 rfl ?_
  refine va_get (D := (dC, dI)) (ci := 2) (v := .int (Pb_hm pb_1)) (C := R_PlainBits) (T := T_PlainBits) (N := 4) hx hb hts in_PlainBits hown hK hP 0 rfl rfl 3 (by decide) (hts _ t_150) (fun _ h9 => h9) rfl d_PlainBits_putBit_14 ?_
  refine lv_iconst (v := 1) hx hb d_PlainBits_putBit_17 (by decide) ?_
  refine lv_iadd hx hb d_PlainBits_putBit_18 ?_
  refine va_put (D := (dC, dI)) (ci := 2) (v := .int ((Pb_hm pb_1) + 1)) (ty := .int) (C := R_PlainBits) (T := T_PlainBits) (N := 4) hx hb hts in_PlainBits ty_PlainBits tyok_PlainBits nm_PlainBits hown hK hP hD hS 0 rfl rfl 3 (by decide) (hts _ t_150) (fun _ h9 => h9) rfl (by decide +kernel) rfl rfl (Nat.le_of_ble_eq_true rfl) d_PlainBits_putBit_19 (fun H locs hP hD hS => ?_)
  obtain ⟨pb_3, epb_3, hf⟩ := lt_ex hf
  try dsimp only at hf
  have hP : va_P (dC, dI) vwCl (wPb cI cZ cJ pb_a w_a lk_v pb_3 ++ wBr cI cZ cJ w_a w_b w) H := by rw [epb_3]; exact hP
  have hD : va_D A (wPb cI cZ cJ pb_a w_a lk_v pb_3 ++ wBr cI cZ cJ w_a w_b w) := by rw [epb_3]; exact hD
  refine lv_aload_n hx hb d_PlainBits_putBit_22 rfl (lv_at hl 0 rfl) ?_
  refine va_get (D := (dC, dI)) (ci := 2) (v := .int (Pb_hm pb_3)) (C := R_PlainBits) (T := T_PlainBits) (N := 4) hx hb hts in_PlainBits hown hK hP 0 rfl rfl 3 (by decide) (hts _ t_150) (fun _ h9 => h9) rfl d_PlainBits_putBit_23 ?_
  refine lv_bipush (v := 8) hx hb d_PlainBits_putBit_26 (by decide) ?_
  refine lv_icmp_ne (tgt := 52) hx hb d_PlainBits_putBit_28 (by decide) (fun c_5 => ?_) (fun c_5 => ?_)
  · rw [if_neg c_5] at hf
    exact hr52 _ _ _ _ _ _ pb_3 w hg hP hD hS hf
  · rw [if_pos c_5] at hf
    refine lv_aload_n hx hb d_PlainBits_putBit_31 rfl (lv_at hl 0 rfl) ?_
    refine va_get (D := (dC, dI)) (ci := 2) (v := .ref w_a) (C := R_PlainBits) (T := T_PlainBits) (N := 4) hx hb hts in_PlainBits hown hK hP 0 rfl rfl 0 (by decide) (hts _ t_123) (u_same (hts _ t_124)) rfl d_PlainBits_putBit_32 ?_
    refine lv_aload_n hx hb d_PlainBits_putBit_35 rfl (lv_at hl 0 rfl) ?_
    refine va_get (D := (dC, dI)) (ci := 2) (v := .int (Pb_he pb_3)) (C := R_PlainBits) (T := T_PlainBits) (N := 4) hx hb hts in_PlainBits hown hK hP 0 rfl rfl 2 (by decide) (hts _ t_149) (fun _ h9 => h9) rfl d_PlainBits_putBit_36 ?_
    obtain ⟨w_6, hf1, hf⟩ := bd_ex hf
    try dsimp only at hf
    have hm0 := mo_ByteRow_add _ hf1
    try dsimp only at hm0
    have hm : Br_byL w_6 ≤ (fun r : Pb × Br => Br_byL r.2) res := by
      refine mle_use (π := (fun r : Pb × Br => Br_byL r.2)) hf ?_
      refine mle_lt (fun pb_8 epb_8 => ?_)
      refine mle_lt (fun pb_10 epb_10 => ?_)
      exact mle_some (Nat.le_refl _)
    have hPc := hP.sub (ws' := (wBr cI cZ cJ w_a w_b w)) [1, 2] rfl
    have hDc := hD.sub (ws' := (wBr cI cZ cJ w_a w_b w)) [1, 2] (by decide) rfl
    have hFc := va_free (wc := (wBr cI cZ cJ w_a w_b w)) hD hS hA [1, 2] rfl
    refine va_callv (va_runV (As := [.int (Pb_he pb_3)]) (rest := []) ⟨hx, hb, hml, hown, hts⟩ (k_ByteRow_add l dC dI cI cZ cJ w_a w_b H.size hf1) (cwV 1 hts (gV t_380 t_354 t_355 t_56 t_356) rfl rfl rfl hd_ByteRow_add ⟨Nat.le_trans (Nat.le_of_ble_eq_true rfl) hRf, Nat.le_trans (Nat.le_of_ble_eq_true rfl) hRl⟩) ⟨kP_blind, va_recv hK hP (ci := 1) (q0 := 1) rfl rfl, kP_at hPc hK hDc hN⟩ rfl rfl hl.1 rfl (lv_room (Nat.le_of_ble_eq_true rfl)) d_PlainBits_putBit_39 (g_room hg hm0 hm hRc)) hS (fun q _ h => hFc q h) hFc (fun w_q_7 t H1 locs ht hvm hw hB hz1 hk1 hS => ?_)
    have hg := g_step (L0 := Br_byL w) (L1 := Br_byL w_6) hg hm0 hm hRc
    generalize cells + (Br_byL w_6 - Br_byL w) = cells at hg ⊢
    generalize slots + 2 * (Br_byL w_6 - Br_byL w) = slots at hg ⊢
    obtain ⟨hP, hD⟩ := kQ_join (wr := (wPb cI cZ cJ pb_a w_a lk_v pb_3)) (w1 := (wBr cI cZ cJ w_a w_q_7 w_6)) hP hD [1, 2] [0] rfl rfl (by decide) (by decide) ht hk1 hFc hB
    generalize H1 = H at hP hS ⊢
    have hP : va_P (dC, dI) vwCl (wPb cI cZ cJ pb_a w_a lk_v pb_3 ++ wBr cI cZ cJ w_a w_q_7 w_6) H := hP.sub [0, 1, 2] rfl
    have hD : va_D A (wPb cI cZ cJ pb_a w_a lk_v pb_3 ++ wBr cI cZ cJ w_a w_q_7 w_6) := hD.sub [0, 1, 2] (by decide) rfl
    refine lv_aload_n hx hb d_PlainBits_putBit_42 rfl (lv_at hl 0 rfl) ?_
    refine lv_iconst (v := 0) hx hb d_PlainBits_putBit_43 (by decide) ?_
    refine va_put (D := (dC, dI)) (ci := 2) (v := .int 0) (ty := .int) (C := R_PlainBits) (T := T_PlainBits) (N := 4) hx hb hts in_PlainBits ty_PlainBits tyok_PlainBits nm_PlainBits hown hK hP hD hS 0 rfl rfl 2 (by decide) (hts _ t_149) (fun _ h9 => h9) rfl (by decide +kernel) rfl rfl (Nat.le_of_ble_eq_true rfl) d_PlainBits_putBit_44 (fun H locs hP hD hS => ?_)
    obtain ⟨pb_8, epb_8, hf⟩ := lt_ex hf
    try dsimp only at hf
    have hP : va_P (dC, dI) vwCl (wPb cI cZ cJ pb_a w_a lk_v pb_8 ++ wBr cI cZ cJ w_a w_q_7 w_6) H := by rw [epb_8]; exact hP
    have hD : va_D A (wPb cI cZ cJ pb_a w_a lk_v pb_8 ++ wBr cI cZ cJ w_a w_q_7 w_6) := by rw [epb_8]; exact hD
    refine lv_aload_n hx hb d_PlainBits_putBit_47 rfl (lv_at hl 0 rfl) ?_
    refine lv_iconst (v := 0) hx hb d_PlainBits_putBit_48 (by decide) ?_
    refine va_put (D := (dC, dI)) (ci := 2) (v := .int 0) (ty := .int) (C := R_PlainBits) (T := T_PlainBits) (N := 4) hx hb hts in_PlainBits ty_PlainBits tyok_PlainBits nm_PlainBits hown hK hP hD hS 0 rfl rfl 3 (by decide) (hts _ t_150) (fun _ h9 => h9) rfl (by decide +kernel) rfl rfl (Nat.le_of_ble_eq_true rfl) d_PlainBits_putBit_49 (fun H locs hP hD hS => ?_)
    obtain ⟨pb_10, epb_10, hf⟩ := lt_ex hf
    try dsimp only at hf
    have hP : va_P (dC, dI) vwCl (wPb cI cZ cJ pb_a w_a lk_v pb_10 ++ wBr cI cZ cJ w_a w_q_7 w_6) H := by rw [epb_10]; exact hP
    have hD : va_D A (wPb cI cZ cJ pb_a w_a lk_v pb_10 ++ wBr cI cZ cJ w_a w_q_7 w_6) := by rw [epb_10]; exact hD
    exact hr52 _ _ _ _ _ _ pb_10 w_6 hg hP hD hS hf
end
set_option maxHeartbeats 4000000 in
set_option maxRecDepth 100000 in
theorem k_P_PlainBits_putBit (l : Launch) (dC : Nat → ClassId) (dI : Nat → Nat → Nat) (cI cZ cJ : ClassId) (pb_a : Nat → Nat) (w_a w_b : Nat) (lk_v : Nat) (sz : Nat) {pb : Pb} {w : Br} {x1 : Int32} {x2 : Int32} {pb' : Pb} {w' : Br} (hf : f_P_PlainBits_putBit pb w x1 x2 = some (pb', w')) :
    Met l y_PlainBits_putBit ws_PlainBits_putBit ({ frames := 3, cells := (Br_byL w' - Br_byL w), slots := (2 * (Br_byL w' - Br_byL w)), locals := 107 }) (va_Pc [.ref (pb_a 0), .int x1, .int x2] (kP (dC, dI) vwCl (TYS cI cZ cJ) (wPb cI cZ cJ pb_a w_a lk_v pb ++ wBr cI cZ cJ w_a w_b w) sz)) (va_Qv (fun (_ : Nat) => True) (fun q9 t => kQ (dC, dI) vwCl (TYS cI cZ cJ) (wPb cI cZ cJ pb_a w_a lk_v pb ++ wBr cI cZ cJ w_a w_b w) sz (wPb cI cZ cJ pb_a w_a lk_v pb' ++ wBr cI cZ cJ w_a q9 w') t) (va_A (wPb cI cZ cJ pb_a w_a lk_v pb ++ wBr cI cZ cJ w_a w_b w) sz)) (Br_byL w' - Br_byL w) (2 * (Br_byL w' - Br_byL w)) (va_A (wPb cI cZ cJ pb_a w_a lk_v pb ++ wBr cI cZ cJ w_a w_b w) sz) := by
  refine Met.ofW (cc := c_PlainBits_putBit) (maxL := 3) (ret := none) (by decide) rfl ?_
  intro p e s m args below meth c s₁ B hml hv
  obtain ⟨rfl, hsz, hP, hK, hD0, hN⟩ := hv
  have hr := B.returns
  have hlocks := B.notSynchronized
  subst hsz
  have hD := hD0.self (sz := s.heap.size)
  have hl := lv_entry ([.ref (pb_a 0), .int x1, .int x2]) (n := 3) (Nat.le_of_ble_eq_true rfl)
  rw [lg_entry_eq]
  generalize (lg_sl ([.ref (pb_a 0), .int x1, .int x2]) ++ List.replicate (3 - (lg_sl ([.ref (pb_a 0), .int x1, .int x2])).length) Slot.unset).toArray = ls at hl ⊢
  refine B_P_PlainBits_putBit (A := va_A (wPb cI cZ cJ pb_a w_a lk_v pb ++ wBr cI cZ cJ w_a w_b w) s.heap.size) ⟨B.exec, B.bytes, hml, findClass_of_methodNamed B.named, fun w h => atoms_spec (ws := ws_PlainBits_putBit) B.pre w (List.mem_cons_of_mem _ h), hK, fun q h => Or.inr h, Nat.le_of_ble_eq_true rfl, Nat.le_of_ble_eq_true rfl, hN, Nat.zero_le _, Nat.zero_le _⟩ ⟨Nat.le_refl _, Nat.le_refl _⟩ (fun H locs ls cells slots q9 pb'1 w'1 hg hP hD hS hf => ?_) ⟨Nat.le_refl _, Nat.zero_le _, Nat.zero_le _, Nat.zero_le _, Nat.zero_le _⟩ hP hD va_S.rf hl hf
  · cases hf
    refine W.widen (k := (Br_byL w' - Br_byL w)) (n := (2 * (Br_byL w' - Br_byL w))) hg.2.1 hg.2.2.1 ?_
    exact W.vret B.exec B.bytes hr (fun t ht hW => ⟨⟨q9, rfl, trivial, ⟨by rw [ht]; exact hP, va_K.moved hW.alike hK, hD⟩⟩, hS.F ht⟩) hS.2.2 d_PlainBits_putBit_52

/-! P_PlainBits_finishWriting -/
def f_P_PlainBits_finishWriting (pb : Pb) (w : Br) : Option (Br) := (if (Pb_hm pb) ≤ 0 then some w else bd (f_ByteRow_add w ((Pb_he pb) <<< ((8 - (Pb_hm pb)) &&& 31))) <| fun w_2 => some w_2)
theorem mo_P_PlainBits_finishWriting {pb : Pb} {w : Br} : mle (f_P_PlainBits_finishWriting pb w) (Br_byL w) (fun r : Br => Br_byL r) := by
  rw [f_P_PlainBits_finishWriting]
  refine mle_if (fun _ => ?_) (fun _ => ?_)
  · exact mle_some (Nat.le_refl _)
  · refine mle_bd (fun y9 hy9 => ?_)
    obtain ⟨w_2, rfl⟩ : ∃ z, z = y9 := ⟨_, rfl⟩
    try dsimp only
    refine mle_le (mo_ByteRow_add _ hy9) ?_
    try dsimp only
    exact mle_some (Nat.le_refl _)
section
variable {p : Program} {l : Launch} {e : Env} {R : Room} {s : State} {m : MethodId} {args : Array Value} {below : List Frame} {meth : Method} {c : Code} {Q : State → Prop} {A : Nat → Prop}
set_option maxHeartbeats 4000000 in
set_option maxRecDepth 100000 in
theorem B_P_PlainBits_finishWriting {cells slots : Nat} {l0 : Nat} {dC : Nat → ClassId} {dI : Nat → Nat → Nat} {cI cZ cJ : ClassId} {pb_a : Nat → Nat} {w_a : Nat} {lk_v : Nat} {w_b : Nat} {pb : Pb} {w : Br} {res : Br} (C0 : cxt p c m s args R 0 0 R_PlainBits c_PlainBits_finishWriting tb 1 (dC, dI) vwCl (TYS cI cZ cJ) A 3 107) (hRc : gR l0 ((fun r : Br => Br_byL r) res) R)
    (hr26 : ∀ (H : Heap) (locs : List Loc) (ls : Array Slot) (cells slots : Nat) (w_b : Nat) (w' : Br), gok R l0 (Br_byL w') cells slots → va_P (dC, dI) vwCl (wPb cI cZ cJ pb_a w_a lk_v pb ++ wBr cI cZ cJ w_a w_b w') H → va_D A (wPb cI cZ cJ pb_a w_a lk_v pb ++ wBr cI cZ cJ w_a w_b w') → va_S A s.heap H locs → some w' = some res → W p l e R s m args below meth c H locs cells slots Q (F0 m 26 ls []))
    {H : Heap} {locs : List Loc} {ls : Array Slot} (hg : gok R l0 (Br_byL w) cells slots) (hP : va_P (dC, dI) vwCl (wPb cI cZ cJ pb_a w_a lk_v pb ++ wBr cI cZ cJ w_a w_b w) H) (hD : va_D A (wPb cI cZ cJ pb_a w_a lk_v pb ++ wBr cI cZ cJ w_a w_b w)) (hS : va_S A s.heap H locs) (hl : lv_has ls 1 [(0, .ref (pb_a 0))]) (hf : f_P_PlainBits_finishWriting pb w = some res) : W p l e R s m args below meth c H locs cells slots Q (F0 m 0 ls []) := by
  obtain ⟨hx, hb, hml, hown, hts, hK, hA, hRf, hRl, hN, _⟩ := id C0
  rw [f_P_PlainBits_finishWriting] at hf
  refine lv_aload_n hx hb d_PlainBits_finishWriting_0 rfl (lv_at hl 0 rfl) ?_
  refine va_get (D := (dC, dI)) (ci := 2) (v := .int (Pb_hm pb)) (C := R_PlainBits) (T := T_PlainBits) (N := 4) hx hb hts in_PlainBits hown hK hP 0 rfl rfl 3 (by decide) (hts _ t_150) (fun _ h9 => h9) rfl d_PlainBits_finishWriting_1 ?_
  refine lv_if_le (tgt := 26) hx hb d_PlainBits_finishWriting_4 (by decide) (fun c_1 => ?_) (fun c_1 => ?_)
  · rw [if_pos c_1] at hf
    exact hr26 _ _ _ _ _ _ w hg hP hD hS hf
  · rw [if_neg c_1] at hf
    refine lv_aload_n hx hb d_PlainBits_finishWriting_7 rfl (lv_at hl 0 rfl) ?_
    refine va_get (D := (dC, dI)) (ci := 2) (v := .ref w_a) (C := R_PlainBits) (T := T_PlainBits) (N := 4) hx hb hts in_PlainBits hown hK hP 0 rfl rfl 0 (by decide) (hts _ t_123) (u_same (hts _ t_124)) rfl d_PlainBits_finishWriting_8 ?_
    refine lv_aload_n hx hb d_PlainBits_finishWriting_11 rfl (lv_at hl 0 rfl) ?_
    refine va_get (D := (dC, dI)) (ci := 2) (v := .int (Pb_he pb)) (C := R_PlainBits) (T := T_PlainBits) (N := 4) hx hb hts in_PlainBits hown hK hP 0 rfl rfl 2 (by decide) (hts _ t_149) (fun _ h9 => h9) rfl d_PlainBits_finishWriting_12 ?_
    refine lv_bipush (v := 8) hx hb d_PlainBits_finishWriting_15 (by decide) ?_
    refine lv_aload_n hx hb d_PlainBits_finishWriting_17 rfl (lv_at hl 0 rfl) ?_
    refine va_get (D := (dC, dI)) (ci := 2) (v := .int (Pb_hm pb)) (C := R_PlainBits) (T := T_PlainBits) (N := 4) hx hb hts in_PlainBits hown hK hP 0 rfl rfl 3 (by decide) (hts _ t_150) (fun _ h9 => h9) rfl d_PlainBits_finishWriting_18 ?_
    refine lv_isub hx hb d_PlainBits_finishWriting_21 ?_
    refine lv_ishl hx hb d_PlainBits_finishWriting_22 ?_
    obtain ⟨w_2, hf1, hf⟩ := bd_ex hf
    try dsimp only at hf
    have hm0 := mo_ByteRow_add _ hf1
    try dsimp only at hm0
    have hm : Br_byL w_2 ≤ (fun r : Br => Br_byL r) res := by
      refine mle_use (π := (fun r : Br => Br_byL r)) hf ?_
      exact mle_some (Nat.le_refl _)
    have hPc := hP.sub (ws' := (wBr cI cZ cJ w_a w_b w)) [1, 2] rfl
    have hDc := hD.sub (ws' := (wBr cI cZ cJ w_a w_b w)) [1, 2] (by decide) rfl
    have hFc := va_free (wc := (wBr cI cZ cJ w_a w_b w)) hD hS hA [1, 2] rfl
    refine va_callv (va_runV (As := [.int ((Pb_he pb) <<< ((8 - (Pb_hm pb)) &&& 31))]) (rest := []) ⟨hx, hb, hml, hown, hts⟩ (k_ByteRow_add l dC dI cI cZ cJ w_a w_b H.size hf1) (cwV 1 hts (gV t_380 t_354 t_355 t_56 t_356) rfl rfl rfl hd_ByteRow_add ⟨Nat.le_trans (Nat.le_of_ble_eq_true rfl) hRf, Nat.le_trans (Nat.le_of_ble_eq_true rfl) hRl⟩) ⟨kP_blind, va_recv hK hP (ci := 1) (q0 := 1) rfl rfl, kP_at hPc hK hDc hN⟩ rfl rfl hl.1 rfl (lv_room (Nat.le_of_ble_eq_true rfl)) d_PlainBits_finishWriting_23 (g_room hg hm0 hm hRc)) hS (fun q _ h => hFc q h) hFc (fun w_q_3 t H1 locs ht hvm hw hB hz1 hk1 hS => ?_)
    have hg := g_step (L0 := Br_byL w) (L1 := Br_byL w_2) hg hm0 hm hRc
    generalize cells + (Br_byL w_2 - Br_byL w) = cells at hg ⊢
    generalize slots + 2 * (Br_byL w_2 - Br_byL w) = slots at hg ⊢
    obtain ⟨hP, hD⟩ := kQ_join (wr := (wPb cI cZ cJ pb_a w_a lk_v pb)) (w1 := (wBr cI cZ cJ w_a w_q_3 w_2)) hP hD [1, 2] [0] rfl rfl (by decide) (by decide) ht hk1 hFc hB
    generalize H1 = H at hP hS ⊢
    have hP : va_P (dC, dI) vwCl (wPb cI cZ cJ pb_a w_a lk_v pb ++ wBr cI cZ cJ w_a w_q_3 w_2) H := hP.sub [0, 1, 2] rfl
    have hD : va_D A (wPb cI cZ cJ pb_a w_a lk_v pb ++ wBr cI cZ cJ w_a w_q_3 w_2) := hD.sub [0, 1, 2] (by decide) rfl
    exact hr26 _ _ _ _ _ _ w_2 hg hP hD hS hf
end
set_option maxHeartbeats 4000000 in
set_option maxRecDepth 100000 in
theorem k_P_PlainBits_finishWriting (l : Launch) (dC : Nat → ClassId) (dI : Nat → Nat → Nat) (cI cZ cJ : ClassId) (pb_a : Nat → Nat) (w_a w_b : Nat) (lk_v : Nat) (sz : Nat) {pb : Pb} {w : Br} {w' : Br} (hf : f_P_PlainBits_finishWriting pb w = some w') :
    Met l y_PlainBits_finishWriting ws_PlainBits_finishWriting ({ frames := 3, cells := (Br_byL w' - Br_byL w), slots := (2 * (Br_byL w' - Br_byL w)), locals := 107 }) (va_Pc [.ref (pb_a 0)] (kP (dC, dI) vwCl (TYS cI cZ cJ) (wPb cI cZ cJ pb_a w_a lk_v pb ++ wBr cI cZ cJ w_a w_b w) sz)) (va_Qv (fun (_ : Nat) => True) (fun q9 t => kQ (dC, dI) vwCl (TYS cI cZ cJ) (wPb cI cZ cJ pb_a w_a lk_v pb ++ wBr cI cZ cJ w_a w_b w) sz (wPb cI cZ cJ pb_a w_a lk_v pb ++ wBr cI cZ cJ w_a q9 w') t) (va_A (wPb cI cZ cJ pb_a w_a lk_v pb ++ wBr cI cZ cJ w_a w_b w) sz)) (Br_byL w' - Br_byL w) (2 * (Br_byL w' - Br_byL w)) (va_A (wPb cI cZ cJ pb_a w_a lk_v pb ++ wBr cI cZ cJ w_a w_b w) sz) := by
  refine Met.ofW (cc := c_PlainBits_finishWriting) (maxL := 1) (ret := none) (by decide) rfl ?_
  intro p e s m args below meth c s₁ B hml hv
  obtain ⟨rfl, hsz, hP, hK, hD0, hN⟩ := hv
  have hr := B.returns
  have hlocks := B.notSynchronized
  subst hsz
  have hD := hD0.self (sz := s.heap.size)
  have hl := lv_entry ([.ref (pb_a 0)]) (n := 1) (Nat.le_of_ble_eq_true rfl)
  rw [lg_entry_eq]
  generalize (lg_sl ([.ref (pb_a 0)]) ++ List.replicate (1 - (lg_sl ([.ref (pb_a 0)])).length) Slot.unset).toArray = ls at hl ⊢
  refine B_P_PlainBits_finishWriting (A := va_A (wPb cI cZ cJ pb_a w_a lk_v pb ++ wBr cI cZ cJ w_a w_b w) s.heap.size) ⟨B.exec, B.bytes, hml, findClass_of_methodNamed B.named, fun w h => atoms_spec (ws := ws_PlainBits_finishWriting) B.pre w (List.mem_cons_of_mem _ h), hK, fun q h => Or.inr h, Nat.le_of_ble_eq_true rfl, Nat.le_of_ble_eq_true rfl, hN, Nat.zero_le _, Nat.zero_le _⟩ ⟨Nat.le_refl _, Nat.le_refl _⟩ (fun H locs ls cells slots q9 w'1 hg hP hD hS hf => ?_) ⟨Nat.le_refl _, Nat.zero_le _, Nat.zero_le _, Nat.zero_le _, Nat.zero_le _⟩ hP hD va_S.rf hl hf
  · cases hf
    refine W.widen (k := (Br_byL w' - Br_byL w)) (n := (2 * (Br_byL w' - Br_byL w))) hg.2.1 hg.2.2.1 ?_
    exact W.vret B.exec B.bytes hr (fun t ht hW => ⟨⟨q9, rfl, trivial, ⟨by rw [ht]; exact hP, va_K.moved hW.alike hK, hD⟩⟩, hS.F ht⟩) hS.2.2 d_PlainBits_finishWriting_26

/-! C_ChanceBits_startWriting -/
def f_C_ChanceBits_startWriting (cb : Cb) (w : Br) : Option (Cb × Br) := bd (f_ByteRow_removeAll w) <| fun w_1 => bd (f_C_ChanceBits_forget cb) <| fun cb_2 => some (cb_2, w_1)
section
variable {p : Program} {l : Launch} {e : Env} {R : Room} {s : State} {m : MethodId} {args : Array Value} {below : List Frame} {meth : Method} {c : Code} {Q : State → Prop} {A : Nat → Prop}
set_option maxHeartbeats 4000000 in
set_option maxRecDepth 100000 in
theorem B_C_ChanceBits_startWriting {cells slots : Nat} {dC : Nat → ClassId} {dI : Nat → Nat → Nat} {cI cZ cJ : ClassId} {cb_a : Nat → Nat} {w_a w_b : Nat} {lk_v : Nat} {cb : Cb} {w : Br} {res : Cb × Br} (C0 : cxt p c m s args R cells slots R_ChanceBits c_ChanceBits_startWriting tb 1 (dC, dI) vwCl (TYS cI cZ cJ) A 2 43)
    (hr11 : ∀ (H : Heap) (locs : List Loc) (ls : Array Slot) (cb' : Cb) (w' : Br), va_P (dC, dI) vwCl (wCb cI cZ cJ cb_a w_a lk_v cb' ++ wBr cI cZ cJ w_a w_b w') H → va_D A (wCb cI cZ cJ cb_a w_a lk_v cb' ++ wBr cI cZ cJ w_a w_b w') → va_S A s.heap H locs → some (cb', w') = some res → W p l e R s m args below meth c H locs cells slots Q (F0 m 11 ls []))
    {H : Heap} {locs : List Loc} {ls : Array Slot} (hP : va_P (dC, dI) vwCl (wCb cI cZ cJ cb_a w_a lk_v cb ++ wBr cI cZ cJ w_a w_b w) H) (hD : va_D A (wCb cI cZ cJ cb_a w_a lk_v cb ++ wBr cI cZ cJ w_a w_b w)) (hS : va_S A s.heap H locs) (hl : lv_has ls 1 [(0, .ref (cb_a 0))]) (hf : f_C_ChanceBits_startWriting cb w = some res) : W p l e R s m args below meth c H locs cells slots Q (F0 m 0 ls []) := by
  obtain ⟨hx, hb, hml, hown, hts, hK, hA, hRf, hRl, hN, hRc⟩ := id C0
  rw [f_C_ChanceBits_startWriting] at hf
  refine lv_aload_n hx hb d_ChanceBits_startWriting_0 rfl (lv_at hl 0 rfl) ?_
  refine va_get (D := (dC, dI)) (ci := 3) (v := .ref w_a) (C := R_ChanceBits) (T := T_ChanceBits) (N := 6) hx hb hts in_ChanceBits hown hK hP 0 rfl rfl 0 (by decide) (hts _ t_121) (u_same (hts _ t_122)) rfl d_ChanceBits_startWriting_1 ?_
  obtain ⟨w_1, hf1, hf⟩ := bd_ex hf
  try dsimp only at hf
  have hPc := hP.sub (ws' := (wBr cI cZ cJ w_a w_b w)) [2, 3] rfl
  have hDc := hD.sub (ws' := (wBr cI cZ cJ w_a w_b w)) [2, 3] (by decide) rfl
  have hFc := va_free (wc := (wBr cI cZ cJ w_a w_b w)) hD hS hA [2, 3] rfl
  refine va_callv (va_runV (As := []) (rest := []) ⟨hx, hb, hml, hown, hts⟩ (k_ByteRow_removeAll l dC dI cI cZ cJ w_a w_b H.size hf1) (cwV 0 hts (gV t_302 t_303 t_304 t_56 t_305) rfl rfl rfl hd_ByteRow_removeAll ⟨Nat.le_trans (Nat.le_of_ble_eq_true rfl) hRf, Nat.le_trans (Nat.le_of_ble_eq_true rfl) hRl⟩) ⟨kP_blind, va_recv hK hP (ci := 1) (q0 := 2) rfl rfl, kP_at hPc hK hDc hN⟩ rfl rfl hl.1 rfl (lv_room (Nat.le_of_ble_eq_true rfl)) d_ChanceBits_startWriting_4 hRc) hS (fun q _ h => hFc q h) hFc (fun u t H1 locs ht hvm hw hB hz1 hk1 hS => ?_)
  obtain ⟨hP, hD⟩ := kQ_join (wr := (wCb cI cZ cJ cb_a w_a lk_v cb)) (w1 := (wBr cI cZ cJ w_a w_b w_1)) hP hD [2, 3] [0, 1] rfl rfl (by decide) (by decide) ht hk1 hFc hB
  generalize H1 = H at hP hS ⊢
  have hP : va_P (dC, dI) vwCl (wCb cI cZ cJ cb_a w_a lk_v cb ++ wBr cI cZ cJ w_a w_b w_1) H := hP.sub [0, 1, 2, 3] rfl
  have hD : va_D A (wCb cI cZ cJ cb_a w_a lk_v cb ++ wBr cI cZ cJ w_a w_b w_1) := hD.sub [0, 1, 2, 3] (by decide) rfl
  refine lv_aload_n hx hb d_ChanceBits_startWriting_7 rfl (lv_at hl 0 rfl) ?_
  obtain ⟨cb_2, hf1, hf⟩ := bd_ex hf
  try dsimp only at hf
  have hPc := hP.sub (ws' := (wCb cI cZ cJ cb_a w_a lk_v cb)) [0, 1] rfl
  have hDc := hD.sub (ws' := (wCb cI cZ cJ cb_a w_a lk_v cb)) [0, 1] (by decide) rfl
  have hFc := va_free (wc := (wCb cI cZ cJ cb_a w_a lk_v cb)) hD hS hA [0, 1] rfl
  refine va_callv (va_runV (As := []) (rest := []) ⟨hx, hb, hml, hown, hts⟩ (k_C_ChanceBits_forget l dC dI cI cZ cJ cb_a w_a lk_v H.size hf1) (cwV 0 hts (gV t_306 t_308 t_0 t_58 t_309) rfl rfl rfl hd_ChanceBits_forget ⟨Nat.le_trans (Nat.le_of_ble_eq_true rfl) hRf, Nat.le_trans (Nat.le_of_ble_eq_true rfl) hRl⟩) ⟨kP_blind, va_recv hK hP (ci := 3) (q0 := 0) rfl rfl, kP_at hPc hK hDc hN⟩ rfl rfl hl.1 rfl (lv_room (Nat.le_of_ble_eq_true rfl)) d_ChanceBits_startWriting_8 hRc) hS (fun q _ h => hFc q h) hFc (fun u t H1 locs ht hvm hw hB hz1 hk1 hS => ?_)
  obtain ⟨hP, hD⟩ := kQ_join (wr := (wBr cI cZ cJ w_a w_b w_1)) (w1 := (wCb cI cZ cJ cb_a w_a lk_v cb_2)) hP hD [0, 1] [2, 3] rfl rfl (by decide) (by decide) ht hk1 hFc hB
  generalize H1 = H at hP hS ⊢
  have hP : va_P (dC, dI) vwCl (wCb cI cZ cJ cb_a w_a lk_v cb_2 ++ wBr cI cZ cJ w_a w_b w_1) H := hP.sub [2, 3, 0, 1] rfl
  have hD : va_D A (wCb cI cZ cJ cb_a w_a lk_v cb_2 ++ wBr cI cZ cJ w_a w_b w_1) := hD.sub [2, 3, 0, 1] (by decide) rfl
  exact hr11 _ _ _ cb_2 w_1 hP hD hS hf
end
set_option maxHeartbeats 4000000 in
set_option maxRecDepth 100000 in
theorem k_C_ChanceBits_startWriting (l : Launch) (dC : Nat → ClassId) (dI : Nat → Nat → Nat) (cI cZ cJ : ClassId) (cb_a : Nat → Nat) (w_a w_b : Nat) (lk_v : Nat) (sz : Nat) {cb : Cb} {w : Br} {cb' : Cb} {w' : Br} (hf : f_C_ChanceBits_startWriting cb w = some (cb', w')) :
    Met l y_ChanceBits_startWriting ws_ChanceBits_startWriting ({ frames := 2, cells := 0, slots := 0, locals := 43 }) (va_Pc [.ref (cb_a 0)] (kP (dC, dI) vwCl (TYS cI cZ cJ) (wCb cI cZ cJ cb_a w_a lk_v cb ++ wBr cI cZ cJ w_a w_b w) sz)) (va_Qv (fun (_ : Unit) => True) (fun _ t => kQ (dC, dI) vwCl (TYS cI cZ cJ) (wCb cI cZ cJ cb_a w_a lk_v cb ++ wBr cI cZ cJ w_a w_b w) sz (wCb cI cZ cJ cb_a w_a lk_v cb' ++ wBr cI cZ cJ w_a w_b w') t) (va_A (wCb cI cZ cJ cb_a w_a lk_v cb ++ wBr cI cZ cJ w_a w_b w) sz)) 0 0 (va_A (wCb cI cZ cJ cb_a w_a lk_v cb ++ wBr cI cZ cJ w_a w_b w) sz) := by
  refine Met.ofW (cc := c_ChanceBits_startWriting) (maxL := 1) (ret := none) (by decide) rfl ?_
  intro p e s m args below meth c s₁ B hml hv
  obtain ⟨rfl, hsz, hP, hK, hD0, hN⟩ := hv
  have hr := B.returns
  have hlocks := B.notSynchronized
  subst hsz
  have hD := hD0.self (sz := s.heap.size)
  have hl := lv_entry ([.ref (cb_a 0)]) (n := 1) (Nat.le_of_ble_eq_true rfl)
  rw [lg_entry_eq]
  generalize (lg_sl ([.ref (cb_a 0)]) ++ List.replicate (1 - (lg_sl ([.ref (cb_a 0)])).length) Slot.unset).toArray = ls at hl ⊢
  refine B_C_ChanceBits_startWriting (A := va_A (wCb cI cZ cJ cb_a w_a lk_v cb ++ wBr cI cZ cJ w_a w_b w) s.heap.size) ⟨B.exec, B.bytes, hml, findClass_of_methodNamed B.named, fun w h => atoms_spec (ws := ws_ChanceBits_startWriting) B.pre w (List.mem_cons_of_mem _ h), hK, fun q h => Or.inr h, Nat.le_of_ble_eq_true rfl, Nat.le_of_ble_eq_true rfl, hN, Nat.le_of_ble_eq_true rfl, Nat.le_of_ble_eq_true rfl⟩ (fun H locs ls cb'1 w'1 hP hD hS hf => ?_) hP hD va_S.rf hl hf
  · cases hf
    exact W.vret B.exec B.bytes hr (fun t ht hW => ⟨⟨(), rfl, trivial, ⟨by rw [ht]; exact hP, va_K.moved hW.alike hK, hD⟩⟩, hS.F ht⟩) hS.2.2 d_ChanceBits_startWriting_11

/-! C_ChanceBits_putBit -/
def l_C_ChanceBits_putBit_13 (k50 : Cb → Br → Option (Cb × Br)) : Nat → Cb → Br → Int32 → Option (Cb × Br)
  | 0, _, _, _ => none
  | n + 1, cb, w, x3 => (if 4 ≤ x3 then k50 cb w else bd (f_C_ChanceBits_highestBytesAgree cb) <| fun r_6 => (if r_6 = 0 then k50 cb w else bd (f_ByteRow_add w (((Cb_lo cb) >>> ((24 : Int32).toInt64 &&& 63)).toInt32)) <| fun w_8 => bd (f_C_ChanceBits_shift cb) <| fun cb_10 => lt' (x3 + 1) <| fun x3_11 => (l_C_ChanceBits_putBit_13 k50 n) cb_10 w_8 x3_11))
theorem mo_l_C_ChanceBits_putBit_13 {k50 : Cb → Br → Option (Cb × Br)} (hkm50 : ∀ (cb_3 : Cb) (w_4 : Br), mle (k50 cb_3 w_4) (Br_byL w_4) (fun r : Cb × Br => Br_byL r.2)) : ∀ (n : Nat) (cb : Cb) (w : Br) (x3 : Int32), mle (l_C_ChanceBits_putBit_13 k50 n cb w x3) (Br_byL w) (fun r : Cb × Br => Br_byL r.2) := by
  intro n
  induction n with
  | zero => intro cb w x3 r hr; exact absurd hr (by simp [l_C_ChanceBits_putBit_13])
  | succ n ih =>
    intro cb w x3
    rw [l_C_ChanceBits_putBit_13]
    refine mle_if (fun _ => ?_) (fun _ => ?_)
    · exact hkm50 cb w
    · refine mle_bd (fun y9 hy9 => ?_)
      obtain ⟨r_6, rfl⟩ : ∃ z, z = y9 := ⟨_, rfl⟩
      try dsimp only
      refine mle_if (fun _ => ?_) (fun _ => ?_)
      · exact hkm50 cb w
      · refine mle_bd (fun y9 hy9 => ?_)
        obtain ⟨w_8, rfl⟩ : ∃ z, z = y9 := ⟨_, rfl⟩
        try dsimp only
        refine mle_le (mo_ByteRow_add _ hy9) ?_
        try dsimp only
        refine mle_bd (fun y9 hy9 => ?_)
        obtain ⟨cb_10, rfl⟩ : ∃ z, z = y9 := ⟨_, rfl⟩
        try dsimp only
        refine mle_lt (fun x3_11 ex3_11 => ?_)
        exact ih cb_10 w_8 x3_11
def f_C_ChanceBits_putBit (cb : Cb) (w : Br) (x1 : Int32) (x2 : Int32) : Option (Cb × Br) := bd (f_C_ChanceBits_split cb x2) <| fun r_1 => bd (f_C_ChanceBits_narrow cb x1 r_1 x2) <| fun cb_2 => l_C_ChanceBits_putBit_13 (fun cb_12 w_13 => some (cb_12, w_13)) 100000 cb_2 w 0
theorem mo_C_ChanceBits_putBit {cb : Cb} {w : Br} {x1 : Int32} {x2 : Int32} : mle (f_C_ChanceBits_putBit cb w x1 x2) (Br_byL w) (fun r : Cb × Br => Br_byL r.2) := by
  rw [f_C_ChanceBits_putBit]
  refine mle_bd (fun y9 hy9 => ?_)
  obtain ⟨r_1, rfl⟩ : ∃ z, z = y9 := ⟨_, rfl⟩
  try dsimp only
  refine mle_bd (fun y9 hy9 => ?_)
  obtain ⟨cb_2, rfl⟩ : ∃ z, z = y9 := ⟨_, rfl⟩
  try dsimp only
  refine mo_l_C_ChanceBits_putBit_13 (fun cb_12 w_13 => ?_) 100000 cb_2 w 0
  try dsimp only
  exact mle_some (Nat.le_refl _)
section
variable {p : Program} {l : Launch} {e : Env} {R : Room} {s : State} {m : MethodId} {args : Array Value} {below : List Frame} {meth : Method} {c : Code} {Q : State → Prop} {A : Nat → Prop}
set_option maxHeartbeats 4000000 in
set_option maxRecDepth 100000 in
theorem L_C_ChanceBits_putBit_13 {l0 : Nat} {dC : Nat → ClassId} {dI : Nat → Nat → Nat} {cI cZ cJ : ClassId} {cb_a : Nat → Nat} {w_a : Nat} {lk_v : Nat} {k50 : Cb → Br → Option (Cb × Br)} {res : Cb × Br} (C0 : cxt p c m s args R 0 0 R_ChanceBits c_ChanceBits_putBit tb 4 (dC, dI) vwCl (TYS cI cZ cJ) A 3 107) (hRc : gR l0 ((fun r : Cb × Br => Br_byL r.2) res) R)
    (hk50 : ∀ (H : Heap) (locs : List Loc) (ls : Array Slot) (cells slots : Nat) (w_b : Nat) (cb_3 : Cb) (w_4 : Br), gok R l0 (Br_byL w_4) cells slots → va_P (dC, dI) vwCl (wCb cI cZ cJ cb_a w_a lk_v cb_3 ++ wBr cI cZ cJ w_a w_b w_4) H → va_D A (wCb cI cZ cJ cb_a w_a lk_v cb_3 ++ wBr cI cZ cJ w_a w_b w_4) → va_S A s.heap H locs → lv_has ls 4 [] → k50 cb_3 w_4 = some res → W p l e R s m args below meth c H locs cells slots Q (F0 m 50 ls []))
    (hkm50 : ∀ (cb_3 : Cb) (w_4 : Br), mle (k50 cb_3 w_4) (Br_byL w_4) (fun r : Cb × Br => Br_byL r.2)) :
    ∀ (n : Nat) (H : Heap) (locs : List Loc) (ls : Array Slot) (cells slots : Nat) (w_b : Nat) (cb : Cb) (w : Br) (x3 : Int32), gok R l0 (Br_byL w) cells slots → va_P (dC, dI) vwCl (wCb cI cZ cJ cb_a w_a lk_v cb ++ wBr cI cZ cJ w_a w_b w) H → va_D A (wCb cI cZ cJ cb_a w_a lk_v cb ++ wBr cI cZ cJ w_a w_b w) → va_S A s.heap H locs → lv_has ls 4 [(0, .ref (cb_a 0)), (3, .int x3)] → l_C_ChanceBits_putBit_13 k50 n cb w x3 = some res → W p l e R s m args below meth c H locs cells slots Q (F0 m 13 ls []) := by
  obtain ⟨hx, hb, hml, hown, hts, hK, hA, hRf, hRl, hN, _⟩ := id C0
  intro n
  induction n with
  | zero =>
    intro H locs ls cells slots w_b cb w x3 hg hP hD hS hl hf
    exact absurd hf (by simp [l_C_ChanceBits_putBit_13])
  | succ n ih =>
    intro H locs ls cells slots w_b cb w x3 hg hP hD hS hl hf
    rw [l_C_ChanceBits_putBit_13] at hf
    refine lv_iload_n hx hb d_ChanceBits_putBit_13 rfl (lv_at hl 1 rfl) ?_
    refine lv_iconst (v := 4) hx hb d_ChanceBits_putBit_14 (by decide) ?_
    refine lv_icmp_ge (tgt := 50) hx hb d_ChanceBits_putBit_15 (by decide) (fun c_5 => ?_) (fun c_5 => ?_)
    · rw [if_pos c_5] at hf
      exact hk50 _ _ _ _ _ _ cb w hg hP hD hS (lv_sub hl [] rfl) hf
    · rw [if_neg c_5] at hf
      refine lv_aload_n hx hb d_ChanceBits_putBit_18 rfl (lv_at hl 0 rfl) ?_
      obtain ⟨r_6, hf1, hf⟩ := bd_ex hf
      try dsimp only at hf
      have hPc := hP.sub (ws' := (wCb cI cZ cJ cb_a w_a lk_v cb)) [0, 1] rfl
      have hDc := hD.sub (ws' := (wCb cI cZ cJ cb_a w_a lk_v cb)) [0, 1] (by decide) rfl
      have hFc := va_free (wc := (wCb cI cZ cJ cb_a w_a lk_v cb)) hD hS hA [0, 1] rfl
      refine va_calli (va_runV (As := []) (rest := []) ⟨hx, hb, hml, hown, hts⟩ (k_C_ChanceBits_highestBytesAgree l dC dI cI cZ cJ cb_a w_a lk_v H.size hf1) (cwV 0 hts (gV t_349 t_351 t_3 t_58 t_352) rfl rfl rfl hd_ChanceBits_highestBytesAgree ⟨Nat.le_trans (Nat.le_of_ble_eq_true rfl) hRf, Nat.le_trans (Nat.le_of_ble_eq_true rfl) hRl⟩) ⟨kP_blind, va_recv hK hP (ci := 3) (q0 := 0) rfl rfl, kP_at hPc hK hDc hN⟩ rfl rfl hl.1 rfl (lv_room (Nat.le_of_ble_eq_true rfl)) d_ChanceBits_putBit_19 hg.2.2.2) hS (fun q _ h => hFc q h) hFc (fun r9 u t H1 locs ht hvm hw hB hz1 hk1 hS => ?_)
      rw [hw.1]
      obtain ⟨hP, hD⟩ := kQ_join (wr := (wBr cI cZ cJ w_a w_b w)) (w1 := (wCb cI cZ cJ cb_a w_a lk_v cb)) hP hD [0, 1] [2, 3] rfl rfl (by decide) (by decide) ht hk1 hFc hB
      generalize H1 = H at hP hS ⊢
      have hP : va_P (dC, dI) vwCl (wCb cI cZ cJ cb_a w_a lk_v cb ++ wBr cI cZ cJ w_a w_b w) H := hP.sub [2, 3, 0, 1] rfl
      have hD : va_D A (wCb cI cZ cJ cb_a w_a lk_v cb ++ wBr cI cZ cJ w_a w_b w) := hD.sub [2, 3, 0, 1] (by decide) rfl
      refine lv_if_eq (tgt := 50) hx hb d_ChanceBits_putBit_22 (by decide) (fun c_7 => ?_) (fun c_7 => ?_)
      · rw [if_pos c_7] at hf
        exact hk50 _ _ _ _ _ _ cb w hg hP hD hS (lv_sub hl [] rfl) hf
      · rw [if_neg c_7] at hf
        refine lv_aload_n hx hb d_ChanceBits_putBit_25 rfl (lv_at hl 0 rfl) ?_
        refine va_get (D := (dC, dI)) (ci := 3) (v := .ref w_a) (C := R_ChanceBits) (T := T_ChanceBits) (N := 6) hx hb hts in_ChanceBits hown hK hP 0 rfl rfl 0 (by decide) (hts _ t_121) (u_same (hts _ t_122)) rfl d_ChanceBits_putBit_26 ?_
        refine lv_aload_n hx hb d_ChanceBits_putBit_29 rfl (lv_at hl 0 rfl) ?_
        refine va_get (D := (dC, dI)) (ci := 3) (v := .long (Cb_lo cb)) (C := R_ChanceBits) (T := T_ChanceBits) (N := 6) hx hb hts in_ChanceBits hown hK hP 0 rfl rfl 3 (by decide) (hts _ t_117) (fun _ h9 => h9) rfl d_ChanceBits_putBit_30 ?_
        refine lv_bipush (v := 24) hx hb d_ChanceBits_putBit_33 (by decide) ?_
        refine lv_lshr (v := (Cb_lo cb) >>> ((24 : Int32).toInt64 &&& 63)) hx hb d_ChanceBits_putBit_35 rfl ?_
        refine lv_l2i (v := ((Cb_lo cb) >>> ((24 : Int32).toInt64 &&& 63)).toInt32) hx hb d_ChanceBits_putBit_36 rfl ?_
        obtain ⟨w_8, hf1, hf⟩ := bd_ex hf
        try dsimp only at hf
        have hm0 := mo_ByteRow_add _ hf1
        try dsimp only at hm0
        have hm : Br_byL w_8 ≤ (fun r : Cb × Br => Br_byL r.2) res := by
          refine mle_use (π := (fun r : Cb × Br => Br_byL r.2)) hf ?_
          refine mle_bd (fun y9 hy9 => ?_)
          obtain ⟨cb_10, rfl⟩ : ∃ z, z = y9 := ⟨_, rfl⟩
          try dsimp only
          refine mle_lt (fun x3_11 ex3_11 => ?_)
          exact mo_l_C_ChanceBits_putBit_13 hkm50 n cb_10 w_8 x3_11
        have hPc := hP.sub (ws' := (wBr cI cZ cJ w_a w_b w)) [2, 3] rfl
        have hDc := hD.sub (ws' := (wBr cI cZ cJ w_a w_b w)) [2, 3] (by decide) rfl
        have hFc := va_free (wc := (wBr cI cZ cJ w_a w_b w)) hD hS hA [2, 3] rfl
        refine va_callv (va_runV (As := [.int (((Cb_lo cb) >>> ((24 : Int32).toInt64 &&& 63)).toInt32)]) (rest := []) ⟨hx, hb, hml, hown, hts⟩ (k_ByteRow_add l dC dI cI cZ cJ w_a w_b H.size hf1) (cwV 1 hts (gV t_353 t_354 t_355 t_56 t_356) rfl rfl rfl hd_ByteRow_add ⟨Nat.le_trans (Nat.le_of_ble_eq_true rfl) hRf, Nat.le_trans (Nat.le_of_ble_eq_true rfl) hRl⟩) ⟨kP_blind, va_recv hK hP (ci := 1) (q0 := 2) rfl rfl, kP_at hPc hK hDc hN⟩ rfl rfl hl.1 rfl (lv_room (Nat.le_of_ble_eq_true rfl)) d_ChanceBits_putBit_37 (g_room hg hm0 hm hRc)) hS (fun q _ h => hFc q h) hFc (fun w_q_9 t H1 locs ht hvm hw hB hz1 hk1 hS => ?_)
        have hg := g_step (L0 := Br_byL w) (L1 := Br_byL w_8) hg hm0 hm hRc
        generalize cells + (Br_byL w_8 - Br_byL w) = cells at hg ⊢
        generalize slots + 2 * (Br_byL w_8 - Br_byL w) = slots at hg ⊢
        obtain ⟨hP, hD⟩ := kQ_join (wr := (wCb cI cZ cJ cb_a w_a lk_v cb)) (w1 := (wBr cI cZ cJ w_a w_q_9 w_8)) hP hD [2, 3] [0, 1] rfl rfl (by decide) (by decide) ht hk1 hFc hB
        generalize H1 = H at hP hS ⊢
        have hP : va_P (dC, dI) vwCl (wCb cI cZ cJ cb_a w_a lk_v cb ++ wBr cI cZ cJ w_a w_q_9 w_8) H := hP.sub [0, 1, 2, 3] rfl
        have hD : va_D A (wCb cI cZ cJ cb_a w_a lk_v cb ++ wBr cI cZ cJ w_a w_q_9 w_8) := hD.sub [0, 1, 2, 3] (by decide) rfl
        refine lv_aload_n hx hb d_ChanceBits_putBit_40 rfl (lv_at hl 0 rfl) ?_
        obtain ⟨cb_10, hf1, hf⟩ := bd_ex hf
        try dsimp only at hf
        have hPc := hP.sub (ws' := (wCb cI cZ cJ cb_a w_a lk_v cb)) [0, 1] rfl
        have hDc := hD.sub (ws' := (wCb cI cZ cJ cb_a w_a lk_v cb)) [0, 1] (by decide) rfl
        have hFc := va_free (wc := (wCb cI cZ cJ cb_a w_a lk_v cb)) hD hS hA [0, 1] rfl
        refine va_callv (va_runV (As := []) (rest := []) ⟨hx, hb, hml, hown, hts⟩ (k_C_ChanceBits_shift l dC dI cI cZ cJ cb_a w_a lk_v H.size hf1) (cwV 0 hts (gV t_371 t_373 t_4 t_58 t_374) rfl rfl rfl hd_ChanceBits_shift ⟨Nat.le_trans (Nat.le_of_ble_eq_true rfl) hRf, Nat.le_trans (Nat.le_of_ble_eq_true rfl) hRl⟩) ⟨kP_blind, va_recv hK hP (ci := 3) (q0 := 0) rfl rfl, kP_at hPc hK hDc hN⟩ rfl rfl hl.1 rfl (lv_room (Nat.le_of_ble_eq_true rfl)) d_ChanceBits_putBit_41 hg.2.2.2) hS (fun q _ h => hFc q h) hFc (fun u t H1 locs ht hvm hw hB hz1 hk1 hS => ?_)
        obtain ⟨hP, hD⟩ := kQ_join (wr := (wBr cI cZ cJ w_a w_q_9 w_8)) (w1 := (wCb cI cZ cJ cb_a w_a lk_v cb_10)) hP hD [0, 1] [2, 3] rfl rfl (by decide) (by decide) ht hk1 hFc hB
        generalize H1 = H at hP hS ⊢
        have hP : va_P (dC, dI) vwCl (wCb cI cZ cJ cb_a w_a lk_v cb_10 ++ wBr cI cZ cJ w_a w_q_9 w_8) H := hP.sub [2, 3, 0, 1] rfl
        have hD : va_D A (wCb cI cZ cJ cb_a w_a lk_v cb_10 ++ wBr cI cZ cJ w_a w_q_9 w_8) := hD.sub [2, 3, 0, 1] (by decide) rfl
        obtain ⟨x3_11, ex3_11, hf⟩ := lt_ex hf
        try dsimp only at hf
        refine lv_iinc (v := x3_11) (lv' := [(3, .int x3_11), (0, .ref (cb_a 0))]) hx hb d_ChanceBits_putBit_44 hl (k := 1) rfl (by rw [ex3_11]; rfl) (by decide) rfl (fun ls hl => ?_)
        refine lv_goto (tgt := 13) hx hb d_ChanceBits_putBit_47 (by decide) ?_
        exact ih _ _ _ _ _ _ cb_10 w_8 x3_11 hg hP hD hS (lv_sub hl [1, 0] rfl) hf
set_option maxHeartbeats 4000000 in
set_option maxRecDepth 100000 in
theorem B_C_ChanceBits_putBit {cells slots : Nat} {l0 : Nat} {dC : Nat → ClassId} {dI : Nat → Nat → Nat} {cI cZ cJ : ClassId} {cb_a : Nat → Nat} {w_a : Nat} {lk_v : Nat} {w_b : Nat} {cb : Cb} {w : Br} {x1 : Int32} {x2 : Int32} {res : Cb × Br} (C0 : cxt p c m s args R 0 0 R_ChanceBits c_ChanceBits_putBit tb 4 (dC, dI) vwCl (TYS cI cZ cJ) A 3 107) (hRc : gR l0 ((fun r : Cb × Br => Br_byL r.2) res) R)
    (hr50 : ∀ (H : Heap) (locs : List Loc) (ls : Array Slot) (cells slots : Nat) (w_b : Nat) (cb' : Cb) (w' : Br), gok R l0 (Br_byL w') cells slots → va_P (dC, dI) vwCl (wCb cI cZ cJ cb_a w_a lk_v cb' ++ wBr cI cZ cJ w_a w_b w') H → va_D A (wCb cI cZ cJ cb_a w_a lk_v cb' ++ wBr cI cZ cJ w_a w_b w') → va_S A s.heap H locs → some (cb', w') = some res → W p l e R s m args below meth c H locs cells slots Q (F0 m 50 ls []))
    {H : Heap} {locs : List Loc} {ls : Array Slot} (hg : gok R l0 (Br_byL w) cells slots) (hP : va_P (dC, dI) vwCl (wCb cI cZ cJ cb_a w_a lk_v cb ++ wBr cI cZ cJ w_a w_b w) H) (hD : va_D A (wCb cI cZ cJ cb_a w_a lk_v cb ++ wBr cI cZ cJ w_a w_b w)) (hS : va_S A s.heap H locs) (hl : lv_has ls 4 [(0, .ref (cb_a 0)), (1, .int x1), (2, .int x2)]) (hf : f_C_ChanceBits_putBit cb w x1 x2 = some res) : W p l e R s m args below meth c H locs cells slots Q (F0 m 0 ls []) := by
  obtain ⟨hx, hb, hml, hown, hts, hK, hA, hRf, hRl, hN, _⟩ := id C0
  rw [f_C_ChanceBits_putBit] at hf
  refine lv_aload_n hx hb d_ChanceBits_putBit_0 rfl (lv_at hl 0 rfl) ?_
  refine lv_iload_n hx hb d_ChanceBits_putBit_1 rfl (lv_at hl 1 rfl) ?_
  refine lv_aload_n hx hb d_ChanceBits_putBit_2 rfl (lv_at hl 0 rfl) ?_
  refine lv_iload_n hx hb d_ChanceBits_putBit_3 rfl (lv_at hl 2 rfl) ?_
  obtain ⟨r_1, hf1, hf⟩ := bd_ex hf
  try dsimp only at hf
  have hPc := hP.sub (ws' := (wCb cI cZ cJ cb_a w_a lk_v cb)) [0, 1] rfl
  have hDc := hD.sub (ws' := (wCb cI cZ cJ cb_a w_a lk_v cb)) [0, 1] (by decide) rfl
  have hFc := va_free (wc := (wCb cI cZ cJ cb_a w_a lk_v cb)) hD hS hA [0, 1] rfl
  refine va_calll (va_runV (As := [.int x2]) (rest := [.int x1, .ref (cb_a 0)]) ⟨hx, hb, hml, hown, hts⟩ (k_C_ChanceBits_split l dC dI cI cZ cJ cb_a w_a lk_v H.size hf1) (cwV 1 hts (gV t_337 t_339 t_1 t_58 t_340) rfl rfl rfl hd_ChanceBits_split ⟨Nat.le_trans (Nat.le_of_ble_eq_true rfl) hRf, Nat.le_trans (Nat.le_of_ble_eq_true rfl) hRl⟩) ⟨kP_blind, va_recv hK hP (ci := 3) (q0 := 0) rfl rfl, kP_at hPc hK hDc hN⟩ rfl rfl hl.1 rfl (lv_room (Nat.le_of_ble_eq_true rfl)) d_ChanceBits_putBit_4 hg.2.2.2) hS (fun q _ h => hFc q h) hFc (fun r9 u t H1 locs ht hvm hw hB hz1 hk1 hS => ?_)
  rw [hw]
  obtain ⟨hP, hD⟩ := kQ_join (wr := (wBr cI cZ cJ w_a w_b w)) (w1 := (wCb cI cZ cJ cb_a w_a lk_v cb)) hP hD [0, 1] [2, 3] rfl rfl (by decide) (by decide) ht hk1 hFc hB
  generalize H1 = H at hP hS ⊢
  have hP : va_P (dC, dI) vwCl (wCb cI cZ cJ cb_a w_a lk_v cb ++ wBr cI cZ cJ w_a w_b w) H := hP.sub [2, 3, 0, 1] rfl
  have hD : va_D A (wCb cI cZ cJ cb_a w_a lk_v cb ++ wBr cI cZ cJ w_a w_b w) := hD.sub [2, 3, 0, 1] (by decide) rfl
  refine lv_iload_n hx hb d_ChanceBits_putBit_7 rfl (lv_at hl 2 rfl) ?_
  obtain ⟨cb_2, hf1, hf⟩ := bd_ex hf
  try dsimp only at hf
  have hPc := hP.sub (ws' := (wCb cI cZ cJ cb_a w_a lk_v cb)) [0, 1] rfl
  have hDc := hD.sub (ws' := (wCb cI cZ cJ cb_a w_a lk_v cb)) [0, 1] (by decide) rfl
  have hFc := va_free (wc := (wCb cI cZ cJ cb_a w_a lk_v cb)) hD hS hA [0, 1] rfl
  refine va_callv (va_runV (As := [.int x1, .long r_1, .int x2]) (rest := []) ⟨hx, hb, hml, hown, hts⟩ (k_C_ChanceBits_narrow l dC dI cI cZ cJ cb_a w_a lk_v H.size hf1) (cwV 3 hts (gV t_344 t_346 t_2 t_58 t_347) rfl rfl rfl hd_ChanceBits_narrow ⟨Nat.le_trans (Nat.le_of_ble_eq_true rfl) hRf, Nat.le_trans (Nat.le_of_ble_eq_true rfl) hRl⟩) ⟨kP_blind, va_recv hK hP (ci := 3) (q0 := 0) rfl rfl, kP_at hPc hK hDc hN⟩ rfl rfl hl.1 rfl (lv_room (Nat.le_of_ble_eq_true rfl)) d_ChanceBits_putBit_8 hg.2.2.2) hS (fun q _ h => hFc q h) hFc (fun u t H1 locs ht hvm hw hB hz1 hk1 hS => ?_)
  obtain ⟨hP, hD⟩ := kQ_join (wr := (wBr cI cZ cJ w_a w_b w)) (w1 := (wCb cI cZ cJ cb_a w_a lk_v cb_2)) hP hD [0, 1] [2, 3] rfl rfl (by decide) (by decide) ht hk1 hFc hB
  generalize H1 = H at hP hS ⊢
  have hP : va_P (dC, dI) vwCl (wCb cI cZ cJ cb_a w_a lk_v cb_2 ++ wBr cI cZ cJ w_a w_b w) H := hP.sub [2, 3, 0, 1] rfl
  have hD : va_D A (wCb cI cZ cJ cb_a w_a lk_v cb_2 ++ wBr cI cZ cJ w_a w_b w) := hD.sub [2, 3, 0, 1] (by decide) rfl
  refine lv_iconst (v := 0) hx hb d_ChanceBits_putBit_11 (by decide) ?_
  refine lv_istore_n (lv' := [(3, .int 0), (0, .ref (cb_a 0)), (1, .int x1), (2, .int x2)]) hx hb d_ChanceBits_putBit_12 rfl hl (by decide) rfl (fun ls hl => ?_)
  refine L_C_ChanceBits_putBit_13 C0 hRc (fun H locs ls cells slots w_b cb_12 w_13 hg hP hD hS hl hf => ?_) (fun cb_12 w_13 => ?_) 100000 _ _ _ _ _ _ cb_2 w 0 hg hP hD hS (lv_sub hl [1, 0] rfl) hf
  · try dsimp only at hf
    exact hr50 _ _ _ _ _ _ cb_12 w_13 hg hP hD hS hf
  · try dsimp only
    exact mle_some (Nat.le_refl _)
end
set_option maxHeartbeats 4000000 in
set_option maxRecDepth 100000 in
theorem k_C_ChanceBits_putBit (l : Launch) (dC : Nat → ClassId) (dI : Nat → Nat → Nat) (cI cZ cJ : ClassId) (cb_a : Nat → Nat) (w_a w_b : Nat) (lk_v : Nat) (sz : Nat) {cb : Cb} {w : Br} {x1 : Int32} {x2 : Int32} {cb' : Cb} {w' : Br} (hf : f_C_ChanceBits_putBit cb w x1 x2 = some (cb', w')) :
    Met l y_ChanceBits_putBit ws_ChanceBits_putBit ({ frames := 3, cells := (Br_byL w' - Br_byL w), slots := (2 * (Br_byL w' - Br_byL w)), locals := 107 }) (va_Pc [.ref (cb_a 0), .int x1, .int x2] (kP (dC, dI) vwCl (TYS cI cZ cJ) (wCb cI cZ cJ cb_a w_a lk_v cb ++ wBr cI cZ cJ w_a w_b w) sz)) (va_Qv (fun (_ : Nat) => True) (fun q9 t => kQ (dC, dI) vwCl (TYS cI cZ cJ) (wCb cI cZ cJ cb_a w_a lk_v cb ++ wBr cI cZ cJ w_a w_b w) sz (wCb cI cZ cJ cb_a w_a lk_v cb' ++ wBr cI cZ cJ w_a q9 w') t) (va_A (wCb cI cZ cJ cb_a w_a lk_v cb ++ wBr cI cZ cJ w_a w_b w) sz)) (Br_byL w' - Br_byL w) (2 * (Br_byL w' - Br_byL w)) (va_A (wCb cI cZ cJ cb_a w_a lk_v cb ++ wBr cI cZ cJ w_a w_b w) sz) := by
  refine Met.ofW (cc := c_ChanceBits_putBit) (maxL := 4) (ret := none) (by decide) rfl ?_
  intro p e s m args below meth c s₁ B hml hv
  obtain ⟨rfl, hsz, hP, hK, hD0, hN⟩ := hv
  have hr := B.returns
  have hlocks := B.notSynchronized
  subst hsz
  have hD := hD0.self (sz := s.heap.size)
  have hl := lv_entry ([.ref (cb_a 0), .int x1, .int x2]) (n := 4) (Nat.le_of_ble_eq_true rfl)
  rw [lg_entry_eq]
  generalize (lg_sl ([.ref (cb_a 0), .int x1, .int x2]) ++ List.replicate (4 - (lg_sl ([.ref (cb_a 0), .int x1, .int x2])).length) Slot.unset).toArray = ls at hl ⊢
  refine B_C_ChanceBits_putBit (A := va_A (wCb cI cZ cJ cb_a w_a lk_v cb ++ wBr cI cZ cJ w_a w_b w) s.heap.size) ⟨B.exec, B.bytes, hml, findClass_of_methodNamed B.named, fun w h => atoms_spec (ws := ws_ChanceBits_putBit) B.pre w (List.mem_cons_of_mem _ h), hK, fun q h => Or.inr h, Nat.le_of_ble_eq_true rfl, Nat.le_of_ble_eq_true rfl, hN, Nat.zero_le _, Nat.zero_le _⟩ ⟨Nat.le_refl _, Nat.le_refl _⟩ (fun H locs ls cells slots q9 cb'1 w'1 hg hP hD hS hf => ?_) ⟨Nat.le_refl _, Nat.zero_le _, Nat.zero_le _, Nat.zero_le _, Nat.zero_le _⟩ hP hD va_S.rf hl hf
  · cases hf
    refine W.widen (k := (Br_byL w' - Br_byL w)) (n := (2 * (Br_byL w' - Br_byL w))) hg.2.1 hg.2.2.1 ?_
    exact W.vret B.exec B.bytes hr (fun t ht hW => ⟨⟨q9, rfl, trivial, ⟨by rw [ht]; exact hP, va_K.moved hW.alike hK, hD⟩⟩, hS.F ht⟩) hS.2.2 d_ChanceBits_putBit_50

/-! C_ChanceBits_finishWriting -/
def f_C_ChanceBits_finishWriting (cb : Cb) (w : Br) : Option (Br) := lt' ((Cb_lo cb) + 65535) <| fun x1_1 => bd (f_ByteRow_add w (((x1_1 >>> ((24 : Int32).toInt64 &&& 63)).toInt32) &&& 255)) <| fun w_2 => bd (f_ByteRow_add w_2 (((x1_1 >>> ((16 : Int32).toInt64 &&& 63)).toInt32) &&& 255)) <| fun w_4 => some w_4
theorem mo_C_ChanceBits_finishWriting {cb : Cb} {w : Br} : mle (f_C_ChanceBits_finishWriting cb w) (Br_byL w) (fun r : Br => Br_byL r) := by
  rw [f_C_ChanceBits_finishWriting]
  refine mle_lt (fun x1_1 ex1_1 => ?_)
  refine mle_bd (fun y9 hy9 => ?_)
  obtain ⟨w_2, rfl⟩ : ∃ z, z = y9 := ⟨_, rfl⟩
  try dsimp only
  refine mle_le (mo_ByteRow_add _ hy9) ?_
  try dsimp only
  refine mle_bd (fun y9 hy9 => ?_)
  obtain ⟨w_4, rfl⟩ : ∃ z, z = y9 := ⟨_, rfl⟩
  try dsimp only
  refine mle_le (mo_ByteRow_add _ hy9) ?_
  try dsimp only
  exact mle_some (Nat.le_refl _)
section
variable {p : Program} {l : Launch} {e : Env} {R : Room} {s : State} {m : MethodId} {args : Array Value} {below : List Frame} {meth : Method} {c : Code} {Q : State → Prop} {A : Nat → Prop}
set_option maxHeartbeats 4000000 in
set_option maxRecDepth 100000 in
theorem B_C_ChanceBits_finishWriting {cells slots : Nat} {l0 : Nat} {dC : Nat → ClassId} {dI : Nat → Nat → Nat} {cI cZ cJ : ClassId} {cb_a : Nat → Nat} {w_a : Nat} {lk_v : Nat} {w_b : Nat} {cb : Cb} {w : Br} {res : Br} (C0 : cxt p c m s args R 0 0 R_ChanceBits c_ChanceBits_finishWriting tb 3 (dC, dI) vwCl (TYS cI cZ cJ) A 3 107) (hRc : gR l0 ((fun r : Br => Br_byL r) res) R)
    (hr41 : ∀ (H : Heap) (locs : List Loc) (ls : Array Slot) (cells slots : Nat) (w_b : Nat) (w' : Br), gok R l0 (Br_byL w') cells slots → va_P (dC, dI) vwCl (wCb cI cZ cJ cb_a w_a lk_v cb ++ wBr cI cZ cJ w_a w_b w') H → va_D A (wCb cI cZ cJ cb_a w_a lk_v cb ++ wBr cI cZ cJ w_a w_b w') → va_S A s.heap H locs → some w' = some res → W p l e R s m args below meth c H locs cells slots Q (F0 m 41 ls []))
    {H : Heap} {locs : List Loc} {ls : Array Slot} (hg : gok R l0 (Br_byL w) cells slots) (hP : va_P (dC, dI) vwCl (wCb cI cZ cJ cb_a w_a lk_v cb ++ wBr cI cZ cJ w_a w_b w) H) (hD : va_D A (wCb cI cZ cJ cb_a w_a lk_v cb ++ wBr cI cZ cJ w_a w_b w)) (hS : va_S A s.heap H locs) (hl : lv_has ls 3 [(0, .ref (cb_a 0))]) (hf : f_C_ChanceBits_finishWriting cb w = some res) : W p l e R s m args below meth c H locs cells slots Q (F0 m 0 ls []) := by
  obtain ⟨hx, hb, hml, hown, hts, hK, hA, hRf, hRl, hN, _⟩ := id C0
  rw [f_C_ChanceBits_finishWriting] at hf
  refine lv_aload_n hx hb d_ChanceBits_finishWriting_0 rfl (lv_at hl 0 rfl) ?_
  refine va_get (D := (dC, dI)) (ci := 3) (v := .long (Cb_lo cb)) (C := R_ChanceBits) (T := T_ChanceBits) (N := 6) hx hb hts in_ChanceBits hown hK hP 0 rfl rfl 3 (by decide) (hts _ t_117) (fun _ h9 => h9) rfl d_ChanceBits_finishWriting_1 ?_
  refine lv_ldc2 (v := 65535) hx hb hown (hts (.constantLong R_ChanceBits 51 65535) (by decide +kernel)) d_ChanceBits_finishWriting_4 ?_
  refine lv_ladd hx hb d_ChanceBits_finishWriting_7 ?_
  obtain ⟨x1_1, ex1_1, hf⟩ := lt_ex hf
  try dsimp only at hf
  refine tp_l ex1_1 ?_
  refine lv_lstore_n (lv' := [(1, .long x1_1), (0, .ref (cb_a 0))]) hx hb d_ChanceBits_finishWriting_8 rfl hl (by decide) rfl (fun ls hl => ?_)
  refine lv_aload_n hx hb d_ChanceBits_finishWriting_9 rfl (lv_at hl 1 rfl) ?_
  refine va_get (D := (dC, dI)) (ci := 3) (v := .ref w_a) (C := R_ChanceBits) (T := T_ChanceBits) (N := 6) hx hb hts in_ChanceBits hown hK hP 0 rfl rfl 0 (by decide) (hts _ t_121) (u_same (hts _ t_122)) rfl d_ChanceBits_finishWriting_10 ?_
  refine lv_lload_n hx hb d_ChanceBits_finishWriting_13 rfl (lv_at hl 0 rfl) ?_
  refine lv_bipush (v := 24) hx hb d_ChanceBits_finishWriting_14 (by decide) ?_
  refine lv_lshr (v := x1_1 >>> ((24 : Int32).toInt64 &&& 63)) hx hb d_ChanceBits_finishWriting_16 rfl ?_
  refine lv_l2i (v := (x1_1 >>> ((24 : Int32).toInt64 &&& 63)).toInt32) hx hb d_ChanceBits_finishWriting_17 rfl ?_
  refine lv_sipush (v := 255) hx hb d_ChanceBits_finishWriting_18 (by decide) ?_
  refine lv_iand hx hb d_ChanceBits_finishWriting_21 ?_
  obtain ⟨w_2, hf1, hf⟩ := bd_ex hf
  try dsimp only at hf
  have hm0 := mo_ByteRow_add _ hf1
  try dsimp only at hm0
  have hm : Br_byL w_2 ≤ (fun r : Br => Br_byL r) res := by
    refine mle_use (π := (fun r : Br => Br_byL r)) hf ?_
    refine mle_bd (fun y9 hy9 => ?_)
    obtain ⟨w_4, rfl⟩ : ∃ z, z = y9 := ⟨_, rfl⟩
    try dsimp only
    refine mle_le (mo_ByteRow_add _ hy9) ?_
    try dsimp only
    exact mle_some (Nat.le_refl _)
  have hPc := hP.sub (ws' := (wBr cI cZ cJ w_a w_b w)) [2, 3] rfl
  have hDc := hD.sub (ws' := (wBr cI cZ cJ w_a w_b w)) [2, 3] (by decide) rfl
  have hFc := va_free (wc := (wBr cI cZ cJ w_a w_b w)) hD hS hA [2, 3] rfl
  refine va_callv (va_runV (As := [.int (((x1_1 >>> ((24 : Int32).toInt64 &&& 63)).toInt32) &&& 255)]) (rest := []) ⟨hx, hb, hml, hown, hts⟩ (k_ByteRow_add l dC dI cI cZ cJ w_a w_b H.size hf1) (cwV 1 hts (gV t_353 t_354 t_355 t_56 t_356) rfl rfl rfl hd_ByteRow_add ⟨Nat.le_trans (Nat.le_of_ble_eq_true rfl) hRf, Nat.le_trans (Nat.le_of_ble_eq_true rfl) hRl⟩) ⟨kP_blind, va_recv hK hP (ci := 1) (q0 := 2) rfl rfl, kP_at hPc hK hDc hN⟩ rfl rfl hl.1 rfl (lv_room (Nat.le_of_ble_eq_true rfl)) d_ChanceBits_finishWriting_22 (g_room hg hm0 hm hRc)) hS (fun q _ h => hFc q h) hFc (fun w_q_3 t H1 locs ht hvm hw hB hz1 hk1 hS => ?_)
  have hg := g_step (L0 := Br_byL w) (L1 := Br_byL w_2) hg hm0 hm hRc
  generalize cells + (Br_byL w_2 - Br_byL w) = cells at hg ⊢
  generalize slots + 2 * (Br_byL w_2 - Br_byL w) = slots at hg ⊢
  obtain ⟨hP, hD⟩ := kQ_join (wr := (wCb cI cZ cJ cb_a w_a lk_v cb)) (w1 := (wBr cI cZ cJ w_a w_q_3 w_2)) hP hD [2, 3] [0, 1] rfl rfl (by decide) (by decide) ht hk1 hFc hB
  generalize H1 = H at hP hS ⊢
  have hP : va_P (dC, dI) vwCl (wCb cI cZ cJ cb_a w_a lk_v cb ++ wBr cI cZ cJ w_a w_q_3 w_2) H := hP.sub [0, 1, 2, 3] rfl
  have hD : va_D A (wCb cI cZ cJ cb_a w_a lk_v cb ++ wBr cI cZ cJ w_a w_q_3 w_2) := hD.sub [0, 1, 2, 3] (by decide) rfl
  refine lv_aload_n hx hb d_ChanceBits_finishWriting_25 rfl (lv_at hl 1 rfl) ?_
  refine va_get (D := (dC, dI)) (ci := 3) (v := .ref w_a) (C := R_ChanceBits) (T := T_ChanceBits) (N := 6) hx hb hts in_ChanceBits hown hK hP 0 rfl rfl 0 (by decide) (hts _ t_121) (u_same (hts _ t_122)) rfl d_ChanceBits_finishWriting_26 ?_
  refine lv_lload_n hx hb d_ChanceBits_finishWriting_29 rfl (lv_at hl 0 rfl) ?_
  refine lv_bipush (v := 16) hx hb d_ChanceBits_finishWriting_30 (by decide) ?_
  refine lv_lshr (v := x1_1 >>> ((16 : Int32).toInt64 &&& 63)) hx hb d_ChanceBits_finishWriting_32 rfl ?_
  refine lv_l2i (v := (x1_1 >>> ((16 : Int32).toInt64 &&& 63)).toInt32) hx hb d_ChanceBits_finishWriting_33 rfl ?_
  refine lv_sipush (v := 255) hx hb d_ChanceBits_finishWriting_34 (by decide) ?_
  refine lv_iand hx hb d_ChanceBits_finishWriting_37 ?_
  obtain ⟨w_4, hf1, hf⟩ := bd_ex hf
  try dsimp only at hf
  have hm0 := mo_ByteRow_add _ hf1
  try dsimp only at hm0
  have hm : Br_byL w_4 ≤ (fun r : Br => Br_byL r) res := by
    refine mle_use (π := (fun r : Br => Br_byL r)) hf ?_
    exact mle_some (Nat.le_refl _)
  have hPc := hP.sub (ws' := (wBr cI cZ cJ w_a w_q_3 w_2)) [2, 3] rfl
  have hDc := hD.sub (ws' := (wBr cI cZ cJ w_a w_q_3 w_2)) [2, 3] (by decide) rfl
  have hFc := va_free (wc := (wBr cI cZ cJ w_a w_q_3 w_2)) hD hS hA [2, 3] rfl
  refine va_callv (va_runV (As := [.int (((x1_1 >>> ((16 : Int32).toInt64 &&& 63)).toInt32) &&& 255)]) (rest := []) ⟨hx, hb, hml, hown, hts⟩ (k_ByteRow_add l dC dI cI cZ cJ w_a w_q_3 H.size hf1) (cwV 1 hts (gV t_353 t_354 t_355 t_56 t_356) rfl rfl rfl hd_ByteRow_add ⟨Nat.le_trans (Nat.le_of_ble_eq_true rfl) hRf, Nat.le_trans (Nat.le_of_ble_eq_true rfl) hRl⟩) ⟨kP_blind, va_recv hK hP (ci := 1) (q0 := 2) rfl rfl, kP_at hPc hK hDc hN⟩ rfl rfl hl.1 rfl (lv_room (Nat.le_of_ble_eq_true rfl)) d_ChanceBits_finishWriting_38 (g_room hg hm0 hm hRc)) hS (fun q _ h => hFc q h) hFc (fun w_q_5 t H1 locs ht hvm hw hB hz1 hk1 hS => ?_)
  have hg := g_step (L0 := Br_byL w_2) (L1 := Br_byL w_4) hg hm0 hm hRc
  generalize cells + (Br_byL w_4 - Br_byL w_2) = cells at hg ⊢
  generalize slots + 2 * (Br_byL w_4 - Br_byL w_2) = slots at hg ⊢
  obtain ⟨hP, hD⟩ := kQ_join (wr := (wCb cI cZ cJ cb_a w_a lk_v cb)) (w1 := (wBr cI cZ cJ w_a w_q_5 w_4)) hP hD [2, 3] [0, 1] rfl rfl (by decide) (by decide) ht hk1 hFc hB
  generalize H1 = H at hP hS ⊢
  have hP : va_P (dC, dI) vwCl (wCb cI cZ cJ cb_a w_a lk_v cb ++ wBr cI cZ cJ w_a w_q_5 w_4) H := hP.sub [0, 1, 2, 3] rfl
  have hD : va_D A (wCb cI cZ cJ cb_a w_a lk_v cb ++ wBr cI cZ cJ w_a w_q_5 w_4) := hD.sub [0, 1, 2, 3] (by decide) rfl
  exact hr41 _ _ _ _ _ _ w_4 hg hP hD hS hf
end
set_option maxHeartbeats 4000000 in
set_option maxRecDepth 100000 in
theorem k_C_ChanceBits_finishWriting (l : Launch) (dC : Nat → ClassId) (dI : Nat → Nat → Nat) (cI cZ cJ : ClassId) (cb_a : Nat → Nat) (w_a w_b : Nat) (lk_v : Nat) (sz : Nat) {cb : Cb} {w : Br} {w' : Br} (hf : f_C_ChanceBits_finishWriting cb w = some w') :
    Met l y_ChanceBits_finishWriting ws_ChanceBits_finishWriting ({ frames := 3, cells := (Br_byL w' - Br_byL w), slots := (2 * (Br_byL w' - Br_byL w)), locals := 107 }) (va_Pc [.ref (cb_a 0)] (kP (dC, dI) vwCl (TYS cI cZ cJ) (wCb cI cZ cJ cb_a w_a lk_v cb ++ wBr cI cZ cJ w_a w_b w) sz)) (va_Qv (fun (_ : Nat) => True) (fun q9 t => kQ (dC, dI) vwCl (TYS cI cZ cJ) (wCb cI cZ cJ cb_a w_a lk_v cb ++ wBr cI cZ cJ w_a w_b w) sz (wCb cI cZ cJ cb_a w_a lk_v cb ++ wBr cI cZ cJ w_a q9 w') t) (va_A (wCb cI cZ cJ cb_a w_a lk_v cb ++ wBr cI cZ cJ w_a w_b w) sz)) (Br_byL w' - Br_byL w) (2 * (Br_byL w' - Br_byL w)) (va_A (wCb cI cZ cJ cb_a w_a lk_v cb ++ wBr cI cZ cJ w_a w_b w) sz) := by
  refine Met.ofW (cc := c_ChanceBits_finishWriting) (maxL := 3) (ret := none) (by decide) rfl ?_
  intro p e s m args below meth c s₁ B hml hv
  obtain ⟨rfl, hsz, hP, hK, hD0, hN⟩ := hv
  have hr := B.returns
  have hlocks := B.notSynchronized
  subst hsz
  have hD := hD0.self (sz := s.heap.size)
  have hl := lv_entry ([.ref (cb_a 0)]) (n := 3) (Nat.le_of_ble_eq_true rfl)
  rw [lg_entry_eq]
  generalize (lg_sl ([.ref (cb_a 0)]) ++ List.replicate (3 - (lg_sl ([.ref (cb_a 0)])).length) Slot.unset).toArray = ls at hl ⊢
  refine B_C_ChanceBits_finishWriting (A := va_A (wCb cI cZ cJ cb_a w_a lk_v cb ++ wBr cI cZ cJ w_a w_b w) s.heap.size) ⟨B.exec, B.bytes, hml, findClass_of_methodNamed B.named, fun w h => atoms_spec (ws := ws_ChanceBits_finishWriting) B.pre w (List.mem_cons_of_mem _ h), hK, fun q h => Or.inr h, Nat.le_of_ble_eq_true rfl, Nat.le_of_ble_eq_true rfl, hN, Nat.zero_le _, Nat.zero_le _⟩ ⟨Nat.le_refl _, Nat.le_refl _⟩ (fun H locs ls cells slots q9 w'1 hg hP hD hS hf => ?_) ⟨Nat.le_refl _, Nat.zero_le _, Nat.zero_le _, Nat.zero_le _, Nat.zero_le _⟩ hP hD va_S.rf hl hf
  · cases hf
    refine W.widen (k := (Br_byL w' - Br_byL w)) (n := (2 * (Br_byL w' - Br_byL w))) hg.2.1 hg.2.2.1 ?_
    exact W.vret B.exec B.bytes hr (fun t ht hW => ⟨⟨q9, rfl, trivial, ⟨by rw [ht]; exact hP, va_K.moved hW.alike hK, hD⟩⟩, hS.F ht⟩) hS.2.2 d_ChanceBits_finishWriting_41

/-! P_Bits_putBits -/
def l_P_Bits_putBits_4 (x1 : Int32) (k24 : Pb → Br → Option (Pb × Br)) : Nat → Pb → Br → Int32 → Option (Pb × Br)
  | 0, _, _, _ => none
  | n + 1, pb, w, x3 => (if x3 < 0 then k24 pb w else bd (f_P_PlainBits_putBit pb w ((x1 >>> (x3 &&& 31)) &&& 1) (-1)) <| fun (pb_5, w_6) => lt' (x3 + (-1)) <| fun x3_8 => (l_P_Bits_putBits_4 x1 k24 n) pb_5 w_6 x3_8)
theorem mo_l_P_Bits_putBits_4 {x1 : Int32} {k24 : Pb → Br → Option (Pb × Br)} (hkm24 : ∀ (pb_2 : Pb) (w_3 : Br), mle (k24 pb_2 w_3) (Br_byL w_3) (fun r : Pb × Br => Br_byL r.2)) : ∀ (n : Nat) (pb : Pb) (w : Br) (x3 : Int32), mle (l_P_Bits_putBits_4 x1 k24 n pb w x3) (Br_byL w) (fun r : Pb × Br => Br_byL r.2) := by
  intro n
  induction n with
  | zero => intro pb w x3 r hr; exact absurd hr (by simp [l_P_Bits_putBits_4])
  | succ n ih =>
    intro pb w x3
    rw [l_P_Bits_putBits_4]
    refine mle_if (fun _ => ?_) (fun _ => ?_)
    · exact hkm24 pb w
    · refine mle_bd (fun y9 hy9 => ?_)
      obtain ⟨pb_5, w_6⟩ := y9
      try dsimp only
      refine mle_le (mo_P_PlainBits_putBit _ hy9) ?_
      try dsimp only
      refine mle_lt (fun x3_8 ex3_8 => ?_)
      exact ih pb_5 w_6 x3_8
def f_P_Bits_putBits (pb : Pb) (w : Br) (x1 : Int32) (x2 : Int32) : Option (Pb × Br) := lt' (x2 - 1) <| fun x3_1 => l_P_Bits_putBits_4 x1 (fun pb_9 w_10 => some (pb_9, w_10)) 100000 pb w x3_1
theorem mo_P_Bits_putBits {pb : Pb} {w : Br} {x1 : Int32} {x2 : Int32} : mle (f_P_Bits_putBits pb w x1 x2) (Br_byL w) (fun r : Pb × Br => Br_byL r.2) := by
  rw [f_P_Bits_putBits]
  refine mle_lt (fun x3_1 ex3_1 => ?_)
  refine mo_l_P_Bits_putBits_4 (fun pb_9 w_10 => ?_) 100000 pb w x3_1
  try dsimp only
  exact mle_some (Nat.le_refl _)
section
variable {p : Program} {l : Launch} {e : Env} {R : Room} {s : State} {m : MethodId} {args : Array Value} {below : List Frame} {meth : Method} {c : Code} {Q : State → Prop} {A : Nat → Prop}
set_option maxHeartbeats 4000000 in
set_option maxRecDepth 100000 in
theorem L_P_Bits_putBits_4 {l0 : Nat} {dC : Nat → ClassId} {dI : Nat → Nat → Nat} {cI cZ cJ : ClassId} {pb_a : Nat → Nat} {w_a : Nat} {lk_v : Nat} {x1 : Int32} {k24 : Pb → Br → Option (Pb × Br)} {res : Pb × Br} (C0 : cxt p c m s args R 0 0 R_Bits c_Bits_putBits tb 4 (dC, dI) vwCl (TYS cI cZ cJ) A 4 129) (hRc : gR l0 ((fun r : Pb × Br => Br_byL r.2) res) R)
    (hk24 : ∀ (H : Heap) (locs : List Loc) (ls : Array Slot) (cells slots : Nat) (w_b : Nat) (pb_2 : Pb) (w_3 : Br), gok R l0 (Br_byL w_3) cells slots → va_P (dC, dI) vwCl (wPb cI cZ cJ pb_a w_a lk_v pb_2 ++ wBr cI cZ cJ w_a w_b w_3) H → va_D A (wPb cI cZ cJ pb_a w_a lk_v pb_2 ++ wBr cI cZ cJ w_a w_b w_3) → va_S A s.heap H locs → lv_has ls 4 [] → k24 pb_2 w_3 = some res → W p l e R s m args below meth c H locs cells slots Q (F0 m 24 ls []))
    (hkm24 : ∀ (pb_2 : Pb) (w_3 : Br), mle (k24 pb_2 w_3) (Br_byL w_3) (fun r : Pb × Br => Br_byL r.2)) :
    ∀ (n : Nat) (H : Heap) (locs : List Loc) (ls : Array Slot) (cells slots : Nat) (w_b : Nat) (pb : Pb) (w : Br) (x3 : Int32), gok R l0 (Br_byL w) cells slots → va_P (dC, dI) vwCl (wPb cI cZ cJ pb_a w_a lk_v pb ++ wBr cI cZ cJ w_a w_b w) H → va_D A (wPb cI cZ cJ pb_a w_a lk_v pb ++ wBr cI cZ cJ w_a w_b w) → va_S A s.heap H locs → lv_has ls 4 [(0, .ref (pb_a 0)), (1, .int x1), (3, .int x3)] → l_P_Bits_putBits_4 x1 k24 n pb w x3 = some res → W p l e R s m args below meth c H locs cells slots Q (F0 m 4 ls []) := by
  obtain ⟨hx, hb, hml, hown, hts, hK, hA, hRf, hRl, hN, _⟩ := id C0
  intro n
  induction n with
  | zero =>
    intro H locs ls cells slots w_b pb w x3 hg hP hD hS hl hf
    exact absurd hf (by simp [l_P_Bits_putBits_4])
  | succ n ih =>
    intro H locs ls cells slots w_b pb w x3 hg hP hD hS hl hf
    rw [l_P_Bits_putBits_4] at hf
    refine lv_iload_n hx hb d_Bits_putBits_4 rfl (lv_at hl 2 rfl) ?_
    refine lv_if_lt (tgt := 24) hx hb d_Bits_putBits_5 (by decide) (fun c_4 => ?_) (fun c_4 => ?_)
    · rw [if_pos c_4] at hf
      exact hk24 _ _ _ _ _ _ pb w hg hP hD hS (lv_sub hl [] rfl) hf
    · rw [if_neg c_4] at hf
      refine lv_aload_n hx hb d_Bits_putBits_8 rfl (lv_at hl 0 rfl) ?_
      refine lv_iload_n hx hb d_Bits_putBits_9 rfl (lv_at hl 1 rfl) ?_
      refine lv_iload_n hx hb d_Bits_putBits_10 rfl (lv_at hl 2 rfl) ?_
      refine lv_ishr hx hb d_Bits_putBits_11 ?_
      refine lv_iconst (v := 1) hx hb d_Bits_putBits_12 (by decide) ?_
      refine lv_iand hx hb d_Bits_putBits_13 ?_
      refine lv_iconst (v := (-1)) hx hb d_Bits_putBits_14 (by decide) ?_
      obtain ⟨⟨pb_5, w_6⟩, hf1, hf⟩ := bd_ex hf
      try dsimp only at hf
      have hm0 := mo_P_PlainBits_putBit _ hf1
      try dsimp only at hm0
      have hm : Br_byL w_6 ≤ (fun r : Pb × Br => Br_byL r.2) res := by
        refine mle_use (π := (fun r : Pb × Br => Br_byL r.2)) hf ?_
        refine mle_lt (fun x3_8 ex3_8 => ?_)
        exact mo_l_P_Bits_putBits_4 hkm24 n pb_5 w_6 x3_8
      have hPc := hP.sub (ws' := (wPb cI cZ cJ pb_a w_a lk_v pb ++ wBr cI cZ cJ w_a w_b w)) [0, 1, 2] rfl
      have hDc := hD.sub (ws' := (wPb cI cZ cJ pb_a w_a lk_v pb ++ wBr cI cZ cJ w_a w_b w)) [0, 1, 2] (by decide) rfl
      have hFc := va_free (wc := (wPb cI cZ cJ pb_a w_a lk_v pb ++ wBr cI cZ cJ w_a w_b w)) hD hS hA [0, 1, 2] rfl
      refine va_callv (va_runU (As := [.int ((x1 >>> (x3 &&& 31)) &&& 1), .int (-1)]) (rest := []) ⟨hx, hb, hml, hown, hts⟩ (k_P_PlainBits_putBit l dC dI cI cZ cJ pb_a w_a w_b lk_v H.size hf1) (va_cwA 2 hts (gU t_331 t_333 t_377 t_378 t_59 t_379) rfl rfl rfl (hN.2 _ (by decide +kernel)) hdx_Bits_putBit ⟨Nat.le_trans (Nat.le_of_ble_eq_true rfl) hRf, Nat.le_trans (Nat.le_of_ble_eq_true rfl) hRl⟩) ⟨kP_blind, va_recv hK hP (ci := 2) (q0 := 0) rfl rfl, kP_at hPc hK hDc hN⟩ rfl rfl hl.1 rfl (lv_room (Nat.le_of_ble_eq_true rfl)) d_Bits_putBits_15 (g_room hg hm0 hm hRc)) hS (fun q _ h => hFc q h) hFc (fun w_q_7 t H1 locs ht hvm hw hB hz1 hk1 hS => ?_)
      have hg := g_step (L0 := Br_byL w) (L1 := Br_byL w_6) hg hm0 hm hRc
      generalize cells + (Br_byL w_6 - Br_byL w) = cells at hg ⊢
      generalize slots + 2 * (Br_byL w_6 - Br_byL w) = slots at hg ⊢
      obtain ⟨hP, hD⟩ := kQ_join (wr := ([] : va_W)) (w1 := (wPb cI cZ cJ pb_a w_a lk_v pb_5 ++ wBr cI cZ cJ w_a w_q_7 w_6)) hP hD [0, 1, 2] [] rfl rfl (by decide) (by decide) ht hk1 hFc hB
      generalize H1 = H at hP hS ⊢
      have hP : va_P (dC, dI) vwCl (wPb cI cZ cJ pb_a w_a lk_v pb_5 ++ wBr cI cZ cJ w_a w_q_7 w_6) H := hP.sub [0, 1, 2] rfl
      have hD : va_D A (wPb cI cZ cJ pb_a w_a lk_v pb_5 ++ wBr cI cZ cJ w_a w_q_7 w_6) := hD.sub [0, 1, 2] (by decide) rfl
      obtain ⟨x3_8, ex3_8, hf⟩ := lt_ex hf
      try dsimp only at hf
      refine lv_iinc (v := x3_8) (lv' := [(3, .int x3_8), (0, .ref (pb_a 0)), (1, .int x1)]) hx hb d_Bits_putBits_18 hl (k := 2) rfl (by rw [ex3_8]; rfl) (by decide) rfl (fun ls hl => ?_)
      refine lv_goto (tgt := 4) hx hb d_Bits_putBits_21 (by decide) ?_
      exact ih _ _ _ _ _ _ pb_5 w_6 x3_8 hg hP hD hS (lv_sub hl [1, 2, 0] rfl) hf
set_option maxHeartbeats 4000000 in
set_option maxRecDepth 100000 in
theorem B_P_Bits_putBits {cells slots : Nat} {l0 : Nat} {dC : Nat → ClassId} {dI : Nat → Nat → Nat} {cI cZ cJ : ClassId} {pb_a : Nat → Nat} {w_a : Nat} {lk_v : Nat} {w_b : Nat} {pb : Pb} {w : Br} {x1 : Int32} {x2 : Int32} {res : Pb × Br} (C0 : cxt p c m s args R 0 0 R_Bits c_Bits_putBits tb 4 (dC, dI) vwCl (TYS cI cZ cJ) A 4 129) (hRc : gR l0 ((fun r : Pb × Br => Br_byL r.2) res) R)
    (hr24 : ∀ (H : Heap) (locs : List Loc) (ls : Array Slot) (cells slots : Nat) (w_b : Nat) (pb' : Pb) (w' : Br), gok R l0 (Br_byL w') cells slots → va_P (dC, dI) vwCl (wPb cI cZ cJ pb_a w_a lk_v pb' ++ wBr cI cZ cJ w_a w_b w') H → va_D A (wPb cI cZ cJ pb_a w_a lk_v pb' ++ wBr cI cZ cJ w_a w_b w') → va_S A s.heap H locs → some (pb', w') = some res → W p l e R s m args below meth c H locs cells slots Q (F0 m 24 ls []))
    {H : Heap} {locs : List Loc} {ls : Array Slot} (hg : gok R l0 (Br_byL w) cells slots) (hP : va_P (dC, dI) vwCl (wPb cI cZ cJ pb_a w_a lk_v pb ++ wBr cI cZ cJ w_a w_b w) H) (hD : va_D A (wPb cI cZ cJ pb_a w_a lk_v pb ++ wBr cI cZ cJ w_a w_b w)) (hS : va_S A s.heap H locs) (hl : lv_has ls 4 [(0, .ref (pb_a 0)), (1, .int x1), (2, .int x2)]) (hf : f_P_Bits_putBits pb w x1 x2 = some res) : W p l e R s m args below meth c H locs cells slots Q (F0 m 0 ls []) := by
  obtain ⟨hx, hb, hml, hown, hts, hK, hA, hRf, hRl, hN, _⟩ := id C0
  rw [f_P_Bits_putBits] at hf
  refine lv_iload_n hx hb d_Bits_putBits_0 rfl (lv_at hl 2 rfl) ?_
  refine lv_iconst (v := 1) hx hb d_Bits_putBits_1 (by decide) ?_
  refine lv_isub hx hb d_Bits_putBits_2 ?_
  obtain ⟨x3_1, ex3_1, hf⟩ := lt_ex hf
  try dsimp only at hf
  refine tp_i ex3_1 ?_
  refine lv_istore_n (lv' := [(3, .int x3_1), (0, .ref (pb_a 0)), (1, .int x1), (2, .int x2)]) hx hb d_Bits_putBits_3 rfl hl (by decide) rfl (fun ls hl => ?_)
  refine L_P_Bits_putBits_4 C0 hRc (fun H locs ls cells slots w_b pb_9 w_10 hg hP hD hS hl hf => ?_) (fun pb_9 w_10 => ?_) 100000 _ _ _ _ _ _ pb w x3_1 hg hP hD hS (lv_sub hl [1, 2, 0] rfl) hf
  · try dsimp only at hf
    exact hr24 _ _ _ _ _ _ pb_9 w_10 hg hP hD hS hf
  · try dsimp only
    exact mle_some (Nat.le_refl _)
end
set_option maxHeartbeats 4000000 in
set_option maxRecDepth 100000 in
theorem k_P_Bits_putBits (l : Launch) (dC : Nat → ClassId) (dI : Nat → Nat → Nat) (cI cZ cJ : ClassId) (pb_a : Nat → Nat) (w_a w_b : Nat) (lk_v : Nat) (sz : Nat) {pb : Pb} {w : Br} {x1 : Int32} {x2 : Int32} {pb' : Pb} {w' : Br} (hf : f_P_Bits_putBits pb w x1 x2 = some (pb', w')) :
    Met l y_Bits_putBits ws_Bits_putBits ({ frames := 4, cells := (Br_byL w' - Br_byL w), slots := (2 * (Br_byL w' - Br_byL w)), locals := 129 }) (va_Pc [.ref (pb_a 0), .int x1, .int x2] (kP (dC, dI) vwCl (TYS cI cZ cJ) (wPb cI cZ cJ pb_a w_a lk_v pb ++ wBr cI cZ cJ w_a w_b w) sz)) (va_Qv (fun (_ : Nat) => True) (fun q9 t => kQ (dC, dI) vwCl (TYS cI cZ cJ) (wPb cI cZ cJ pb_a w_a lk_v pb ++ wBr cI cZ cJ w_a w_b w) sz (wPb cI cZ cJ pb_a w_a lk_v pb' ++ wBr cI cZ cJ w_a q9 w') t) (va_A (wPb cI cZ cJ pb_a w_a lk_v pb ++ wBr cI cZ cJ w_a w_b w) sz)) (Br_byL w' - Br_byL w) (2 * (Br_byL w' - Br_byL w)) (va_A (wPb cI cZ cJ pb_a w_a lk_v pb ++ wBr cI cZ cJ w_a w_b w) sz) := by
  refine Met.ofW (cc := c_Bits_putBits) (maxL := 4) (ret := none) (by decide) rfl ?_
  intro p e s m args below meth c s₁ B hml hv
  obtain ⟨rfl, hsz, hP, hK, hD0, hN⟩ := hv
  have hr := B.returns
  have hlocks := B.notSynchronized
  subst hsz
  have hD := hD0.self (sz := s.heap.size)
  have hl := lv_entry ([.ref (pb_a 0), .int x1, .int x2]) (n := 4) (Nat.le_of_ble_eq_true rfl)
  rw [lg_entry_eq]
  generalize (lg_sl ([.ref (pb_a 0), .int x1, .int x2]) ++ List.replicate (4 - (lg_sl ([.ref (pb_a 0), .int x1, .int x2])).length) Slot.unset).toArray = ls at hl ⊢
  refine B_P_Bits_putBits (A := va_A (wPb cI cZ cJ pb_a w_a lk_v pb ++ wBr cI cZ cJ w_a w_b w) s.heap.size) ⟨B.exec, B.bytes, hml, findClass_of_methodNamed B.named, fun w h => atoms_spec (ws := ws_Bits_putBits) B.pre w (List.mem_cons_of_mem _ h), hK, fun q h => Or.inr h, Nat.le_of_ble_eq_true rfl, Nat.le_of_ble_eq_true rfl, hN, Nat.zero_le _, Nat.zero_le _⟩ ⟨Nat.le_refl _, Nat.le_refl _⟩ (fun H locs ls cells slots q9 pb'1 w'1 hg hP hD hS hf => ?_) ⟨Nat.le_refl _, Nat.zero_le _, Nat.zero_le _, Nat.zero_le _, Nat.zero_le _⟩ hP hD va_S.rf hl hf
  · cases hf
    refine W.widen (k := (Br_byL w' - Br_byL w)) (n := (2 * (Br_byL w' - Br_byL w))) hg.2.1 hg.2.2.1 ?_
    exact W.vret B.exec B.bytes hr (fun t ht hW => ⟨⟨q9, rfl, trivial, ⟨by rw [ht]; exact hP, va_K.moved hW.alike hK, hD⟩⟩, hS.F ht⟩) hS.2.2 d_Bits_putBits_24

/-! P_Bits_putNumber -/
def l_P_Bits_putNumber_6 (pb : Pb) (w : Br) (x2 : Int32) (k26 : Int32 → Option (Pb × Br)) : Nat → Int32 → Option (Pb × Br)
  | 0, _ => none
  | n + 1, x3 => (if 8 ≤ x3 then k26 x3 else (if (x2 >>> ((x3 + 1) &&& 31)) = 0 then k26 x3 else lt' (x3 + 1) <| fun x3_5 => (l_P_Bits_putNumber_6 pb w x2 k26 n) x3_5))
theorem mo_l_P_Bits_putNumber_6 {pb : Pb} {w : Br} {x2 : Int32} {k26 : Int32 → Option (Pb × Br)} (hkm26 : ∀ (x3_2 : Int32), mle (k26 x3_2) (Br_byL w) (fun r : Pb × Br => Br_byL r.2)) : ∀ (n : Nat) (x3 : Int32), mle (l_P_Bits_putNumber_6 pb w x2 k26 n x3) (Br_byL w) (fun r : Pb × Br => Br_byL r.2) := by
  intro n
  induction n with
  | zero => intro x3 r hr; exact absurd hr (by simp [l_P_Bits_putNumber_6])
  | succ n ih =>
    intro x3
    rw [l_P_Bits_putNumber_6]
    refine mle_if (fun _ => ?_) (fun _ => ?_)
    · exact hkm26 x3
    · refine mle_if (fun _ => ?_) (fun _ => ?_)
      · exact hkm26 x3
      · refine mle_lt (fun x3_5 ex3_5 => ?_)
        exact ih x3_5
def f_P_Bits_putNumber (pb : Pb) (w : Br) (x1 : Int32) : Option (Pb × Br) := lt' (x1 + 1) <| fun x2_1 => l_P_Bits_putNumber_6 pb w x2_1 (fun x3_6 => bd (f_P_Bits_putBits pb w x2_1 ((2 * x3_6) + 1)) <| fun (pb_7, w_8) => some (pb_7, w_8)) 100000 0
theorem mo_P_Bits_putNumber {pb : Pb} {w : Br} {x1 : Int32} : mle (f_P_Bits_putNumber pb w x1) (Br_byL w) (fun r : Pb × Br => Br_byL r.2) := by
  rw [f_P_Bits_putNumber]
  refine mle_lt (fun x2_1 ex2_1 => ?_)
  refine mo_l_P_Bits_putNumber_6 (fun x3_6 => ?_) 100000 0
  try dsimp only
  refine mle_bd (fun y9 hy9 => ?_)
  obtain ⟨pb_7, w_8⟩ := y9
  try dsimp only
  refine mle_le (mo_P_Bits_putBits _ hy9) ?_
  try dsimp only
  exact mle_some (Nat.le_refl _)
section
variable {p : Program} {l : Launch} {e : Env} {R : Room} {s : State} {m : MethodId} {args : Array Value} {below : List Frame} {meth : Method} {c : Code} {Q : State → Prop} {A : Nat → Prop}
set_option maxHeartbeats 4000000 in
set_option maxRecDepth 100000 in
theorem L_P_Bits_putNumber_6 {l0 : Nat} {dC : Nat → ClassId} {dI : Nat → Nat → Nat} {cI cZ cJ : ClassId} {pb_a : Nat → Nat} {w_a : Nat} {lk_v : Nat} {pb : Pb} {w : Br} {x2 : Int32} {k26 : Int32 → Option (Pb × Br)} {res : Pb × Br} (C0 : cxt p c m s args R 0 0 R_Bits c_Bits_putNumber tb 4 (dC, dI) vwCl (TYS cI cZ cJ) A 5 152) (hRc : gR l0 ((fun r : Pb × Br => Br_byL r.2) res) R)
    (hk26 : ∀ (H : Heap) (locs : List Loc) (ls : Array Slot) (cells slots : Nat) (w_b : Nat) (x3_2 : Int32), gok R l0 (Br_byL w) cells slots → va_P (dC, dI) vwCl (wPb cI cZ cJ pb_a w_a lk_v pb ++ wBr cI cZ cJ w_a w_b w) H → va_D A (wPb cI cZ cJ pb_a w_a lk_v pb ++ wBr cI cZ cJ w_a w_b w) → va_S A s.heap H locs → lv_has ls 4 [(0, .ref (pb_a 0)), (2, .int x2), (3, .int x3_2)] → k26 x3_2 = some res → W p l e R s m args below meth c H locs cells slots Q (F0 m 26 ls []))
    (hkm26 : ∀ (x3_2 : Int32), mle (k26 x3_2) (Br_byL w) (fun r : Pb × Br => Br_byL r.2)) :
    ∀ (n : Nat) (H : Heap) (locs : List Loc) (ls : Array Slot) (cells slots : Nat) (w_b : Nat) (x3 : Int32), gok R l0 (Br_byL w) cells slots → va_P (dC, dI) vwCl (wPb cI cZ cJ pb_a w_a lk_v pb ++ wBr cI cZ cJ w_a w_b w) H → va_D A (wPb cI cZ cJ pb_a w_a lk_v pb ++ wBr cI cZ cJ w_a w_b w) → va_S A s.heap H locs → lv_has ls 4 [(0, .ref (pb_a 0)), (2, .int x2), (3, .int x3)] → l_P_Bits_putNumber_6 pb w x2 k26 n x3 = some res → W p l e R s m args below meth c H locs cells slots Q (F0 m 6 ls []) := by
  obtain ⟨hx, hb, hml, hown, hts, hK, hA, hRf, hRl, hN, _⟩ := id C0
  intro n
  induction n with
  | zero =>
    intro H locs ls cells slots w_b x3 hg hP hD hS hl hf
    exact absurd hf (by simp [l_P_Bits_putNumber_6])
  | succ n ih =>
    intro H locs ls cells slots w_b x3 hg hP hD hS hl hf
    rw [l_P_Bits_putNumber_6] at hf
    refine lv_iload_n hx hb d_Bits_putNumber_6 rfl (lv_at hl 2 rfl) ?_
    refine lv_bipush (v := 8) hx hb d_Bits_putNumber_7 (by decide) ?_
    refine lv_icmp_ge (tgt := 26) hx hb d_Bits_putNumber_9 (by decide) (fun c_3 => ?_) (fun c_3 => ?_)
    · rw [if_pos c_3] at hf
      exact hk26 _ _ _ _ _ _ x3 hg hP hD hS (lv_sub hl [0, 1, 2] rfl) hf
    · rw [if_neg c_3] at hf
      refine lv_iload_n hx hb d_Bits_putNumber_12 rfl (lv_at hl 1 rfl) ?_
      refine lv_iload_n hx hb d_Bits_putNumber_13 rfl (lv_at hl 2 rfl) ?_
      refine lv_iconst (v := 1) hx hb d_Bits_putNumber_14 (by decide) ?_
      refine lv_iadd hx hb d_Bits_putNumber_15 ?_
      refine lv_ishr hx hb d_Bits_putNumber_16 ?_
      refine lv_if_eq (tgt := 26) hx hb d_Bits_putNumber_17 (by decide) (fun c_4 => ?_) (fun c_4 => ?_)
      · rw [if_pos c_4] at hf
        exact hk26 _ _ _ _ _ _ x3 hg hP hD hS (lv_sub hl [0, 1, 2] rfl) hf
      · rw [if_neg c_4] at hf
        obtain ⟨x3_5, ex3_5, hf⟩ := lt_ex hf
        try dsimp only at hf
        refine lv_iinc (v := x3_5) (lv' := [(3, .int x3_5), (0, .ref (pb_a 0)), (2, .int x2)]) hx hb d_Bits_putNumber_20 hl (k := 2) rfl (by rw [ex3_5]; rfl) (by decide) rfl (fun ls hl => ?_)
        refine lv_goto (tgt := 6) hx hb d_Bits_putNumber_23 (by decide) ?_
        exact ih _ _ _ _ _ _ x3_5 hg hP hD hS (lv_sub hl [1, 2, 0] rfl) hf
set_option maxHeartbeats 4000000 in
set_option maxRecDepth 100000 in
theorem B_P_Bits_putNumber {cells slots : Nat} {l0 : Nat} {dC : Nat → ClassId} {dI : Nat → Nat → Nat} {cI cZ cJ : ClassId} {pb_a : Nat → Nat} {w_a : Nat} {lk_v : Nat} {w_b : Nat} {pb : Pb} {w : Br} {x1 : Int32} {res : Pb × Br} (C0 : cxt p c m s args R 0 0 R_Bits c_Bits_putNumber tb 4 (dC, dI) vwCl (TYS cI cZ cJ) A 5 152) (hRc : gR l0 ((fun r : Pb × Br => Br_byL r.2) res) R)
    (hr36 : ∀ (H : Heap) (locs : List Loc) (ls : Array Slot) (cells slots : Nat) (w_b : Nat) (pb' : Pb) (w' : Br), gok R l0 (Br_byL w') cells slots → va_P (dC, dI) vwCl (wPb cI cZ cJ pb_a w_a lk_v pb' ++ wBr cI cZ cJ w_a w_b w') H → va_D A (wPb cI cZ cJ pb_a w_a lk_v pb' ++ wBr cI cZ cJ w_a w_b w') → va_S A s.heap H locs → some (pb', w') = some res → W p l e R s m args below meth c H locs cells slots Q (F0 m 36 ls []))
    {H : Heap} {locs : List Loc} {ls : Array Slot} (hg : gok R l0 (Br_byL w) cells slots) (hP : va_P (dC, dI) vwCl (wPb cI cZ cJ pb_a w_a lk_v pb ++ wBr cI cZ cJ w_a w_b w) H) (hD : va_D A (wPb cI cZ cJ pb_a w_a lk_v pb ++ wBr cI cZ cJ w_a w_b w)) (hS : va_S A s.heap H locs) (hl : lv_has ls 4 [(0, .ref (pb_a 0)), (1, .int x1)]) (hf : f_P_Bits_putNumber pb w x1 = some res) : W p l e R s m args below meth c H locs cells slots Q (F0 m 0 ls []) := by
  obtain ⟨hx, hb, hml, hown, hts, hK, hA, hRf, hRl, hN, _⟩ := id C0
  rw [f_P_Bits_putNumber] at hf
  refine lv_iload_n hx hb d_Bits_putNumber_0 rfl (lv_at hl 1 rfl) ?_
  refine lv_iconst (v := 1) hx hb d_Bits_putNumber_1 (by decide) ?_
  refine lv_iadd hx hb d_Bits_putNumber_2 ?_
  obtain ⟨x2_1, ex2_1, hf⟩ := lt_ex hf
  try dsimp only at hf
  refine tp_i ex2_1 ?_
  refine lv_istore_n (lv' := [(2, .int x2_1), (0, .ref (pb_a 0)), (1, .int x1)]) hx hb d_Bits_putNumber_3 rfl hl (by decide) rfl (fun ls hl => ?_)
  refine lv_iconst (v := 0) hx hb d_Bits_putNumber_4 (by decide) ?_
  refine lv_istore_n (lv' := [(3, .int 0), (2, .int x2_1), (0, .ref (pb_a 0)), (1, .int x1)]) hx hb d_Bits_putNumber_5 rfl hl (by decide) rfl (fun ls hl => ?_)
  refine L_P_Bits_putNumber_6 C0 hRc (fun H locs ls cells slots w_b x3_6 hg hP hD hS hl hf => ?_) (fun x3_6 => ?_) 100000 _ _ _ _ _ _ 0 hg hP hD hS (lv_sub hl [2, 1, 0] rfl) hf
  · try dsimp only at hf
    refine lv_aload_n hx hb d_Bits_putNumber_26 rfl (lv_at hl 0 rfl) ?_
    refine lv_iload_n hx hb d_Bits_putNumber_27 rfl (lv_at hl 1 rfl) ?_
    refine lv_iconst (v := 2) hx hb d_Bits_putNumber_28 (by decide) ?_
    refine lv_iload_n hx hb d_Bits_putNumber_29 rfl (lv_at hl 2 rfl) ?_
    refine lv_imul hx hb d_Bits_putNumber_30 ?_
    refine lv_iconst (v := 1) hx hb d_Bits_putNumber_31 (by decide) ?_
    refine lv_iadd hx hb d_Bits_putNumber_32 ?_
    obtain ⟨⟨pb_7, w_8⟩, hf1, hf⟩ := bd_ex hf
    try dsimp only at hf
    have hm0 := mo_P_Bits_putBits _ hf1
    try dsimp only at hm0
    have hm : Br_byL w_8 ≤ (fun r : Pb × Br => Br_byL r.2) res := by
      refine mle_use (π := (fun r : Pb × Br => Br_byL r.2)) hf ?_
      exact mle_some (Nat.le_refl _)
    have hPc := hP.sub (ws' := (wPb cI cZ cJ pb_a w_a lk_v pb ++ wBr cI cZ cJ w_a w_b w)) [0, 1, 2] rfl
    have hDc := hD.sub (ws' := (wPb cI cZ cJ pb_a w_a lk_v pb ++ wBr cI cZ cJ w_a w_b w)) [0, 1, 2] (by decide) rfl
    have hFc := va_free (wc := (wPb cI cZ cJ pb_a w_a lk_v pb ++ wBr cI cZ cJ w_a w_b w)) hD hS hA [0, 1, 2] rfl
    refine va_callv (va_runU (As := [.int x2_1, .int ((2 * x3_6) + 1)]) (rest := []) ⟨hx, hb, hml, hown, hts⟩ (k_P_Bits_putBits l dC dI cI cZ cJ pb_a w_a w_b lk_v H.size hf1) (va_cwU 2 hts (gU t_325 t_327 t_329 t_326 t_57 t_330) rfl rfl rfl rfl hd_Bits_putBits.2 ⟨Nat.le_trans (Nat.le_of_ble_eq_true rfl) hRf, Nat.le_trans (Nat.le_of_ble_eq_true rfl) hRl⟩) ⟨kP_blind, va_recv hK hP (ci := 2) (q0 := 0) rfl rfl, kP_at hPc hK hDc hN⟩ rfl rfl hl.1 rfl (lv_room (Nat.le_of_ble_eq_true rfl)) d_Bits_putNumber_33 (g_room hg hm0 hm hRc)) hS (fun q _ h => hFc q h) hFc (fun w_q_9 t H1 locs ht hvm hw hB hz1 hk1 hS => ?_)
    have hg := g_step (L0 := Br_byL w) (L1 := Br_byL w_8) hg hm0 hm hRc
    generalize cells + (Br_byL w_8 - Br_byL w) = cells at hg ⊢
    generalize slots + 2 * (Br_byL w_8 - Br_byL w) = slots at hg ⊢
    obtain ⟨hP, hD⟩ := kQ_join (wr := ([] : va_W)) (w1 := (wPb cI cZ cJ pb_a w_a lk_v pb_7 ++ wBr cI cZ cJ w_a w_q_9 w_8)) hP hD [0, 1, 2] [] rfl rfl (by decide) (by decide) ht hk1 hFc hB
    generalize H1 = H at hP hS ⊢
    have hP : va_P (dC, dI) vwCl (wPb cI cZ cJ pb_a w_a lk_v pb_7 ++ wBr cI cZ cJ w_a w_q_9 w_8) H := hP.sub [0, 1, 2] rfl
    have hD : va_D A (wPb cI cZ cJ pb_a w_a lk_v pb_7 ++ wBr cI cZ cJ w_a w_q_9 w_8) := hD.sub [0, 1, 2] (by decide) rfl
    exact hr36 _ _ _ _ _ _ pb_7 w_8 hg hP hD hS hf
  · try dsimp only
    refine mle_bd (fun y9 hy9 => ?_)
    obtain ⟨pb_7, w_8⟩ := y9
    try dsimp only
    refine mle_le (mo_P_Bits_putBits _ hy9) ?_
    try dsimp only
    exact mle_some (Nat.le_refl _)
end
set_option maxHeartbeats 4000000 in
set_option maxRecDepth 100000 in
theorem k_P_Bits_putNumber (l : Launch) (dC : Nat → ClassId) (dI : Nat → Nat → Nat) (cI cZ cJ : ClassId) (pb_a : Nat → Nat) (w_a w_b : Nat) (lk_v : Nat) (sz : Nat) {pb : Pb} {w : Br} {x1 : Int32} {pb' : Pb} {w' : Br} (hf : f_P_Bits_putNumber pb w x1 = some (pb', w')) :
    Met l y_Bits_putNumber ws_Bits_putNumber ({ frames := 5, cells := (Br_byL w' - Br_byL w), slots := (2 * (Br_byL w' - Br_byL w)), locals := 152 }) (va_Pc [.ref (pb_a 0), .int x1] (kP (dC, dI) vwCl (TYS cI cZ cJ) (wPb cI cZ cJ pb_a w_a lk_v pb ++ wBr cI cZ cJ w_a w_b w) sz)) (va_Qv (fun (_ : Nat) => True) (fun q9 t => kQ (dC, dI) vwCl (TYS cI cZ cJ) (wPb cI cZ cJ pb_a w_a lk_v pb ++ wBr cI cZ cJ w_a w_b w) sz (wPb cI cZ cJ pb_a w_a lk_v pb' ++ wBr cI cZ cJ w_a q9 w') t) (va_A (wPb cI cZ cJ pb_a w_a lk_v pb ++ wBr cI cZ cJ w_a w_b w) sz)) (Br_byL w' - Br_byL w) (2 * (Br_byL w' - Br_byL w)) (va_A (wPb cI cZ cJ pb_a w_a lk_v pb ++ wBr cI cZ cJ w_a w_b w) sz) := by
  refine Met.ofW (cc := c_Bits_putNumber) (maxL := 4) (ret := none) (by decide) rfl ?_
  intro p e s m args below meth c s₁ B hml hv
  obtain ⟨rfl, hsz, hP, hK, hD0, hN⟩ := hv
  have hr := B.returns
  have hlocks := B.notSynchronized
  subst hsz
  have hD := hD0.self (sz := s.heap.size)
  have hl := lv_entry ([.ref (pb_a 0), .int x1]) (n := 4) (Nat.le_of_ble_eq_true rfl)
  rw [lg_entry_eq]
  generalize (lg_sl ([.ref (pb_a 0), .int x1]) ++ List.replicate (4 - (lg_sl ([.ref (pb_a 0), .int x1])).length) Slot.unset).toArray = ls at hl ⊢
  refine B_P_Bits_putNumber (A := va_A (wPb cI cZ cJ pb_a w_a lk_v pb ++ wBr cI cZ cJ w_a w_b w) s.heap.size) ⟨B.exec, B.bytes, hml, findClass_of_methodNamed B.named, fun w h => atoms_spec (ws := ws_Bits_putNumber) B.pre w (List.mem_cons_of_mem _ h), hK, fun q h => Or.inr h, Nat.le_of_ble_eq_true rfl, Nat.le_of_ble_eq_true rfl, hN, Nat.zero_le _, Nat.zero_le _⟩ ⟨Nat.le_refl _, Nat.le_refl _⟩ (fun H locs ls cells slots q9 pb'1 w'1 hg hP hD hS hf => ?_) ⟨Nat.le_refl _, Nat.zero_le _, Nat.zero_le _, Nat.zero_le _, Nat.zero_le _⟩ hP hD va_S.rf hl hf
  · cases hf
    refine W.widen (k := (Br_byL w' - Br_byL w)) (n := (2 * (Br_byL w' - Br_byL w))) hg.2.1 hg.2.2.1 ?_
    exact W.vret B.exec B.bytes hr (fun t ht hW => ⟨⟨q9, rfl, trivial, ⟨by rw [ht]; exact hP, va_K.moved hW.alike hK, hD⟩⟩, hS.F ht⟩) hS.2.2 d_Bits_putNumber_36

/-! C_Bits_putBits -/
def l_C_Bits_putBits_4 (x1 : Int32) (k24 : Cb → Br → Option (Cb × Br)) : Nat → Cb → Br → Int32 → Option (Cb × Br)
  | 0, _, _, _ => none
  | n + 1, cb, w, x3 => (if x3 < 0 then k24 cb w else bd (f_C_ChanceBits_putBit cb w ((x1 >>> (x3 &&& 31)) &&& 1) (-1)) <| fun (cb_5, w_6) => lt' (x3 + (-1)) <| fun x3_8 => (l_C_Bits_putBits_4 x1 k24 n) cb_5 w_6 x3_8)
theorem mo_l_C_Bits_putBits_4 {x1 : Int32} {k24 : Cb → Br → Option (Cb × Br)} (hkm24 : ∀ (cb_2 : Cb) (w_3 : Br), mle (k24 cb_2 w_3) (Br_byL w_3) (fun r : Cb × Br => Br_byL r.2)) : ∀ (n : Nat) (cb : Cb) (w : Br) (x3 : Int32), mle (l_C_Bits_putBits_4 x1 k24 n cb w x3) (Br_byL w) (fun r : Cb × Br => Br_byL r.2) := by
  intro n
  induction n with
  | zero => intro cb w x3 r hr; exact absurd hr (by simp [l_C_Bits_putBits_4])
  | succ n ih =>
    intro cb w x3
    rw [l_C_Bits_putBits_4]
    refine mle_if (fun _ => ?_) (fun _ => ?_)
    · exact hkm24 cb w
    · refine mle_bd (fun y9 hy9 => ?_)
      obtain ⟨cb_5, w_6⟩ := y9
      try dsimp only
      refine mle_le (mo_C_ChanceBits_putBit _ hy9) ?_
      try dsimp only
      refine mle_lt (fun x3_8 ex3_8 => ?_)
      exact ih cb_5 w_6 x3_8
def f_C_Bits_putBits (cb : Cb) (w : Br) (x1 : Int32) (x2 : Int32) : Option (Cb × Br) := lt' (x2 - 1) <| fun x3_1 => l_C_Bits_putBits_4 x1 (fun cb_9 w_10 => some (cb_9, w_10)) 100000 cb w x3_1
theorem mo_C_Bits_putBits {cb : Cb} {w : Br} {x1 : Int32} {x2 : Int32} : mle (f_C_Bits_putBits cb w x1 x2) (Br_byL w) (fun r : Cb × Br => Br_byL r.2) := by
  rw [f_C_Bits_putBits]
  refine mle_lt (fun x3_1 ex3_1 => ?_)
  refine mo_l_C_Bits_putBits_4 (fun cb_9 w_10 => ?_) 100000 cb w x3_1
  try dsimp only
  exact mle_some (Nat.le_refl _)
section
variable {p : Program} {l : Launch} {e : Env} {R : Room} {s : State} {m : MethodId} {args : Array Value} {below : List Frame} {meth : Method} {c : Code} {Q : State → Prop} {A : Nat → Prop}
set_option maxHeartbeats 4000000 in
set_option maxRecDepth 100000 in
theorem L_C_Bits_putBits_4 {l0 : Nat} {dC : Nat → ClassId} {dI : Nat → Nat → Nat} {cI cZ cJ : ClassId} {cb_a : Nat → Nat} {w_a : Nat} {lk_v : Nat} {x1 : Int32} {k24 : Cb → Br → Option (Cb × Br)} {res : Cb × Br} (C0 : cxt p c m s args R 0 0 R_Bits c_Bits_putBits tb 4 (dC, dI) vwCl (TYS cI cZ cJ) A 4 130) (hRc : gR l0 ((fun r : Cb × Br => Br_byL r.2) res) R)
    (hk24 : ∀ (H : Heap) (locs : List Loc) (ls : Array Slot) (cells slots : Nat) (w_b : Nat) (cb_2 : Cb) (w_3 : Br), gok R l0 (Br_byL w_3) cells slots → va_P (dC, dI) vwCl (wCb cI cZ cJ cb_a w_a lk_v cb_2 ++ wBr cI cZ cJ w_a w_b w_3) H → va_D A (wCb cI cZ cJ cb_a w_a lk_v cb_2 ++ wBr cI cZ cJ w_a w_b w_3) → va_S A s.heap H locs → lv_has ls 4 [] → k24 cb_2 w_3 = some res → W p l e R s m args below meth c H locs cells slots Q (F0 m 24 ls []))
    (hkm24 : ∀ (cb_2 : Cb) (w_3 : Br), mle (k24 cb_2 w_3) (Br_byL w_3) (fun r : Cb × Br => Br_byL r.2)) :
    ∀ (n : Nat) (H : Heap) (locs : List Loc) (ls : Array Slot) (cells slots : Nat) (w_b : Nat) (cb : Cb) (w : Br) (x3 : Int32), gok R l0 (Br_byL w) cells slots → va_P (dC, dI) vwCl (wCb cI cZ cJ cb_a w_a lk_v cb ++ wBr cI cZ cJ w_a w_b w) H → va_D A (wCb cI cZ cJ cb_a w_a lk_v cb ++ wBr cI cZ cJ w_a w_b w) → va_S A s.heap H locs → lv_has ls 4 [(0, .ref (cb_a 0)), (1, .int x1), (3, .int x3)] → l_C_Bits_putBits_4 x1 k24 n cb w x3 = some res → W p l e R s m args below meth c H locs cells slots Q (F0 m 4 ls []) := by
  obtain ⟨hx, hb, hml, hown, hts, hK, hA, hRf, hRl, hN, _⟩ := id C0
  intro n
  induction n with
  | zero =>
    intro H locs ls cells slots w_b cb w x3 hg hP hD hS hl hf
    exact absurd hf (by simp [l_C_Bits_putBits_4])
  | succ n ih =>
    intro H locs ls cells slots w_b cb w x3 hg hP hD hS hl hf
    rw [l_C_Bits_putBits_4] at hf
    refine lv_iload_n hx hb d_Bits_putBits_4 rfl (lv_at hl 2 rfl) ?_
    refine lv_if_lt (tgt := 24) hx hb d_Bits_putBits_5 (by decide) (fun c_4 => ?_) (fun c_4 => ?_)
    · rw [if_pos c_4] at hf
      exact hk24 _ _ _ _ _ _ cb w hg hP hD hS (lv_sub hl [] rfl) hf
    · rw [if_neg c_4] at hf
      refine lv_aload_n hx hb d_Bits_putBits_8 rfl (lv_at hl 0 rfl) ?_
      refine lv_iload_n hx hb d_Bits_putBits_9 rfl (lv_at hl 1 rfl) ?_
      refine lv_iload_n hx hb d_Bits_putBits_10 rfl (lv_at hl 2 rfl) ?_
      refine lv_ishr hx hb d_Bits_putBits_11 ?_
      refine lv_iconst (v := 1) hx hb d_Bits_putBits_12 (by decide) ?_
      refine lv_iand hx hb d_Bits_putBits_13 ?_
      refine lv_iconst (v := (-1)) hx hb d_Bits_putBits_14 (by decide) ?_
      obtain ⟨⟨cb_5, w_6⟩, hf1, hf⟩ := bd_ex hf
      try dsimp only at hf
      have hm0 := mo_C_ChanceBits_putBit _ hf1
      try dsimp only at hm0
      have hm : Br_byL w_6 ≤ (fun r : Cb × Br => Br_byL r.2) res := by
        refine mle_use (π := (fun r : Cb × Br => Br_byL r.2)) hf ?_
        refine mle_lt (fun x3_8 ex3_8 => ?_)
        exact mo_l_C_Bits_putBits_4 hkm24 n cb_5 w_6 x3_8
      have hPc := hP.sub (ws' := (wCb cI cZ cJ cb_a w_a lk_v cb ++ wBr cI cZ cJ w_a w_b w)) [0, 1, 2, 3] rfl
      have hDc := hD.sub (ws' := (wCb cI cZ cJ cb_a w_a lk_v cb ++ wBr cI cZ cJ w_a w_b w)) [0, 1, 2, 3] (by decide) rfl
      have hFc := va_free (wc := (wCb cI cZ cJ cb_a w_a lk_v cb ++ wBr cI cZ cJ w_a w_b w)) hD hS hA [0, 1, 2, 3] rfl
      refine va_callv (va_runU (As := [.int ((x1 >>> (x3 &&& 31)) &&& 1), .int (-1)]) (rest := []) ⟨hx, hb, hml, hown, hts⟩ (k_C_ChanceBits_putBit l dC dI cI cZ cJ cb_a w_a w_b lk_v H.size hf1) (va_cwA 2 hts (gU t_331 t_333 t_334 t_335 t_58 t_336) rfl rfl rfl (hN.2 _ (by decide +kernel)) hdx_Bits_putBit ⟨Nat.le_trans (Nat.le_of_ble_eq_true rfl) hRf, Nat.le_trans (Nat.le_of_ble_eq_true rfl) hRl⟩) ⟨kP_blind, va_recv hK hP (ci := 3) (q0 := 0) rfl rfl, kP_at hPc hK hDc hN⟩ rfl rfl hl.1 rfl (lv_room (Nat.le_of_ble_eq_true rfl)) d_Bits_putBits_15 (g_room hg hm0 hm hRc)) hS (fun q _ h => hFc q h) hFc (fun w_q_7 t H1 locs ht hvm hw hB hz1 hk1 hS => ?_)
      have hg := g_step (L0 := Br_byL w) (L1 := Br_byL w_6) hg hm0 hm hRc
      generalize cells + (Br_byL w_6 - Br_byL w) = cells at hg ⊢
      generalize slots + 2 * (Br_byL w_6 - Br_byL w) = slots at hg ⊢
      obtain ⟨hP, hD⟩ := kQ_join (wr := ([] : va_W)) (w1 := (wCb cI cZ cJ cb_a w_a lk_v cb_5 ++ wBr cI cZ cJ w_a w_q_7 w_6)) hP hD [0, 1, 2, 3] [] rfl rfl (by decide) (by decide) ht hk1 hFc hB
      generalize H1 = H at hP hS ⊢
      have hP : va_P (dC, dI) vwCl (wCb cI cZ cJ cb_a w_a lk_v cb_5 ++ wBr cI cZ cJ w_a w_q_7 w_6) H := hP.sub [0, 1, 2, 3] rfl
      have hD : va_D A (wCb cI cZ cJ cb_a w_a lk_v cb_5 ++ wBr cI cZ cJ w_a w_q_7 w_6) := hD.sub [0, 1, 2, 3] (by decide) rfl
      obtain ⟨x3_8, ex3_8, hf⟩ := lt_ex hf
      try dsimp only at hf
      refine lv_iinc (v := x3_8) (lv' := [(3, .int x3_8), (0, .ref (cb_a 0)), (1, .int x1)]) hx hb d_Bits_putBits_18 hl (k := 2) rfl (by rw [ex3_8]; rfl) (by decide) rfl (fun ls hl => ?_)
      refine lv_goto (tgt := 4) hx hb d_Bits_putBits_21 (by decide) ?_
      exact ih _ _ _ _ _ _ cb_5 w_6 x3_8 hg hP hD hS (lv_sub hl [1, 2, 0] rfl) hf
set_option maxHeartbeats 4000000 in
set_option maxRecDepth 100000 in
theorem B_C_Bits_putBits {cells slots : Nat} {l0 : Nat} {dC : Nat → ClassId} {dI : Nat → Nat → Nat} {cI cZ cJ : ClassId} {cb_a : Nat → Nat} {w_a : Nat} {lk_v : Nat} {w_b : Nat} {cb : Cb} {w : Br} {x1 : Int32} {x2 : Int32} {res : Cb × Br} (C0 : cxt p c m s args R 0 0 R_Bits c_Bits_putBits tb 4 (dC, dI) vwCl (TYS cI cZ cJ) A 4 130) (hRc : gR l0 ((fun r : Cb × Br => Br_byL r.2) res) R)
    (hr24 : ∀ (H : Heap) (locs : List Loc) (ls : Array Slot) (cells slots : Nat) (w_b : Nat) (cb' : Cb) (w' : Br), gok R l0 (Br_byL w') cells slots → va_P (dC, dI) vwCl (wCb cI cZ cJ cb_a w_a lk_v cb' ++ wBr cI cZ cJ w_a w_b w') H → va_D A (wCb cI cZ cJ cb_a w_a lk_v cb' ++ wBr cI cZ cJ w_a w_b w') → va_S A s.heap H locs → some (cb', w') = some res → W p l e R s m args below meth c H locs cells slots Q (F0 m 24 ls []))
    {H : Heap} {locs : List Loc} {ls : Array Slot} (hg : gok R l0 (Br_byL w) cells slots) (hP : va_P (dC, dI) vwCl (wCb cI cZ cJ cb_a w_a lk_v cb ++ wBr cI cZ cJ w_a w_b w) H) (hD : va_D A (wCb cI cZ cJ cb_a w_a lk_v cb ++ wBr cI cZ cJ w_a w_b w)) (hS : va_S A s.heap H locs) (hl : lv_has ls 4 [(0, .ref (cb_a 0)), (1, .int x1), (2, .int x2)]) (hf : f_C_Bits_putBits cb w x1 x2 = some res) : W p l e R s m args below meth c H locs cells slots Q (F0 m 0 ls []) := by
  obtain ⟨hx, hb, hml, hown, hts, hK, hA, hRf, hRl, hN, _⟩ := id C0
  rw [f_C_Bits_putBits] at hf
  refine lv_iload_n hx hb d_Bits_putBits_0 rfl (lv_at hl 2 rfl) ?_
  refine lv_iconst (v := 1) hx hb d_Bits_putBits_1 (by decide) ?_
  refine lv_isub hx hb d_Bits_putBits_2 ?_
  obtain ⟨x3_1, ex3_1, hf⟩ := lt_ex hf
  try dsimp only at hf
  refine tp_i ex3_1 ?_
  refine lv_istore_n (lv' := [(3, .int x3_1), (0, .ref (cb_a 0)), (1, .int x1), (2, .int x2)]) hx hb d_Bits_putBits_3 rfl hl (by decide) rfl (fun ls hl => ?_)
  refine L_C_Bits_putBits_4 C0 hRc (fun H locs ls cells slots w_b cb_9 w_10 hg hP hD hS hl hf => ?_) (fun cb_9 w_10 => ?_) 100000 _ _ _ _ _ _ cb w x3_1 hg hP hD hS (lv_sub hl [1, 2, 0] rfl) hf
  · try dsimp only at hf
    exact hr24 _ _ _ _ _ _ cb_9 w_10 hg hP hD hS hf
  · try dsimp only
    exact mle_some (Nat.le_refl _)
end
set_option maxHeartbeats 4000000 in
set_option maxRecDepth 100000 in
theorem k_C_Bits_putBits (l : Launch) (dC : Nat → ClassId) (dI : Nat → Nat → Nat) (cI cZ cJ : ClassId) (cb_a : Nat → Nat) (w_a w_b : Nat) (lk_v : Nat) (sz : Nat) {cb : Cb} {w : Br} {x1 : Int32} {x2 : Int32} {cb' : Cb} {w' : Br} (hf : f_C_Bits_putBits cb w x1 x2 = some (cb', w')) :
    Met l y_Bits_putBits ws_Bits_putBits ({ frames := 4, cells := (Br_byL w' - Br_byL w), slots := (2 * (Br_byL w' - Br_byL w)), locals := 130 }) (va_Pc [.ref (cb_a 0), .int x1, .int x2] (kP (dC, dI) vwCl (TYS cI cZ cJ) (wCb cI cZ cJ cb_a w_a lk_v cb ++ wBr cI cZ cJ w_a w_b w) sz)) (va_Qv (fun (_ : Nat) => True) (fun q9 t => kQ (dC, dI) vwCl (TYS cI cZ cJ) (wCb cI cZ cJ cb_a w_a lk_v cb ++ wBr cI cZ cJ w_a w_b w) sz (wCb cI cZ cJ cb_a w_a lk_v cb' ++ wBr cI cZ cJ w_a q9 w') t) (va_A (wCb cI cZ cJ cb_a w_a lk_v cb ++ wBr cI cZ cJ w_a w_b w) sz)) (Br_byL w' - Br_byL w) (2 * (Br_byL w' - Br_byL w)) (va_A (wCb cI cZ cJ cb_a w_a lk_v cb ++ wBr cI cZ cJ w_a w_b w) sz) := by
  refine Met.ofW (cc := c_Bits_putBits) (maxL := 4) (ret := none) (by decide) rfl ?_
  intro p e s m args below meth c s₁ B hml hv
  obtain ⟨rfl, hsz, hP, hK, hD0, hN⟩ := hv
  have hr := B.returns
  have hlocks := B.notSynchronized
  subst hsz
  have hD := hD0.self (sz := s.heap.size)
  have hl := lv_entry ([.ref (cb_a 0), .int x1, .int x2]) (n := 4) (Nat.le_of_ble_eq_true rfl)
  rw [lg_entry_eq]
  generalize (lg_sl ([.ref (cb_a 0), .int x1, .int x2]) ++ List.replicate (4 - (lg_sl ([.ref (cb_a 0), .int x1, .int x2])).length) Slot.unset).toArray = ls at hl ⊢
  refine B_C_Bits_putBits (A := va_A (wCb cI cZ cJ cb_a w_a lk_v cb ++ wBr cI cZ cJ w_a w_b w) s.heap.size) ⟨B.exec, B.bytes, hml, findClass_of_methodNamed B.named, fun w h => atoms_spec (ws := ws_Bits_putBits) B.pre w (List.mem_cons_of_mem _ h), hK, fun q h => Or.inr h, Nat.le_of_ble_eq_true rfl, Nat.le_of_ble_eq_true rfl, hN, Nat.zero_le _, Nat.zero_le _⟩ ⟨Nat.le_refl _, Nat.le_refl _⟩ (fun H locs ls cells slots q9 cb'1 w'1 hg hP hD hS hf => ?_) ⟨Nat.le_refl _, Nat.zero_le _, Nat.zero_le _, Nat.zero_le _, Nat.zero_le _⟩ hP hD va_S.rf hl hf
  · cases hf
    refine W.widen (k := (Br_byL w' - Br_byL w)) (n := (2 * (Br_byL w' - Br_byL w))) hg.2.1 hg.2.2.1 ?_
    exact W.vret B.exec B.bytes hr (fun t ht hW => ⟨⟨q9, rfl, trivial, ⟨by rw [ht]; exact hP, va_K.moved hW.alike hK, hD⟩⟩, hS.F ht⟩) hS.2.2 d_Bits_putBits_24

/-! C_Bits_putNumber -/
def l_C_Bits_putNumber_6 (cb : Cb) (w : Br) (x2 : Int32) (k26 : Int32 → Option (Cb × Br)) : Nat → Int32 → Option (Cb × Br)
  | 0, _ => none
  | n + 1, x3 => (if 8 ≤ x3 then k26 x3 else (if (x2 >>> ((x3 + 1) &&& 31)) = 0 then k26 x3 else lt' (x3 + 1) <| fun x3_5 => (l_C_Bits_putNumber_6 cb w x2 k26 n) x3_5))
theorem mo_l_C_Bits_putNumber_6 {cb : Cb} {w : Br} {x2 : Int32} {k26 : Int32 → Option (Cb × Br)} (hkm26 : ∀ (x3_2 : Int32), mle (k26 x3_2) (Br_byL w) (fun r : Cb × Br => Br_byL r.2)) : ∀ (n : Nat) (x3 : Int32), mle (l_C_Bits_putNumber_6 cb w x2 k26 n x3) (Br_byL w) (fun r : Cb × Br => Br_byL r.2) := by
  intro n
  induction n with
  | zero => intro x3 r hr; exact absurd hr (by simp [l_C_Bits_putNumber_6])
  | succ n ih =>
    intro x3
    rw [l_C_Bits_putNumber_6]
    refine mle_if (fun _ => ?_) (fun _ => ?_)
    · exact hkm26 x3
    · refine mle_if (fun _ => ?_) (fun _ => ?_)
      · exact hkm26 x3
      · refine mle_lt (fun x3_5 ex3_5 => ?_)
        exact ih x3_5
def f_C_Bits_putNumber (cb : Cb) (w : Br) (x1 : Int32) : Option (Cb × Br) := lt' (x1 + 1) <| fun x2_1 => l_C_Bits_putNumber_6 cb w x2_1 (fun x3_6 => bd (f_C_Bits_putBits cb w x2_1 ((2 * x3_6) + 1)) <| fun (cb_7, w_8) => some (cb_7, w_8)) 100000 0
theorem mo_C_Bits_putNumber {cb : Cb} {w : Br} {x1 : Int32} : mle (f_C_Bits_putNumber cb w x1) (Br_byL w) (fun r : Cb × Br => Br_byL r.2) := by
  rw [f_C_Bits_putNumber]
  refine mle_lt (fun x2_1 ex2_1 => ?_)
  refine mo_l_C_Bits_putNumber_6 (fun x3_6 => ?_) 100000 0
  try dsimp only
  refine mle_bd (fun y9 hy9 => ?_)
  obtain ⟨cb_7, w_8⟩ := y9
  try dsimp only
  refine mle_le (mo_C_Bits_putBits _ hy9) ?_
  try dsimp only
  exact mle_some (Nat.le_refl _)
section
variable {p : Program} {l : Launch} {e : Env} {R : Room} {s : State} {m : MethodId} {args : Array Value} {below : List Frame} {meth : Method} {c : Code} {Q : State → Prop} {A : Nat → Prop}
set_option maxHeartbeats 4000000 in
set_option maxRecDepth 100000 in
theorem L_C_Bits_putNumber_6 {l0 : Nat} {dC : Nat → ClassId} {dI : Nat → Nat → Nat} {cI cZ cJ : ClassId} {cb_a : Nat → Nat} {w_a : Nat} {lk_v : Nat} {cb : Cb} {w : Br} {x2 : Int32} {k26 : Int32 → Option (Cb × Br)} {res : Cb × Br} (C0 : cxt p c m s args R 0 0 R_Bits c_Bits_putNumber tb 4 (dC, dI) vwCl (TYS cI cZ cJ) A 5 153) (hRc : gR l0 ((fun r : Cb × Br => Br_byL r.2) res) R)
    (hk26 : ∀ (H : Heap) (locs : List Loc) (ls : Array Slot) (cells slots : Nat) (w_b : Nat) (x3_2 : Int32), gok R l0 (Br_byL w) cells slots → va_P (dC, dI) vwCl (wCb cI cZ cJ cb_a w_a lk_v cb ++ wBr cI cZ cJ w_a w_b w) H → va_D A (wCb cI cZ cJ cb_a w_a lk_v cb ++ wBr cI cZ cJ w_a w_b w) → va_S A s.heap H locs → lv_has ls 4 [(0, .ref (cb_a 0)), (2, .int x2), (3, .int x3_2)] → k26 x3_2 = some res → W p l e R s m args below meth c H locs cells slots Q (F0 m 26 ls []))
    (hkm26 : ∀ (x3_2 : Int32), mle (k26 x3_2) (Br_byL w) (fun r : Cb × Br => Br_byL r.2)) :
    ∀ (n : Nat) (H : Heap) (locs : List Loc) (ls : Array Slot) (cells slots : Nat) (w_b : Nat) (x3 : Int32), gok R l0 (Br_byL w) cells slots → va_P (dC, dI) vwCl (wCb cI cZ cJ cb_a w_a lk_v cb ++ wBr cI cZ cJ w_a w_b w) H → va_D A (wCb cI cZ cJ cb_a w_a lk_v cb ++ wBr cI cZ cJ w_a w_b w) → va_S A s.heap H locs → lv_has ls 4 [(0, .ref (cb_a 0)), (2, .int x2), (3, .int x3)] → l_C_Bits_putNumber_6 cb w x2 k26 n x3 = some res → W p l e R s m args below meth c H locs cells slots Q (F0 m 6 ls []) := by
  obtain ⟨hx, hb, hml, hown, hts, hK, hA, hRf, hRl, hN, _⟩ := id C0
  intro n
  induction n with
  | zero =>
    intro H locs ls cells slots w_b x3 hg hP hD hS hl hf
    exact absurd hf (by simp [l_C_Bits_putNumber_6])
  | succ n ih =>
    intro H locs ls cells slots w_b x3 hg hP hD hS hl hf
    rw [l_C_Bits_putNumber_6] at hf
    refine lv_iload_n hx hb d_Bits_putNumber_6 rfl (lv_at hl 2 rfl) ?_
    refine lv_bipush (v := 8) hx hb d_Bits_putNumber_7 (by decide) ?_
    refine lv_icmp_ge (tgt := 26) hx hb d_Bits_putNumber_9 (by decide) (fun c_3 => ?_) (fun c_3 => ?_)
    · rw [if_pos c_3] at hf
      exact hk26 _ _ _ _ _ _ x3 hg hP hD hS (lv_sub hl [0, 1, 2] rfl) hf
    · rw [if_neg c_3] at hf
      refine lv_iload_n hx hb d_Bits_putNumber_12 rfl (lv_at hl 1 rfl) ?_
      refine lv_iload_n hx hb d_Bits_putNumber_13 rfl (lv_at hl 2 rfl) ?_
      refine lv_iconst (v := 1) hx hb d_Bits_putNumber_14 (by decide) ?_
      refine lv_iadd hx hb d_Bits_putNumber_15 ?_
      refine lv_ishr hx hb d_Bits_putNumber_16 ?_
      refine lv_if_eq (tgt := 26) hx hb d_Bits_putNumber_17 (by decide) (fun c_4 => ?_) (fun c_4 => ?_)
      · rw [if_pos c_4] at hf
        exact hk26 _ _ _ _ _ _ x3 hg hP hD hS (lv_sub hl [0, 1, 2] rfl) hf
      · rw [if_neg c_4] at hf
        obtain ⟨x3_5, ex3_5, hf⟩ := lt_ex hf
        try dsimp only at hf
        refine lv_iinc (v := x3_5) (lv' := [(3, .int x3_5), (0, .ref (cb_a 0)), (2, .int x2)]) hx hb d_Bits_putNumber_20 hl (k := 2) rfl (by rw [ex3_5]; rfl) (by decide) rfl (fun ls hl => ?_)
        refine lv_goto (tgt := 6) hx hb d_Bits_putNumber_23 (by decide) ?_
        exact ih _ _ _ _ _ _ x3_5 hg hP hD hS (lv_sub hl [1, 2, 0] rfl) hf
set_option maxHeartbeats 4000000 in
set_option maxRecDepth 100000 in
theorem B_C_Bits_putNumber {cells slots : Nat} {l0 : Nat} {dC : Nat → ClassId} {dI : Nat → Nat → Nat} {cI cZ cJ : ClassId} {cb_a : Nat → Nat} {w_a : Nat} {lk_v : Nat} {w_b : Nat} {cb : Cb} {w : Br} {x1 : Int32} {res : Cb × Br} (C0 : cxt p c m s args R 0 0 R_Bits c_Bits_putNumber tb 4 (dC, dI) vwCl (TYS cI cZ cJ) A 5 153) (hRc : gR l0 ((fun r : Cb × Br => Br_byL r.2) res) R)
    (hr36 : ∀ (H : Heap) (locs : List Loc) (ls : Array Slot) (cells slots : Nat) (w_b : Nat) (cb' : Cb) (w' : Br), gok R l0 (Br_byL w') cells slots → va_P (dC, dI) vwCl (wCb cI cZ cJ cb_a w_a lk_v cb' ++ wBr cI cZ cJ w_a w_b w') H → va_D A (wCb cI cZ cJ cb_a w_a lk_v cb' ++ wBr cI cZ cJ w_a w_b w') → va_S A s.heap H locs → some (cb', w') = some res → W p l e R s m args below meth c H locs cells slots Q (F0 m 36 ls []))
    {H : Heap} {locs : List Loc} {ls : Array Slot} (hg : gok R l0 (Br_byL w) cells slots) (hP : va_P (dC, dI) vwCl (wCb cI cZ cJ cb_a w_a lk_v cb ++ wBr cI cZ cJ w_a w_b w) H) (hD : va_D A (wCb cI cZ cJ cb_a w_a lk_v cb ++ wBr cI cZ cJ w_a w_b w)) (hS : va_S A s.heap H locs) (hl : lv_has ls 4 [(0, .ref (cb_a 0)), (1, .int x1)]) (hf : f_C_Bits_putNumber cb w x1 = some res) : W p l e R s m args below meth c H locs cells slots Q (F0 m 0 ls []) := by
  obtain ⟨hx, hb, hml, hown, hts, hK, hA, hRf, hRl, hN, _⟩ := id C0
  rw [f_C_Bits_putNumber] at hf
  refine lv_iload_n hx hb d_Bits_putNumber_0 rfl (lv_at hl 1 rfl) ?_
  refine lv_iconst (v := 1) hx hb d_Bits_putNumber_1 (by decide) ?_
  refine lv_iadd hx hb d_Bits_putNumber_2 ?_
  obtain ⟨x2_1, ex2_1, hf⟩ := lt_ex hf
  try dsimp only at hf
  refine tp_i ex2_1 ?_
  refine lv_istore_n (lv' := [(2, .int x2_1), (0, .ref (cb_a 0)), (1, .int x1)]) hx hb d_Bits_putNumber_3 rfl hl (by decide) rfl (fun ls hl => ?_)
  refine lv_iconst (v := 0) hx hb d_Bits_putNumber_4 (by decide) ?_
  refine lv_istore_n (lv' := [(3, .int 0), (2, .int x2_1), (0, .ref (cb_a 0)), (1, .int x1)]) hx hb d_Bits_putNumber_5 rfl hl (by decide) rfl (fun ls hl => ?_)
  refine L_C_Bits_putNumber_6 C0 hRc (fun H locs ls cells slots w_b x3_6 hg hP hD hS hl hf => ?_) (fun x3_6 => ?_) 100000 _ _ _ _ _ _ 0 hg hP hD hS (lv_sub hl [2, 1, 0] rfl) hf
  · try dsimp only at hf
    refine lv_aload_n hx hb d_Bits_putNumber_26 rfl (lv_at hl 0 rfl) ?_
    refine lv_iload_n hx hb d_Bits_putNumber_27 rfl (lv_at hl 1 rfl) ?_
    refine lv_iconst (v := 2) hx hb d_Bits_putNumber_28 (by decide) ?_
    refine lv_iload_n hx hb d_Bits_putNumber_29 rfl (lv_at hl 2 rfl) ?_
    refine lv_imul hx hb d_Bits_putNumber_30 ?_
    refine lv_iconst (v := 1) hx hb d_Bits_putNumber_31 (by decide) ?_
    refine lv_iadd hx hb d_Bits_putNumber_32 ?_
    obtain ⟨⟨cb_7, w_8⟩, hf1, hf⟩ := bd_ex hf
    try dsimp only at hf
    have hm0 := mo_C_Bits_putBits _ hf1
    try dsimp only at hm0
    have hm : Br_byL w_8 ≤ (fun r : Cb × Br => Br_byL r.2) res := by
      refine mle_use (π := (fun r : Cb × Br => Br_byL r.2)) hf ?_
      exact mle_some (Nat.le_refl _)
    have hPc := hP.sub (ws' := (wCb cI cZ cJ cb_a w_a lk_v cb ++ wBr cI cZ cJ w_a w_b w)) [0, 1, 2, 3] rfl
    have hDc := hD.sub (ws' := (wCb cI cZ cJ cb_a w_a lk_v cb ++ wBr cI cZ cJ w_a w_b w)) [0, 1, 2, 3] (by decide) rfl
    have hFc := va_free (wc := (wCb cI cZ cJ cb_a w_a lk_v cb ++ wBr cI cZ cJ w_a w_b w)) hD hS hA [0, 1, 2, 3] rfl
    refine va_callv (va_runU (As := [.int x2_1, .int ((2 * x3_6) + 1)]) (rest := []) ⟨hx, hb, hml, hown, hts⟩ (k_C_Bits_putBits l dC dI cI cZ cJ cb_a w_a w_b lk_v H.size hf1) (va_cwU 2 hts (gU t_325 t_327 t_328 t_326 t_57 t_330) rfl rfl rfl rfl hd_Bits_putBits.2 ⟨Nat.le_trans (Nat.le_of_ble_eq_true rfl) hRf, Nat.le_trans (Nat.le_of_ble_eq_true rfl) hRl⟩) ⟨kP_blind, va_recv hK hP (ci := 3) (q0 := 0) rfl rfl, kP_at hPc hK hDc hN⟩ rfl rfl hl.1 rfl (lv_room (Nat.le_of_ble_eq_true rfl)) d_Bits_putNumber_33 (g_room hg hm0 hm hRc)) hS (fun q _ h => hFc q h) hFc (fun w_q_9 t H1 locs ht hvm hw hB hz1 hk1 hS => ?_)
    have hg := g_step (L0 := Br_byL w) (L1 := Br_byL w_8) hg hm0 hm hRc
    generalize cells + (Br_byL w_8 - Br_byL w) = cells at hg ⊢
    generalize slots + 2 * (Br_byL w_8 - Br_byL w) = slots at hg ⊢
    obtain ⟨hP, hD⟩ := kQ_join (wr := ([] : va_W)) (w1 := (wCb cI cZ cJ cb_a w_a lk_v cb_7 ++ wBr cI cZ cJ w_a w_q_9 w_8)) hP hD [0, 1, 2, 3] [] rfl rfl (by decide) (by decide) ht hk1 hFc hB
    generalize H1 = H at hP hS ⊢
    have hP : va_P (dC, dI) vwCl (wCb cI cZ cJ cb_a w_a lk_v cb_7 ++ wBr cI cZ cJ w_a w_q_9 w_8) H := hP.sub [0, 1, 2, 3] rfl
    have hD : va_D A (wCb cI cZ cJ cb_a w_a lk_v cb_7 ++ wBr cI cZ cJ w_a w_q_9 w_8) := hD.sub [0, 1, 2, 3] (by decide) rfl
    exact hr36 _ _ _ _ _ _ cb_7 w_8 hg hP hD hS hf
  · try dsimp only
    refine mle_bd (fun y9 hy9 => ?_)
    obtain ⟨cb_7, w_8⟩ := y9
    try dsimp only
    refine mle_le (mo_C_Bits_putBits _ hy9) ?_
    try dsimp only
    exact mle_some (Nat.le_refl _)
end
set_option maxHeartbeats 4000000 in
set_option maxRecDepth 100000 in
theorem k_C_Bits_putNumber (l : Launch) (dC : Nat → ClassId) (dI : Nat → Nat → Nat) (cI cZ cJ : ClassId) (cb_a : Nat → Nat) (w_a w_b : Nat) (lk_v : Nat) (sz : Nat) {cb : Cb} {w : Br} {x1 : Int32} {cb' : Cb} {w' : Br} (hf : f_C_Bits_putNumber cb w x1 = some (cb', w')) :
    Met l y_Bits_putNumber ws_Bits_putNumber ({ frames := 5, cells := (Br_byL w' - Br_byL w), slots := (2 * (Br_byL w' - Br_byL w)), locals := 153 }) (va_Pc [.ref (cb_a 0), .int x1] (kP (dC, dI) vwCl (TYS cI cZ cJ) (wCb cI cZ cJ cb_a w_a lk_v cb ++ wBr cI cZ cJ w_a w_b w) sz)) (va_Qv (fun (_ : Nat) => True) (fun q9 t => kQ (dC, dI) vwCl (TYS cI cZ cJ) (wCb cI cZ cJ cb_a w_a lk_v cb ++ wBr cI cZ cJ w_a w_b w) sz (wCb cI cZ cJ cb_a w_a lk_v cb' ++ wBr cI cZ cJ w_a q9 w') t) (va_A (wCb cI cZ cJ cb_a w_a lk_v cb ++ wBr cI cZ cJ w_a w_b w) sz)) (Br_byL w' - Br_byL w) (2 * (Br_byL w' - Br_byL w)) (va_A (wCb cI cZ cJ cb_a w_a lk_v cb ++ wBr cI cZ cJ w_a w_b w) sz) := by
  refine Met.ofW (cc := c_Bits_putNumber) (maxL := 4) (ret := none) (by decide) rfl ?_
  intro p e s m args below meth c s₁ B hml hv
  obtain ⟨rfl, hsz, hP, hK, hD0, hN⟩ := hv
  have hr := B.returns
  have hlocks := B.notSynchronized
  subst hsz
  have hD := hD0.self (sz := s.heap.size)
  have hl := lv_entry ([.ref (cb_a 0), .int x1]) (n := 4) (Nat.le_of_ble_eq_true rfl)
  rw [lg_entry_eq]
  generalize (lg_sl ([.ref (cb_a 0), .int x1]) ++ List.replicate (4 - (lg_sl ([.ref (cb_a 0), .int x1])).length) Slot.unset).toArray = ls at hl ⊢
  refine B_C_Bits_putNumber (A := va_A (wCb cI cZ cJ cb_a w_a lk_v cb ++ wBr cI cZ cJ w_a w_b w) s.heap.size) ⟨B.exec, B.bytes, hml, findClass_of_methodNamed B.named, fun w h => atoms_spec (ws := ws_Bits_putNumber) B.pre w (List.mem_cons_of_mem _ h), hK, fun q h => Or.inr h, Nat.le_of_ble_eq_true rfl, Nat.le_of_ble_eq_true rfl, hN, Nat.zero_le _, Nat.zero_le _⟩ ⟨Nat.le_refl _, Nat.le_refl _⟩ (fun H locs ls cells slots q9 cb'1 w'1 hg hP hD hS hf => ?_) ⟨Nat.le_refl _, Nat.zero_le _, Nat.zero_le _, Nat.zero_le _, Nat.zero_le _⟩ hP hD va_S.rf hl hf
  · cases hf
    refine W.widen (k := (Br_byL w' - Br_byL w)) (n := (2 * (Br_byL w' - Br_byL w))) hg.2.1 hg.2.2.1 ?_
    exact W.vret B.exec B.bytes hr (fun t ht hW => ⟨⟨q9, rfl, trivial, ⟨by rw [ht]; exact hP, va_K.moved hW.alike hK, hD⟩⟩, hS.F ht⟩) hS.2.2 d_Bits_putNumber_36

