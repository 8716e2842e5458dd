abbrev ws_Arrays_fill : List Cond := .code y_Arrays_fill c_Arrays_fill 4 none :: tb
theorem hd_Arrays_fill : y_Arrays_fill.cls = R_Arrays ∧ y_Arrays_fill.cls ≠ "java/lang/invoke/MethodHandle" ∧ y_Arrays_fill.cls ≠ "java/lang/invoke/VarHandle" ∧ (parseMethodDescriptor y_Arrays_fill.desc).map (fun d => d.parameters.length) = some 2 := by decide +kernel
theorem d_Arrays_fill_0 : decode c_Arrays_fill 0 = .ok (.iconst 0, 1) := by decide +kernel
theorem d_Arrays_fill_1 : decode c_Arrays_fill 1 = .ok (.istore_n 2, 1) := by decide +kernel
theorem d_Arrays_fill_2 : decode c_Arrays_fill 2 = .ok (.aload_n 0, 1) := by decide +kernel
theorem d_Arrays_fill_3 : decode c_Arrays_fill 3 = .ok (.arraylength, 1) := by decide +kernel
theorem d_Arrays_fill_4 : decode c_Arrays_fill 4 = .ok (.istore_n 3, 1) := by decide +kernel
theorem d_Arrays_fill_5 : decode c_Arrays_fill 5 = .ok (.iload_n 2, 1) := by decide +kernel
theorem d_Arrays_fill_6 : decode c_Arrays_fill 6 = .ok (.iload_n 3, 1) := by decide +kernel
theorem d_Arrays_fill_7 : decode c_Arrays_fill 7 = .ok (.if_icmp .ge 13, 3) := by decide +kernel
theorem d_Arrays_fill_10 : decode c_Arrays_fill 10 = .ok (.aload_n 0, 1) := by decide +kernel
theorem d_Arrays_fill_11 : decode c_Arrays_fill 11 = .ok (.iload_n 2, 1) := by decide +kernel
theorem d_Arrays_fill_12 : decode c_Arrays_fill 12 = .ok (.iload_n 1, 1) := by decide +kernel
theorem d_Arrays_fill_13 : decode c_Arrays_fill 13 = .ok (.iastore, 1) := by decide +kernel
theorem d_Arrays_fill_14 : decode c_Arrays_fill 14 = .ok (.iinc 2 1, 3) := by decide +kernel
theorem d_Arrays_fill_17 : decode c_Arrays_fill 17 = .ok (.goto (-12), 3) := by decide +kernel
theorem d_Arrays_fill_20 : decode c_Arrays_fill 20 = .ok (.return_, 1) := by decide +kernel
/-! Arrays.fill, by hand -/
def va_fl (f : Nat → Int32) (n : Nat) (v : Int32) : Nat → Int32 := fun j => if j < n then v else f j
theorem va_fl_0 (f : Nat → Int32) (v : Int32) : va_fl f 0 v = f := by
  funext j; simp [va_fl]
theorem va_fl_s (f : Nat → Int32) (i : Nat) (v : Int32) : upd (va_fl f i v) i v = va_fl f (i + 1) v := by
  funext j
  unfold upd va_fl
  by_cases h : j = i
  · subst h; simp
  · rw [if_neg h]
    by_cases h2 : j < i
    · rw [if_pos h2, if_pos (by omega)]
    · rw [if_neg h2, if_neg (by omega)]
set_option maxHeartbeats 4000000 in
set_option maxRecDepth 100000 in
theorem k_fill (l : Launch) (dC : Nat → ClassId) (dI : Nat → Nat → Nat) (cI cZ cJ : ClassId) (a sz : Nat) {n : Nat} {f : Nat → Int32} {x1 : Int32} (hn : n < 2 ^ 31) :
    Met l y_Arrays_fill ws_Arrays_fill ({ frames := 0, cells := 0, slots := 0, locals := 0 }) (va_Pc [.ref a, .int x1] (kP (dC, dI) vwCl (TYS cI cZ cJ) [(a, .inl (cI, n, .inl f))] sz)) (va_Qv (fun (_ : Unit) => True) (fun _ t => kQ (dC, dI) vwCl (TYS cI cZ cJ) [(a, .inl (cI, n, .inl f))] sz [(a, .inl (cI, n, .inl (va_fl f n x1)))] t) (va_A [(a, .inl (cI, n, .inl f))] sz)) 0 0 (va_A [(a, .inl (cI, n, .inl f))] sz) := by
  refine Met.ofW (cc := c_Arrays_fill) (maxL := 4) (ret := none) (by decide) rfl ?_
  intro p e s m args below meth c s₁ B hml hv
  obtain ⟨rfl, hsz, hP, hK, hD0, hN⟩ := hv
  have hx := B.exec
  have hb := B.bytes
  have hr := B.returns
  have hlocks := B.notSynchronized
  subst hsz
  have hD := hD0.self (sz := s.heap.size)
  have hS : va_S (va_A [(a, .inl (cI, n, .inl f))] s.heap.size) s.heap s.heap [] := va_S.rf
  have hl := lv_entry ([.ref a, .int x1]) (n := 4) (Nat.le_of_ble_eq_true rfl)
  rw [lg_entry_eq]
  generalize (lg_sl ([.ref a, .int x1]) ++ List.replicate (4 - (lg_sl ([.ref a, .int x1])).length) Slot.unset).toArray = ls at hl ⊢
  have L : ∀ (k i : Nat), i ≤ n → n - i ≤ k → ∀ (H : Heap) (locs : List Loc) (ls : Array Slot), va_P (dC, dI) vwCl [(a, .inl (cI, n, .inl (va_fl f i x1)))] H → va_D (va_A [(a, .inl (cI, n, .inl f))] s.heap.size) [(a, .inl (cI, n, .inl (va_fl f i x1)))] → va_S (va_A [(a, .inl (cI, n, .inl f))] s.heap.size) s.heap H locs → lv_has ls 4 [(0, .ref a), (1, .int x1), (2, .int (nI i)), (3, .int (nI n))] →
      W p l e (headSpec ws_Arrays_fill ({ frames := 0, cells := 0, slots := 0, locals := 0 })).room s m (List.toArray [Value.ref a, Value.int x1]) below meth c H locs 0 0 (MQ below (va_Qv (fun (_ : Unit) => True) (fun _ t => kQ (dC, dI) vwCl (TYS cI cZ cJ) [(a, .inl (cI, n, .inl f))] s.heap.size [(a, .inl (cI, n, .inl (va_fl f n x1)))] t) (va_A [(a, .inl (cI, n, .inl f))] s.heap.size)) (List.toArray [Value.ref a, Value.int x1]) s 0 0 (va_A [(a, .inl (cI, n, .inl f))] s.heap.size)) (F0 m 5 ls []) := by
    intro k
    induction k with
    | zero =>
      intro i h1 h2 H locs ls hP hD hS hl
      have e : i = n := by omega
      subst e
      refine lv_iload_n hx hb d_Arrays_fill_5 rfl (lv_at hl 2 rfl) ?_
      refine lv_iload_n hx hb d_Arrays_fill_6 rfl (lv_at hl 3 rfl) ?_
      refine lv_icmp_ge (tgt := 20) hx hb d_Arrays_fill_7 (by decide) (fun c1 => ?_) (fun c1 => absurd (nI_le (Nat.le_refl i) hn) c1)
      exact W.vret hx hb hr (fun t ht hW => ⟨⟨(), rfl, trivial, ⟨by rw [ht]; exact hP, va_K.moved hW.alike hK, hD⟩⟩, hS.F ht⟩) hS.2.2 d_Arrays_fill_20
    | succ k ih =>
      intro i h1 h2 H locs ls hP hD hS hl
      by_cases e : i = n
      · subst e
        refine lv_iload_n hx hb d_Arrays_fill_5 rfl (lv_at hl 2 rfl) ?_
        refine lv_iload_n hx hb d_Arrays_fill_6 rfl (lv_at hl 3 rfl) ?_
        refine lv_icmp_ge (tgt := 20) hx hb d_Arrays_fill_7 (by decide) (fun c1 => ?_) (fun c1 => absurd (nI_le (Nat.le_refl i) hn) c1)
        exact W.vret hx hb hr (fun t ht hW => ⟨⟨(), rfl, trivial, ⟨by rw [ht]; exact hP, va_K.moved hW.alike hK, hD⟩⟩, hS.F ht⟩) hS.2.2 d_Arrays_fill_20
      · refine lv_iload_n hx hb d_Arrays_fill_5 rfl (lv_at hl 2 rfl) ?_
        refine lv_iload_n hx hb d_Arrays_fill_6 rfl (lv_at hl 3 rfl) ?_
        refine lv_icmp_ge (tgt := 20) hx hb d_Arrays_fill_7 (by decide) (fun c1 => absurd c1 (nI_ge (by omega) hn)) (fun c1 => ?_)
        refine lv_aload_n hx hb d_Arrays_fill_10 rfl (lv_at hl 0 rfl) ?_
        refine lv_iload_n hx hb d_Arrays_fill_11 rfl (lv_at hl 2 rfl) ?_
        refine lv_iload_n hx hb d_Arrays_fill_12 rfl (lv_at hl 1 rfl) ?_
        refine va_iast (f := va_fl f i x1) hx hb hK hP hD hS 0 0 rfl rfl (vp_in_nI (by omega) hn) d_Arrays_fill_13 (fun H locs hP hD hS => ?_)
        have hc : (nI i).toNatClampNeg = i := nI_clamp (by omega)
        rw [hc, va_fl_s] at hP hD
        refine lv_iinc (v := nI (i + 1)) (lv' := [(2, .int (nI (i + 1))), (0, .ref a), (1, .int x1), (3, .int (nI n))]) hx hb d_Arrays_fill_14 hl (k := 2) rfl (nI_1 i) (by decide) rfl (fun ls hl => ?_)
        refine lv_goto (tgt := 5) hx hb d_Arrays_fill_17 (by decide) ?_
        exact ih (i + 1) (by omega) (by omega) H locs ls hP hD hS (lv_sub hl [1, 2, 0, 3] rfl)
  refine lv_iconst (v := nI 0) hx hb d_Arrays_fill_0 (by decide) ?_
  refine lv_istore_n (lv' := [(2, .int (nI 0)), (0, .ref a), (1, .int x1)]) hx hb d_Arrays_fill_1 rfl hl (by decide) rfl (fun ls hl => ?_)
  refine lv_aload_n hx hb d_Arrays_fill_2 rfl (lv_at hl 1 rfl) ?_
  refine va_alen (v := nI n) hx hb hK hP 0 0 rfl rfl rfl d_Arrays_fill_3 ?_
  refine lv_istore_n (lv' := [(3, .int (nI n)), (2, .int (nI 0)), (0, .ref a), (1, .int x1)]) hx hb d_Arrays_fill_4 rfl hl (by decide) rfl (fun ls hl => ?_)
  exact L n 0 (Nat.zero_le n) (by omega) _ _ ls (by rw [va_fl_0]; exact hP) (by rw [va_fl_0]; exact hD) hS (lv_sub hl [2, 3, 1, 0] rfl)
theorem t_96 : (.fieldLink R_ByteRow 13 "SymbolDictionaries$ByteRow" "size" "I" : Cond) ∈ tb := List.mem_filter.mpr ⟨List.mem_of_getElem? (i := 96) (by decide +kernel), by decide +kernel⟩
theorem t_98 : (.fieldLink R_ByteRow 27 "SymbolDictionaries$ByteRow" "taken" "I" : Cond) ∈ tb := List.mem_filter.mpr ⟨List.mem_of_getElem? (i := 98) (by decide +kernel), by decide +kernel⟩
theorem t_94 : (.fieldLink R_ByteRow 7 "SymbolDictionaries$ByteRow" "bytes" "[I" : Cond) ∈ tb := List.mem_filter.mpr ⟨List.mem_of_getElem? (i := 94) (by decide +kernel), by decide +kernel⟩
theorem t_128 : (.fieldLink R_PlainBits 30 "SymbolDictionaries$PlainBits" "waiting" "LSymbolDictionaries$ByteRow;" : Cond) ∈ tb := List.mem_filter.mpr ⟨List.mem_of_getElem? (i := 128) (by decide +kernel), by decide +kernel⟩
theorem t_129 : (.sameField R_PlainBits R_Bits "waiting" "LSymbolDictionaries$ByteRow;" : Cond) ∈ tb := List.mem_filter.mpr ⟨List.mem_of_getElem? (i := 129) (by decide +kernel), by decide +kernel⟩
theorem t_462 : (.methodLink R_PlainBits 33 y_ByteRow_takeFromFront : Cond) ∈ tb := List.mem_filter.mpr ⟨List.mem_of_getElem? (i := 462) (by decide +kernel), by decide +kernel⟩
theorem t_452 : (.instanceMethod y_ByteRow_takeFromFront : Cond) ∈ tb := List.mem_filter.mpr ⟨List.mem_of_getElem? (i := 452) (by decide +kernel), by decide +kernel⟩
theorem t_453 : (.selects R_ByteRow y_ByteRow_takeFromFront y_ByteRow_takeFromFront : Cond) ∈ tb := List.mem_filter.mpr ⟨List.mem_of_getElem? (i := 453) (by decide +kernel), by decide +kernel⟩
theorem t_56 : (.initialized R_ByteRow : Cond) ∈ tb := List.mem_filter.mpr ⟨List.mem_of_getElem? (i := 56) (by decide +kernel), by decide +kernel⟩
theorem t_454 : (.code y_ByteRow_takeFromFront c_ByteRow_takeFromFront 1 none : Cond) ∈ tb := List.mem_filter.mpr ⟨List.mem_of_getElem? (i := 454) (by decide +kernel), by decide +kernel⟩
theorem t_150 : (.fieldLink R_PlainBits 23 "SymbolDictionaries$PlainBits" "howManyHeld" "I" : Cond) ∈ tb := List.mem_filter.mpr ⟨List.mem_of_getElem? (i := 150) (by decide +kernel), by decide +kernel⟩
theorem t_478 : (.methodLink R_PlainBits 36 y_ByteRow_next : Cond) ∈ tb := List.mem_filter.mpr ⟨List.mem_of_getElem? (i := 478) (by decide +kernel), by decide +kernel⟩
theorem t_456 : (.instanceMethod y_ByteRow_next : Cond) ∈ tb := List.mem_filter.mpr ⟨List.mem_of_getElem? (i := 456) (by decide +kernel), by decide +kernel⟩
theorem t_457 : (.selects R_ByteRow y_ByteRow_next y_ByteRow_next : Cond) ∈ tb := List.mem_filter.mpr ⟨List.mem_of_getElem? (i := 457) (by decide +kernel), by decide +kernel⟩
theorem t_458 : (.code y_ByteRow_next c_ByteRow_next 2 (some .int) : Cond) ∈ tb := List.mem_filter.mpr ⟨List.mem_of_getElem? (i := 458) (by decide +kernel), by decide +kernel⟩
theorem t_149 : (.fieldLink R_PlainBits 19 "SymbolDictionaries$PlainBits" "held" "I" : Cond) ∈ tb := List.mem_filter.mpr ⟨List.mem_of_getElem? (i := 149) (by decide +kernel), by decide +kernel⟩
theorem t_117 : (.fieldLink R_ChanceBits 40 "SymbolDictionaries$ChanceBits" "low" "J" : Cond) ∈ tb := List.mem_filter.mpr ⟨List.mem_of_getElem? (i := 117) (by decide +kernel), by decide +kernel⟩
theorem t_118 : (.fieldLink R_ChanceBits 70 "SymbolDictionaries$ChanceBits" "high" "J" : Cond) ∈ tb := List.mem_filter.mpr ⟨List.mem_of_getElem? (i := 118) (by decide +kernel), by decide +kernel⟩
theorem t_116 : (.fieldLink R_ChanceBits 9 "SymbolDictionaries$ChanceBits" "chances" "[I" : Cond) ∈ tb := List.mem_filter.mpr ⟨List.mem_of_getElem? (i := 116) (by decide +kernel), by decide +kernel⟩
theorem t_312 : (.methodLink R_ChanceBits 74 y_Arrays_fill : Cond) ∈ tb := List.mem_filter.mpr ⟨List.mem_of_getElem? (i := 312) (by decide +kernel), by decide +kernel⟩
theorem t_313 : (.static y_Arrays_fill : Cond) ∈ tb := List.mem_filter.mpr ⟨List.mem_of_getElem? (i := 313) (by decide +kernel), by decide +kernel⟩
theorem t_72 : (.initialized R_Arrays : Cond) ∈ tb := List.mem_filter.mpr ⟨List.mem_of_getElem? (i := 72) (by decide +kernel), by decide +kernel⟩
theorem t_314 : (.code y_Arrays_fill c_Arrays_fill 4 none : Cond) ∈ tb := List.mem_filter.mpr ⟨List.mem_of_getElem? (i := 314) (by decide +kernel), by decide +kernel⟩
theorem t_126 : (.fieldLink R_ChanceBits 53 "SymbolDictionaries$ChanceBits" "waiting" "LSymbolDictionaries$ByteRow;" : Cond) ∈ tb := List.mem_filter.mpr ⟨List.mem_of_getElem? (i := 126) (by decide +kernel), by decide +kernel⟩
theorem t_127 : (.sameField R_ChanceBits R_Bits "waiting" "LSymbolDictionaries$ByteRow;" : Cond) ∈ tb := List.mem_filter.mpr ⟨List.mem_of_getElem? (i := 127) (by decide +kernel), by decide +kernel⟩
theorem t_451 : (.methodLink R_ChanceBits 56 y_ByteRow_takeFromFront : Cond) ∈ tb := List.mem_filter.mpr ⟨List.mem_of_getElem? (i := 451) (by decide +kernel), by decide +kernel⟩
theorem t_306 : (.methodLink R_ChanceBits 25 y_ChanceBits_forget : Cond) ∈ tb := List.mem_filter.mpr ⟨List.mem_of_getElem? (i := 306) (by decide +kernel), by decide +kernel⟩
theorem t_308 : (.instanceMethod y_ChanceBits_forget : Cond) ∈ tb := List.mem_filter.mpr ⟨List.mem_of_getElem? (i := 308) (by decide +kernel), by decide +kernel⟩
theorem t_0 : (.selects R_ChanceBits y_ChanceBits_forget y_ChanceBits_forget : Cond) ∈ tb := List.mem_filter.mpr ⟨List.mem_of_getElem? (i := 0) (by decide +kernel), by decide +kernel⟩
theorem t_58 : (.initialized R_ChanceBits : Cond) ∈ tb := List.mem_filter.mpr ⟨List.mem_of_getElem? (i := 58) (by decide +kernel), by decide +kernel⟩
theorem t_309 : (.code y_ChanceBits_forget c_ChanceBits_forget 1 none : Cond) ∈ tb := List.mem_filter.mpr ⟨List.mem_of_getElem? (i := 309) (by decide +kernel), by decide +kernel⟩
theorem t_119 : (.fieldLink R_ChanceBits 59 "SymbolDictionaries$ChanceBits" "code" "J" : Cond) ∈ tb := List.mem_filter.mpr ⟨List.mem_of_getElem? (i := 119) (by decide +kernel), by decide +kernel⟩
theorem t_455 : (.methodLink R_ChanceBits 62 y_ByteRow_next : Cond) ∈ tb := List.mem_filter.mpr ⟨List.mem_of_getElem? (i := 455) (by decide +kernel), by decide +kernel⟩
theorem t_337 : (.methodLink R_ChanceBits 28 y_ChanceBits_split : Cond) ∈ tb := List.mem_filter.mpr ⟨List.mem_of_getElem? (i := 337) (by decide +kernel), by decide +kernel⟩
theorem t_339 : (.instanceMethod y_ChanceBits_split : Cond) ∈ tb := List.mem_filter.mpr ⟨List.mem_of_getElem? (i := 339) (by decide +kernel), by decide +kernel⟩
theorem t_1 : (.selects R_ChanceBits y_ChanceBits_split y_ChanceBits_split : Cond) ∈ tb := List.mem_filter.mpr ⟨List.mem_of_getElem? (i := 1) (by decide +kernel), by decide +kernel⟩
theorem t_340 : (.code y_ChanceBits_split c_ChanceBits_split 3 (some .long) : Cond) ∈ tb := List.mem_filter.mpr ⟨List.mem_of_getElem? (i := 340) (by decide +kernel), by decide +kernel⟩
theorem t_344 : (.methodLink R_ChanceBits 32 y_ChanceBits_narrow : Cond) ∈ tb := List.mem_filter.mpr ⟨List.mem_of_getElem? (i := 344) (by decide +kernel), by decide +kernel⟩
theorem t_346 : (.instanceMethod y_ChanceBits_narrow : Cond) ∈ tb := List.mem_filter.mpr ⟨List.mem_of_getElem? (i := 346) (by decide +kernel), by decide +kernel⟩
theorem t_2 : (.selects R_ChanceBits y_ChanceBits_narrow y_ChanceBits_narrow : Cond) ∈ tb := List.mem_filter.mpr ⟨List.mem_of_getElem? (i := 2) (by decide +kernel), by decide +kernel⟩
theorem t_347 : (.code y_ChanceBits_narrow c_ChanceBits_narrow 6 none : Cond) ∈ tb := List.mem_filter.mpr ⟨List.mem_of_getElem? (i := 347) (by decide +kernel), by decide +kernel⟩
theorem t_349 : (.methodLink R_ChanceBits 36 y_ChanceBits_highestBytesAgree : Cond) ∈ tb := List.mem_filter.mpr ⟨List.mem_of_getElem? (i := 349) (by decide +kernel), by decide +kernel⟩
theorem t_351 : (.instanceMethod y_ChanceBits_highestBytesAgree : Cond) ∈ tb := List.mem_filter.mpr ⟨List.mem_of_getElem? (i := 351) (by decide +kernel), by decide +kernel⟩
theorem t_3 : (.selects R_ChanceBits y_ChanceBits_highestBytesAgree y_ChanceBits_highestBytesAgree : Cond) ∈ tb := List.mem_filter.mpr ⟨List.mem_of_getElem? (i := 3) (by decide +kernel), by decide +kernel⟩
theorem t_352 : (.code y_ChanceBits_highestBytesAgree c_ChanceBits_highestBytesAgree 1 (some .boolean) : Cond) ∈ tb := List.mem_filter.mpr ⟨List.mem_of_getElem? (i := 352) (by decide +kernel), by decide +kernel⟩
theorem t_371 : (.methodLink R_ChanceBits 48 y_ChanceBits_shift : Cond) ∈ tb := List.mem_filter.mpr ⟨List.mem_of_getElem? (i := 371) (by decide +kernel), by decide +kernel⟩
theorem t_373 : (.instanceMethod y_ChanceBits_shift : Cond) ∈ tb := List.mem_filter.mpr ⟨List.mem_of_getElem? (i := 373) (by decide +kernel), by decide +kernel⟩
theorem t_4 : (.selects R_ChanceBits y_ChanceBits_shift y_ChanceBits_shift : Cond) ∈ tb := List.mem_filter.mpr ⟨List.mem_of_getElem? (i := 4) (by decide +kernel), by decide +kernel⟩
theorem t_374 : (.code y_ChanceBits_shift c_ChanceBits_shift 1 none : Cond) ∈ tb := List.mem_filter.mpr ⟨List.mem_of_getElem? (i := 374) (by decide +kernel), by decide +kernel⟩
theorem t_475 : (.selects R_PlainBits y_Bits_takeBit y_PlainBits_takeBit : Cond) ∈ tb := List.mem_filter.mpr ⟨List.mem_of_getElem? (i := 475) (by decide +kernel), by decide +kernel⟩
theorem t_469 : (.methodLink R_Bits 25 y_Bits_takeBit : Cond) ∈ tb := List.mem_filter.mpr ⟨List.mem_of_getElem? (i := 469) (by decide +kernel), by decide +kernel⟩
theorem t_471 : (.sameMethod R_Bits R_Bits "takeBit" "(I)I" : Cond) ∈ tb := List.mem_filter.mpr ⟨List.mem_of_getElem? (i := 471) (by decide +kernel), by decide +kernel⟩
theorem t_476 : (.instanceMethod y_PlainBits_takeBit : Cond) ∈ tb := List.mem_filter.mpr ⟨List.mem_of_getElem? (i := 476) (by decide +kernel), by decide +kernel⟩
theorem t_59 : (.initialized R_PlainBits : Cond) ∈ tb := List.mem_filter.mpr ⟨List.mem_of_getElem? (i := 59) (by decide +kernel), by decide +kernel⟩
theorem t_477 : (.code y_PlainBits_takeBit c_PlainBits_takeBit 2 (some .int) : Cond) ∈ tb := List.mem_filter.mpr ⟨List.mem_of_getElem? (i := 477) (by decide +kernel), by decide +kernel⟩
theorem t_483 : (.selects R_PlainBits y_Bits_takeBits y_Bits_takeBits : Cond) ∈ tb := List.mem_filter.mpr ⟨List.mem_of_getElem? (i := 483) (by decide +kernel), by decide +kernel⟩
theorem t_479 : (.methodLink R_Bits 29 y_Bits_takeBits : Cond) ∈ tb := List.mem_filter.mpr ⟨List.mem_of_getElem? (i := 479) (by decide +kernel), by decide +kernel⟩
theorem t_481 : (.sameMethod R_Bits R_Bits "takeBits" "(I)I" : Cond) ∈ tb := List.mem_filter.mpr ⟨List.mem_of_getElem? (i := 481) (by decide +kernel), by decide +kernel⟩
theorem t_480 : (.instanceMethod y_Bits_takeBits : Cond) ∈ tb := List.mem_filter.mpr ⟨List.mem_of_getElem? (i := 480) (by decide +kernel), by decide +kernel⟩
theorem t_57 : (.initialized R_Bits : Cond) ∈ tb := List.mem_filter.mpr ⟨List.mem_of_getElem? (i := 57) (by decide +kernel), by decide +kernel⟩
theorem t_484 : (.code y_Bits_takeBits c_Bits_takeBits 4 (some .int) : Cond) ∈ tb := List.mem_filter.mpr ⟨List.mem_of_getElem? (i := 484) (by decide +kernel), by decide +kernel⟩
theorem t_472 : (.selects R_ChanceBits y_Bits_takeBit y_ChanceBits_takeBit : Cond) ∈ tb := List.mem_filter.mpr ⟨List.mem_of_getElem? (i := 472) (by decide +kernel), by decide +kernel⟩
theorem t_473 : (.instanceMethod y_ChanceBits_takeBit : Cond) ∈ tb := List.mem_filter.mpr ⟨List.mem_of_getElem? (i := 473) (by decide +kernel), by decide +kernel⟩
theorem t_474 : (.code y_ChanceBits_takeBit c_ChanceBits_takeBit 6 (some .int) : Cond) ∈ tb := List.mem_filter.mpr ⟨List.mem_of_getElem? (i := 474) (by decide +kernel), by decide +kernel⟩
theorem t_482 : (.selects R_ChanceBits y_Bits_takeBits y_Bits_takeBits : Cond) ∈ tb := List.mem_filter.mpr ⟨List.mem_of_getElem? (i := 482) (by decide +kernel), by decide +kernel⟩
abbrev ws_ByteRow_removeAll : List Cond := .code y_ByteRow_removeAll c_ByteRow_removeAll 1 none :: tb
theorem hd_ByteRow_removeAll : y_ByteRow_removeAll.cls = R_ByteRow ∧ y_ByteRow_removeAll.cls ≠ "java/lang/invoke/MethodHandle" ∧ y_ByteRow_removeAll.cls ≠ "java/lang/invoke/VarHandle" ∧ (parseMethodDescriptor y_ByteRow_removeAll.desc).map (fun d => d.parameters.length) = some 0 := by decide +kernel
theorem d_ByteRow_removeAll_0 : decode c_ByteRow_removeAll 0 = .ok (.aload_n 0, 1) := by decide +kernel
theorem d_ByteRow_removeAll_1 : decode c_ByteRow_removeAll 1 = .ok (.iconst 0, 1) := by decide +kernel
theorem d_ByteRow_removeAll_2 : decode c_ByteRow_removeAll 2 = .ok (.putfield 13, 3) := by decide +kernel
theorem d_ByteRow_removeAll_5 : decode c_ByteRow_removeAll 5 = .ok (.return_, 1) := by decide +kernel
abbrev ws_ByteRow_takeFromFront : List Cond := .code y_ByteRow_takeFromFront c_ByteRow_takeFromFront 1 none :: tb
theorem hd_ByteRow_takeFromFront : y_ByteRow_takeFromFront.cls = R_ByteRow ∧ y_ByteRow_takeFromFront.cls ≠ "java/lang/invoke/MethodHandle" ∧ y_ByteRow_takeFromFront.cls ≠ "java/lang/invoke/VarHandle" ∧ (parseMethodDescriptor y_ByteRow_takeFromFront.desc).map (fun d => d.parameters.length) = some 0 := by decide +kernel
theorem d_ByteRow_takeFromFront_0 : decode c_ByteRow_takeFromFront 0 = .ok (.aload_n 0, 1) := by decide +kernel
theorem d_ByteRow_takeFromFront_1 : decode c_ByteRow_takeFromFront 1 = .ok (.iconst 0, 1) := by decide +kernel
theorem d_ByteRow_takeFromFront_2 : decode c_ByteRow_takeFromFront 2 = .ok (.putfield 27, 3) := by decide +kernel
theorem d_ByteRow_takeFromFront_5 : decode c_ByteRow_takeFromFront 5 = .ok (.return_, 1) := by decide +kernel
abbrev ws_ByteRow_next : List Cond := .code y_ByteRow_next c_ByteRow_next 2 (some .int) :: tb
theorem hd_ByteRow_next : y_ByteRow_next.cls = R_ByteRow ∧ y_ByteRow_next.cls ≠ "java/lang/invoke/MethodHandle" ∧ y_ByteRow_next.cls ≠ "java/lang/invoke/VarHandle" ∧ (parseMethodDescriptor y_ByteRow_next.desc).map (fun d => d.parameters.length) = some 0 := by decide +kernel
theorem d_ByteRow_next_0 : decode c_ByteRow_next 0 = .ok (.aload_n 0, 1) := by decide +kernel
theorem d_ByteRow_next_1 : decode c_ByteRow_next 1 = .ok (.getfield 27, 3) := by decide +kernel
theorem d_ByteRow_next_4 : decode c_ByteRow_next 4 = .ok (.aload_n 0, 1) := by decide +kernel
theorem d_ByteRow_next_5 : decode c_ByteRow_next 5 = .ok (.getfield 13, 3) := by decide +kernel
theorem d_ByteRow_next_8 : decode c_ByteRow_next 8 = .ok (.if_icmp .lt 5, 3) := by decide +kernel
theorem d_ByteRow_next_11 : decode c_ByteRow_next 11 = .ok (.iconst 0, 1) := by decide +kernel
theorem d_ByteRow_next_12 : decode c_ByteRow_next 12 = .ok (.ireturn, 1) := by decide +kernel
theorem d_ByteRow_next_13 : decode c_ByteRow_next 13 = .ok (.aload_n 0, 1) := by decide +kernel
theorem d_ByteRow_next_14 : decode c_ByteRow_next 14 = .ok (.getfield 7, 3) := by decide +kernel
theorem d_ByteRow_next_17 : decode c_ByteRow_next 17 = .ok (.aload_n 0, 1) := by decide +kernel
theorem d_ByteRow_next_18 : decode c_ByteRow_next 18 = .ok (.getfield 27, 3) := by decide +kernel
theorem d_ByteRow_next_21 : decode c_ByteRow_next 21 = .ok (.iaload, 1) := by decide +kernel
theorem d_ByteRow_next_22 : decode c_ByteRow_next 22 = .ok (.istore_n 1, 1) := by decide +kernel
theorem d_ByteRow_next_23 : decode c_ByteRow_next 23 = .ok (.aload_n 0, 1) := by decide +kernel
theorem d_ByteRow_next_24 : decode c_ByteRow_next 24 = .ok (.dup, 1) := by decide +kernel
theorem d_ByteRow_next_25 : decode c_ByteRow_next 25 = .ok (.getfield 27, 3) := by decide +kernel
theorem d_ByteRow_next_28 : decode c_ByteRow_next 28 = .ok (.iconst 1, 1) := by decide +kernel
theorem d_ByteRow_next_29 : decode c_ByteRow_next 29 = .ok (.iadd, 1) := by decide +kernel
theorem d_ByteRow_next_30 : decode c_ByteRow_next 30 = .ok (.putfield 27, 3) := by decide +kernel
theorem d_ByteRow_next_33 : decode c_ByteRow_next 33 = .ok (.iload_n 1, 1) := by decide +kernel
theorem d_ByteRow_next_34 : decode c_ByteRow_next 34 = .ok (.ireturn, 1) := by decide +kernel
abbrev ws_PlainBits_startReading : List Cond := .code y_PlainBits_startReading c_PlainBits_startReading 1 none :: tb
theorem hd_PlainBits_startReading : y_PlainBits_startReading.cls = R_PlainBits ∧ y_PlainBits_startReading.cls ≠ "java/lang/invoke/MethodHandle" ∧ y_PlainBits_startReading.cls ≠ "java/lang/invoke/VarHandle" ∧ (parseMethodDescriptor y_PlainBits_startReading.desc).map (fun d => d.parameters.length) = some 0 := by decide +kernel
theorem d_PlainBits_startReading_0 : decode c_PlainBits_startReading 0 = .ok (.aload_n 0, 1) := by decide +kernel
theorem d_PlainBits_startReading_1 : decode c_PlainBits_startReading 1 = .ok (.getfield 30, 3) := by decide +kernel
theorem d_PlainBits_startReading_4 : decode c_PlainBits_startReading 4 = .ok (.invokevirtual 33, 3) := by decide +kernel
theorem d_PlainBits_startReading_7 : decode c_PlainBits_startReading 7 = .ok (.aload_n 0, 1) := by decide +kernel
theorem d_PlainBits_startReading_8 : decode c_PlainBits_startReading 8 = .ok (.iconst 0, 1) := by decide +kernel
theorem d_PlainBits_startReading_9 : decode c_PlainBits_startReading 9 = .ok (.putfield 23, 3) := by decide +kernel
theorem d_PlainBits_startReading_12 : decode c_PlainBits_startReading 12 = .ok (.return_, 1) := by decide +kernel
abbrev ws_PlainBits_takeBit : List Cond := .code y_PlainBits_takeBit c_PlainBits_takeBit 2 (some .int) :: tb
theorem hd_PlainBits_takeBit : y_PlainBits_takeBit.cls = R_PlainBits ∧ y_PlainBits_takeBit.cls ≠ "java/lang/invoke/MethodHandle" ∧ y_PlainBits_takeBit.cls ≠ "java/lang/invoke/VarHandle" ∧ (parseMethodDescriptor y_PlainBits_takeBit.desc).map (fun d => d.parameters.length) = some 1 := by decide +kernel
theorem d_PlainBits_takeBit_0 : decode c_PlainBits_takeBit 0 = .ok (.aload_n 0, 1) := by decide +kernel
theorem d_PlainBits_takeBit_1 : decode c_PlainBits_takeBit 1 = .ok (.getfield 23, 3) := by decide +kernel
theorem d_PlainBits_takeBit_4 : decode c_PlainBits_takeBit 4 = .ok (.ifCond .ne 20, 3) := by decide +kernel
theorem d_PlainBits_takeBit_7 : decode c_PlainBits_takeBit 7 = .ok (.aload_n 0, 1) := by decide +kernel
theorem d_PlainBits_takeBit_8 : decode c_PlainBits_takeBit 8 = .ok (.aload_n 0, 1) := by decide +kernel
theorem d_PlainBits_takeBit_9 : decode c_PlainBits_takeBit 9 = .ok (.getfield 30, 3) := by decide +kernel
theorem d_PlainBits_takeBit_12 : decode c_PlainBits_takeBit 12 = .ok (.invokevirtual 36, 3) := by decide +kernel
theorem d_PlainBits_takeBit_15 : decode c_PlainBits_takeBit 15 = .ok (.putfield 19, 3) := by decide +kernel
theorem d_PlainBits_takeBit_18 : decode c_PlainBits_takeBit 18 = .ok (.aload_n 0, 1) := by decide +kernel
theorem d_PlainBits_takeBit_19 : decode c_PlainBits_takeBit 19 = .ok (.bipush 8, 2) := by decide +kernel
theorem d_PlainBits_takeBit_21 : decode c_PlainBits_takeBit 21 = .ok (.putfield 23, 3) := by decide +kernel
theorem d_PlainBits_takeBit_24 : decode c_PlainBits_takeBit 24 = .ok (.aload_n 0, 1) := by decide +kernel
theorem d_PlainBits_takeBit_25 : decode c_PlainBits_takeBit 25 = .ok (.dup, 1) := by decide +kernel
theorem d_PlainBits_takeBit_26 : decode c_PlainBits_takeBit 26 = .ok (.getfield 23, 3) := by decide +kernel
theorem d_PlainBits_takeBit_29 : decode c_PlainBits_takeBit 29 = .ok (.iconst 1, 1) := by decide +kernel
theorem d_PlainBits_takeBit_30 : decode c_PlainBits_takeBit 30 = .ok (.isub, 1) := by decide +kernel
theorem d_PlainBits_takeBit_31 : decode c_PlainBits_takeBit 31 = .ok (.putfield 23, 3) := by decide +kernel
theorem d_PlainBits_takeBit_34 : decode c_PlainBits_takeBit 34 = .ok (.aload_n 0, 1) := by decide +kernel
theorem d_PlainBits_takeBit_35 : decode c_PlainBits_takeBit 35 = .ok (.getfield 19, 3) := by decide +kernel
theorem d_PlainBits_takeBit_38 : decode c_PlainBits_takeBit 38 = .ok (.aload_n 0, 1) := by decide +kernel
theorem d_PlainBits_takeBit_39 : decode c_PlainBits_takeBit 39 = .ok (.getfield 23, 3) := by decide +kernel
theorem d_PlainBits_takeBit_42 : decode c_PlainBits_takeBit 42 = .ok (.ishr, 1) := by decide +kernel
theorem d_PlainBits_takeBit_43 : decode c_PlainBits_takeBit 43 = .ok (.iconst 1, 1) := by decide +kernel
theorem d_PlainBits_takeBit_44 : decode c_PlainBits_takeBit 44 = .ok (.iand, 1) := by decide +kernel
theorem d_PlainBits_takeBit_45 : decode c_PlainBits_takeBit 45 = .ok (.ireturn, 1) := by decide +kernel
abbrev ws_ChanceBits_forget : List Cond := .code y_ChanceBits_forget c_ChanceBits_forget 1 none :: tb
theorem hd_ChanceBits_forget : y_ChanceBits_forget.cls = R_ChanceBits ∧ y_ChanceBits_forget.cls ≠ "java/lang/invoke/MethodHandle" ∧ y_ChanceBits_forget.cls ≠ "java/lang/invoke/VarHandle" ∧ (parseMethodDescriptor y_ChanceBits_forget.desc).map (fun d => d.parameters.length) = some 0 := by decide +kernel
theorem d_ChanceBits_forget_0 : decode c_ChanceBits_forget 0 = .ok (.aload_n 0, 1) := by decide +kernel
theorem d_ChanceBits_forget_1 : decode c_ChanceBits_forget 1 = .ok (.lconst 0, 1) := by decide +kernel
theorem d_ChanceBits_forget_2 : decode c_ChanceBits_forget 2 = .ok (.putfield 40, 3) := by decide +kernel
theorem d_ChanceBits_forget_5 : decode c_ChanceBits_forget 5 = .ok (.aload_n 0, 1) := by decide +kernel
theorem d_ChanceBits_forget_6 : decode c_ChanceBits_forget 6 = .ok (.ldc2_w 68, 3) := by decide +kernel
theorem d_ChanceBits_forget_9 : decode c_ChanceBits_forget 9 = .ok (.putfield 70, 3) := by decide +kernel
theorem d_ChanceBits_forget_12 : decode c_ChanceBits_forget 12 = .ok (.aload_n 0, 1) := by decide +kernel
theorem d_ChanceBits_forget_13 : decode c_ChanceBits_forget 13 = .ok (.getfield 9, 3) := by decide +kernel
theorem d_ChanceBits_forget_16 : decode c_ChanceBits_forget 16 = .ok (.ldc 73, 2) := by decide +kernel
theorem d_ChanceBits_forget_18 : decode c_ChanceBits_forget 18 = .ok (.invokestatic 74, 3) := by decide +kernel
theorem d_ChanceBits_forget_21 : decode c_ChanceBits_forget 21 = .ok (.return_, 1) := by decide +kernel
abbrev ws_ChanceBits_split : List Cond := .code y_ChanceBits_split c_ChanceBits_split 3 (some .long) :: tb
theorem hd_ChanceBits_split : y_ChanceBits_split.cls = R_ChanceBits ∧ y_ChanceBits_split.cls ≠ "java/lang/invoke/MethodHandle" ∧ y_ChanceBits_split.cls ≠ "java/lang/invoke/VarHandle" ∧ (parseMethodDescriptor y_ChanceBits_split.desc).map (fun d => d.parameters.length) = some 1 := by decide +kernel
theorem d_ChanceBits_split_0 : decode c_ChanceBits_split 0 = .ok (.ldc 73, 2) := by decide +kernel
theorem d_ChanceBits_split_2 : decode c_ChanceBits_split 2 = .ok (.istore_n 2, 1) := by decide +kernel
theorem d_ChanceBits_split_3 : decode c_ChanceBits_split 3 = .ok (.iload_n 1, 1) := by decide +kernel
theorem d_ChanceBits_split_4 : decode c_ChanceBits_split 4 = .ok (.ifCond .lt 26, 3) := by decide +kernel
theorem d_ChanceBits_split_7 : decode c_ChanceBits_split 7 = .ok (.iload_n 1, 1) := by decide +kernel
theorem d_ChanceBits_split_8 : decode c_ChanceBits_split 8 = .ok (.bipush 32, 2) := by decide +kernel
theorem d_ChanceBits_split_10 : decode c_ChanceBits_split 10 = .ok (.if_icmp .ge 20, 3) := by decide +kernel
theorem d_ChanceBits_split_13 : decode c_ChanceBits_split 13 = .ok (.bipush 64, 2) := by decide +kernel
theorem d_ChanceBits_split_15 : decode c_ChanceBits_split 15 = .ok (.ldc 80, 2) := by decide +kernel
theorem d_ChanceBits_split_17 : decode c_ChanceBits_split 17 = .ok (.aload_n 0, 1) := by decide +kernel
theorem d_ChanceBits_split_18 : decode c_ChanceBits_split 18 = .ok (.getfield 9, 3) := by decide +kernel
theorem d_ChanceBits_split_21 : decode c_ChanceBits_split 21 = .ok (.iload_n 1, 1) := by decide +kernel
theorem d_ChanceBits_split_22 : decode c_ChanceBits_split 22 = .ok (.iaload, 1) := by decide +kernel
theorem d_ChanceBits_split_23 : decode c_ChanceBits_split 23 = .ok (.invokestatic 81, 3) := by decide +kernel
theorem d_ChanceBits_split_26 : decode c_ChanceBits_split 26 = .ok (.invokestatic 87, 3) := by decide +kernel
theorem d_ChanceBits_split_29 : decode c_ChanceBits_split 29 = .ok (.istore_n 2, 1) := by decide +kernel
theorem d_ChanceBits_split_30 : decode c_ChanceBits_split 30 = .ok (.aload_n 0, 1) := by decide +kernel
theorem d_ChanceBits_split_31 : decode c_ChanceBits_split 31 = .ok (.getfield 40, 3) := by decide +kernel
theorem d_ChanceBits_split_34 : decode c_ChanceBits_split 34 = .ok (.aload_n 0, 1) := by decide +kernel
theorem d_ChanceBits_split_35 : decode c_ChanceBits_split 35 = .ok (.getfield 70, 3) := by decide +kernel
theorem d_ChanceBits_split_38 : decode c_ChanceBits_split 38 = .ok (.aload_n 0, 1) := by decide +kernel
theorem d_ChanceBits_split_39 : decode c_ChanceBits_split 39 = .ok (.getfield 40, 3) := by decide +kernel
theorem d_ChanceBits_split_42 : decode c_ChanceBits_split 42 = .ok (.lsub, 1) := by decide +kernel
theorem d_ChanceBits_split_43 : decode c_ChanceBits_split 43 = .ok (.iload_n 2, 1) := by decide +kernel
theorem d_ChanceBits_split_44 : decode c_ChanceBits_split 44 = .ok (.i2l, 1) := by decide +kernel
theorem d_ChanceBits_split_45 : decode c_ChanceBits_split 45 = .ok (.lmul, 1) := by decide +kernel
theorem d_ChanceBits_split_46 : decode c_ChanceBits_split 46 = .ok (.bipush 16, 2) := by decide +kernel
theorem d_ChanceBits_split_48 : decode c_ChanceBits_split 48 = .ok (.lshr, 1) := by decide +kernel
theorem d_ChanceBits_split_49 : decode c_ChanceBits_split 49 = .ok (.ladd, 1) := by decide +kernel
theorem d_ChanceBits_split_50 : decode c_ChanceBits_split 50 = .ok (.lreturn, 1) := by decide +kernel
abbrev ws_ChanceBits_narrow : List Cond := .code y_ChanceBits_narrow c_ChanceBits_narrow 6 none :: tb
theorem hd_ChanceBits_narrow : y_ChanceBits_narrow.cls = R_ChanceBits ∧ y_ChanceBits_narrow.cls ≠ "java/lang/invoke/MethodHandle" ∧ y_ChanceBits_narrow.cls ≠ "java/lang/invoke/VarHandle" ∧ (parseMethodDescriptor y_ChanceBits_narrow.desc).map (fun d => d.parameters.length) = some 3 := by decide +kernel
theorem d_ChanceBits_narrow_0 : decode c_ChanceBits_narrow 0 = .ok (.iload_n 1, 1) := by decide +kernel
theorem d_ChanceBits_narrow_1 : decode c_ChanceBits_narrow 1 = .ok (.iconst 1, 1) := by decide +kernel
theorem d_ChanceBits_narrow_2 : decode c_ChanceBits_narrow 2 = .ok (.if_icmp .ne 11, 3) := by decide +kernel
theorem d_ChanceBits_narrow_5 : decode c_ChanceBits_narrow 5 = .ok (.aload_n 0, 1) := by decide +kernel
theorem d_ChanceBits_narrow_6 : decode c_ChanceBits_narrow 6 = .ok (.lload_n 2, 1) := by decide +kernel
theorem d_ChanceBits_narrow_7 : decode c_ChanceBits_narrow 7 = .ok (.putfield 70, 3) := by decide +kernel
theorem d_ChanceBits_narrow_10 : decode c_ChanceBits_narrow 10 = .ok (.goto 10, 3) := by decide +kernel
theorem d_ChanceBits_narrow_13 : decode c_ChanceBits_narrow 13 = .ok (.aload_n 0, 1) := by decide +kernel
theorem d_ChanceBits_narrow_14 : decode c_ChanceBits_narrow 14 = .ok (.lload_n 2, 1) := by decide +kernel
theorem d_ChanceBits_narrow_15 : decode c_ChanceBits_narrow 15 = .ok (.lconst 1, 1) := by decide +kernel
theorem d_ChanceBits_narrow_16 : decode c_ChanceBits_narrow 16 = .ok (.ladd, 1) := by decide +kernel
theorem d_ChanceBits_narrow_17 : decode c_ChanceBits_narrow 17 = .ok (.putfield 40, 3) := by decide +kernel
theorem d_ChanceBits_narrow_20 : decode c_ChanceBits_narrow 20 = .ok (.iload 4, 2) := by decide +kernel
theorem d_ChanceBits_narrow_22 : decode c_ChanceBits_narrow 22 = .ok (.ifCond .lt 53, 3) := by decide +kernel
theorem d_ChanceBits_narrow_25 : decode c_ChanceBits_narrow 25 = .ok (.iload 4, 2) := by decide +kernel
theorem d_ChanceBits_narrow_27 : decode c_ChanceBits_narrow 27 = .ok (.bipush 32, 2) := by decide +kernel
theorem d_ChanceBits_narrow_29 : decode c_ChanceBits_narrow 29 = .ok (.if_icmp .ge 46, 3) := by decide +kernel
theorem d_ChanceBits_narrow_32 : decode c_ChanceBits_narrow 32 = .ok (.aload_n 0, 1) := by decide +kernel
theorem d_ChanceBits_narrow_33 : decode c_ChanceBits_narrow 33 = .ok (.getfield 9, 3) := by decide +kernel
theorem d_ChanceBits_narrow_36 : decode c_ChanceBits_narrow 36 = .ok (.iload 4, 2) := by decide +kernel
theorem d_ChanceBits_narrow_38 : decode c_ChanceBits_narrow 38 = .ok (.iaload, 1) := by decide +kernel
theorem d_ChanceBits_narrow_39 : decode c_ChanceBits_narrow 39 = .ok (.istore 5, 2) := by decide +kernel
theorem d_ChanceBits_narrow_41 : decode c_ChanceBits_narrow 41 = .ok (.aload_n 0, 1) := by decide +kernel
theorem d_ChanceBits_narrow_42 : decode c_ChanceBits_narrow 42 = .ok (.getfield 9, 3) := by decide +kernel
theorem d_ChanceBits_narrow_45 : decode c_ChanceBits_narrow 45 = .ok (.iload 4, 2) := by decide +kernel
theorem d_ChanceBits_narrow_47 : decode c_ChanceBits_narrow 47 = .ok (.iload_n 1, 1) := by decide +kernel
theorem d_ChanceBits_narrow_48 : decode c_ChanceBits_narrow 48 = .ok (.iconst 1, 1) := by decide +kernel
theorem d_ChanceBits_narrow_49 : decode c_ChanceBits_narrow 49 = .ok (.if_icmp .ne 17, 3) := by decide +kernel
theorem d_ChanceBits_narrow_52 : decode c_ChanceBits_narrow 52 = .ok (.iload 5, 2) := by decide +kernel
theorem d_ChanceBits_narrow_54 : decode c_ChanceBits_narrow 54 = .ok (.ldc 90, 2) := by decide +kernel
theorem d_ChanceBits_narrow_56 : decode c_ChanceBits_narrow 56 = .ok (.iload 5, 2) := by decide +kernel
theorem d_ChanceBits_narrow_58 : decode c_ChanceBits_narrow 58 = .ok (.isub, 1) := by decide +kernel
theorem d_ChanceBits_narrow_59 : decode c_ChanceBits_narrow 59 = .ok (.bipush 16, 2) := by decide +kernel
theorem d_ChanceBits_narrow_61 : decode c_ChanceBits_narrow 61 = .ok (.idiv, 1) := by decide +kernel
theorem d_ChanceBits_narrow_62 : decode c_ChanceBits_narrow 62 = .ok (.iadd, 1) := by decide +kernel
theorem d_ChanceBits_narrow_63 : decode c_ChanceBits_narrow 63 = .ok (.goto 11, 3) := by decide +kernel
theorem d_ChanceBits_narrow_66 : decode c_ChanceBits_narrow 66 = .ok (.iload 5, 2) := by decide +kernel
theorem d_ChanceBits_narrow_68 : decode c_ChanceBits_narrow 68 = .ok (.iload 5, 2) := by decide +kernel
theorem d_ChanceBits_narrow_70 : decode c_ChanceBits_narrow 70 = .ok (.bipush 16, 2) := by decide +kernel
theorem d_ChanceBits_narrow_72 : decode c_ChanceBits_narrow 72 = .ok (.idiv, 1) := by decide +kernel
theorem d_ChanceBits_narrow_73 : decode c_ChanceBits_narrow 73 = .ok (.isub, 1) := by decide +kernel
theorem d_ChanceBits_narrow_74 : decode c_ChanceBits_narrow 74 = .ok (.iastore, 1) := by decide +kernel
theorem d_ChanceBits_narrow_75 : decode c_ChanceBits_narrow 75 = .ok (.return_, 1) := by decide +kernel
abbrev ws_ChanceBits_highestBytesAgree : List Cond := .code y_ChanceBits_highestBytesAgree c_ChanceBits_highestBytesAgree 1 (some .boolean) :: tb
theorem hd_ChanceBits_highestBytesAgree : y_ChanceBits_highestBytesAgree.cls = R_ChanceBits ∧ y_ChanceBits_highestBytesAgree.cls ≠ "java/lang/invoke/MethodHandle" ∧ y_ChanceBits_highestBytesAgree.cls ≠ "java/lang/invoke/VarHandle" ∧ (parseMethodDescriptor y_ChanceBits_highestBytesAgree.desc).map (fun d => d.parameters.length) = some 0 := by decide +kernel
theorem d_ChanceBits_highestBytesAgree_0 : decode c_ChanceBits_highestBytesAgree 0 = .ok (.aload_n 0, 1) := by decide +kernel
theorem d_ChanceBits_highestBytesAgree_1 : decode c_ChanceBits_highestBytesAgree 1 = .ok (.getfield 40, 3) := by decide +kernel
theorem d_ChanceBits_highestBytesAgree_4 : decode c_ChanceBits_highestBytesAgree 4 = .ok (.bipush 24, 2) := by decide +kernel
theorem d_ChanceBits_highestBytesAgree_6 : decode c_ChanceBits_highestBytesAgree 6 = .ok (.lshr, 1) := by decide +kernel
theorem d_ChanceBits_highestBytesAgree_7 : decode c_ChanceBits_highestBytesAgree 7 = .ok (.aload_n 0, 1) := by decide +kernel
theorem d_ChanceBits_highestBytesAgree_8 : decode c_ChanceBits_highestBytesAgree 8 = .ok (.getfield 70, 3) := by decide +kernel
theorem d_ChanceBits_highestBytesAgree_11 : decode c_ChanceBits_highestBytesAgree 11 = .ok (.bipush 24, 2) := by decide +kernel
theorem d_ChanceBits_highestBytesAgree_13 : decode c_ChanceBits_highestBytesAgree 13 = .ok (.lshr, 1) := by decide +kernel
theorem d_ChanceBits_highestBytesAgree_14 : decode c_ChanceBits_highestBytesAgree 14 = .ok (.lcmp, 1) := by decide +kernel
theorem d_ChanceBits_highestBytesAgree_15 : decode c_ChanceBits_highestBytesAgree 15 = .ok (.ifCond .ne 7, 3) := by decide +kernel
theorem d_ChanceBits_highestBytesAgree_18 : decode c_ChanceBits_highestBytesAgree 18 = .ok (.iconst 1, 1) := by decide +kernel
theorem d_ChanceBits_highestBytesAgree_19 : decode c_ChanceBits_highestBytesAgree 19 = .ok (.goto 4, 3) := by decide +kernel
theorem d_ChanceBits_highestBytesAgree_22 : decode c_ChanceBits_highestBytesAgree 22 = .ok (.iconst 0, 1) := by decide +kernel
theorem d_ChanceBits_highestBytesAgree_23 : decode c_ChanceBits_highestBytesAgree 23 = .ok (.ireturn, 1) := by decide +kernel
abbrev ws_ChanceBits_shift : List Cond := .code y_ChanceBits_shift c_ChanceBits_shift 1 none :: tb
theorem hd_ChanceBits_shift : y_ChanceBits_shift.cls = R_ChanceBits ∧ y_ChanceBits_shift.cls ≠ "java/lang/invoke/MethodHandle" ∧ y_ChanceBits_shift.cls ≠ "java/lang/invoke/VarHandle" ∧ (parseMethodDescriptor y_ChanceBits_shift.desc).map (fun d => d.parameters.length) = some 0 := by decide +kernel
theorem d_ChanceBits_shift_0 : decode c_ChanceBits_shift 0 = .ok (.aload_n 0, 1) := by decide +kernel
theorem d_ChanceBits_shift_1 : decode c_ChanceBits_shift 1 = .ok (.aload_n 0, 1) := by decide +kernel
theorem d_ChanceBits_shift_2 : decode c_ChanceBits_shift 2 = .ok (.getfield 40, 3) := by decide +kernel
theorem d_ChanceBits_shift_5 : decode c_ChanceBits_shift 5 = .ok (.ldc2_w 66, 3) := by decide +kernel
theorem d_ChanceBits_shift_8 : decode c_ChanceBits_shift 8 = .ok (.land, 1) := by decide +kernel
theorem d_ChanceBits_shift_9 : decode c_ChanceBits_shift 9 = .ok (.bipush 8, 2) := by decide +kernel
theorem d_ChanceBits_shift_11 : decode c_ChanceBits_shift 11 = .ok (.lshl, 1) := by decide +kernel
theorem d_ChanceBits_shift_12 : decode c_ChanceBits_shift 12 = .ok (.putfield 40, 3) := by decide +kernel
theorem d_ChanceBits_shift_15 : decode c_ChanceBits_shift 15 = .ok (.aload_n 0, 1) := by decide +kernel
theorem d_ChanceBits_shift_16 : decode c_ChanceBits_shift 16 = .ok (.aload_n 0, 1) := by decide +kernel
theorem d_ChanceBits_shift_17 : decode c_ChanceBits_shift 17 = .ok (.getfield 70, 3) := by decide +kernel
theorem d_ChanceBits_shift_20 : decode c_ChanceBits_shift 20 = .ok (.ldc2_w 66, 3) := by decide +kernel
theorem d_ChanceBits_shift_23 : decode c_ChanceBits_shift 23 = .ok (.land, 1) := by decide +kernel
theorem d_ChanceBits_shift_24 : decode c_ChanceBits_shift 24 = .ok (.bipush 8, 2) := by decide +kernel
theorem d_ChanceBits_shift_26 : decode c_ChanceBits_shift 26 = .ok (.lshl, 1) := by decide +kernel
theorem d_ChanceBits_shift_27 : decode c_ChanceBits_shift 27 = .ok (.ldc2_w 91, 3) := by decide +kernel
theorem d_ChanceBits_shift_30 : decode c_ChanceBits_shift 30 = .ok (.lor, 1) := by decide +kernel
theorem d_ChanceBits_shift_31 : decode c_ChanceBits_shift 31 = .ok (.putfield 70, 3) := by decide +kernel
theorem d_ChanceBits_shift_34 : decode c_ChanceBits_shift 34 = .ok (.return_, 1) := by decide +kernel
abbrev ws_ChanceBits_startReading : List Cond := .code y_ChanceBits_startReading c_ChanceBits_startReading 2 none :: tb
theorem hd_ChanceBits_startReading : y_ChanceBits_startReading.cls = R_ChanceBits ∧ y_ChanceBits_startReading.cls ≠ "java/lang/invoke/MethodHandle" ∧ y_ChanceBits_startReading.cls ≠ "java/lang/invoke/VarHandle" ∧ (parseMethodDescriptor y_ChanceBits_startReading.desc).map (fun d => d.parameters.length) = some 0 := by decide +kernel
theorem d_ChanceBits_startReading_0 : decode c_ChanceBits_startReading 0 = .ok (.aload_n 0, 1) := by decide +kernel
theorem d_ChanceBits_startReading_1 : decode c_ChanceBits_startReading 1 = .ok (.getfield 53, 3) := by decide +kernel
theorem d_ChanceBits_startReading_4 : decode c_ChanceBits_startReading 4 = .ok (.invokevirtual 56, 3) := by decide +kernel
theorem d_ChanceBits_startReading_7 : decode c_ChanceBits_startReading 7 = .ok (.aload_n 0, 1) := by decide +kernel
theorem d_ChanceBits_startReading_8 : decode c_ChanceBits_startReading 8 = .ok (.invokevirtual 25, 3) := by decide +kernel
theorem d_ChanceBits_startReading_11 : decode c_ChanceBits_startReading 11 = .ok (.aload_n 0, 1) := by decide +kernel
theorem d_ChanceBits_startReading_12 : decode c_ChanceBits_startReading 12 = .ok (.lconst 0, 1) := by decide +kernel
theorem d_ChanceBits_startReading_13 : decode c_ChanceBits_startReading 13 = .ok (.putfield 59, 3) := by decide +kernel
theorem d_ChanceBits_startReading_16 : decode c_ChanceBits_startReading 16 = .ok (.iconst 0, 1) := by decide +kernel
theorem d_ChanceBits_startReading_17 : decode c_ChanceBits_startReading 17 = .ok (.istore_n 1, 1) := by decide +kernel
theorem d_ChanceBits_startReading_18 : decode c_ChanceBits_startReading 18 = .ok (.iload_n 1, 1) := by decide +kernel
theorem d_ChanceBits_startReading_19 : decode c_ChanceBits_startReading 19 = .ok (.iconst 4, 1) := by decide +kernel
theorem d_ChanceBits_startReading_20 : decode c_ChanceBits_startReading 20 = .ok (.if_icmp .ge 29, 3) := by decide +kernel
theorem d_ChanceBits_startReading_23 : decode c_ChanceBits_startReading 23 = .ok (.aload_n 0, 1) := by decide +kernel
theorem d_ChanceBits_startReading_24 : decode c_ChanceBits_startReading 24 = .ok (.aload_n 0, 1) := by decide +kernel
theorem d_ChanceBits_startReading_25 : decode c_ChanceBits_startReading 25 = .ok (.getfield 59, 3) := by decide +kernel
theorem d_ChanceBits_startReading_28 : decode c_ChanceBits_startReading 28 = .ok (.bipush 8, 2) := by decide +kernel
theorem d_ChanceBits_startReading_30 : decode c_ChanceBits_startReading 30 = .ok (.lshl, 1) := by decide +kernel
theorem d_ChanceBits_startReading_31 : decode c_ChanceBits_startReading 31 = .ok (.aload_n 0, 1) := by decide +kernel
theorem d_ChanceBits_startReading_32 : decode c_ChanceBits_startReading 32 = .ok (.getfield 53, 3) := by decide +kernel
theorem d_ChanceBits_startReading_35 : decode c_ChanceBits_startReading 35 = .ok (.invokevirtual 62, 3) := by decide +kernel
theorem d_ChanceBits_startReading_38 : decode c_ChanceBits_startReading 38 = .ok (.i2l, 1) := by decide +kernel
theorem d_ChanceBits_startReading_39 : decode c_ChanceBits_startReading 39 = .ok (.lor, 1) := by decide +kernel
theorem d_ChanceBits_startReading_40 : decode c_ChanceBits_startReading 40 = .ok (.putfield 59, 3) := by decide +kernel
theorem d_ChanceBits_startReading_43 : decode c_ChanceBits_startReading 43 = .ok (.iinc 1 1, 3) := by decide +kernel
theorem d_ChanceBits_startReading_46 : decode c_ChanceBits_startReading 46 = .ok (.goto (-28), 3) := by decide +kernel
theorem d_ChanceBits_startReading_49 : decode c_ChanceBits_startReading 49 = .ok (.return_, 1) := by decide +kernel
abbrev ws_ChanceBits_takeBit : List Cond := .code y_ChanceBits_takeBit c_ChanceBits_takeBit 6 (some .int) :: tb
theorem hd_ChanceBits_takeBit : y_ChanceBits_takeBit.cls = R_ChanceBits ∧ y_ChanceBits_takeBit.cls ≠ "java/lang/invoke/MethodHandle" ∧ y_ChanceBits_takeBit.cls ≠ "java/lang/invoke/VarHandle" ∧ (parseMethodDescriptor y_ChanceBits_takeBit.desc).map (fun d => d.parameters.length) = some 1 := by decide +kernel
theorem d_ChanceBits_takeBit_0 : decode c_ChanceBits_takeBit 0 = .ok (.aload_n 0, 1) := by decide +kernel
theorem d_ChanceBits_takeBit_1 : decode c_ChanceBits_takeBit 1 = .ok (.iload_n 1, 1) := by decide +kernel
theorem d_ChanceBits_takeBit_2 : decode c_ChanceBits_takeBit 2 = .ok (.invokevirtual 28, 3) := by decide +kernel
theorem d_ChanceBits_takeBit_5 : decode c_ChanceBits_takeBit 5 = .ok (.lstore_n 2, 1) := by decide +kernel
theorem d_ChanceBits_takeBit_6 : decode c_ChanceBits_takeBit 6 = .ok (.aload_n 0, 1) := by decide +kernel
theorem d_ChanceBits_takeBit_7 : decode c_ChanceBits_takeBit 7 = .ok (.getfield 59, 3) := by decide +kernel
theorem d_ChanceBits_takeBit_10 : decode c_ChanceBits_takeBit 10 = .ok (.lload_n 2, 1) := by decide +kernel
theorem d_ChanceBits_takeBit_11 : decode c_ChanceBits_takeBit 11 = .ok (.lcmp, 1) := by decide +kernel
theorem d_ChanceBits_takeBit_12 : decode c_ChanceBits_takeBit 12 = .ok (.ifCond .gt 7, 3) := by decide +kernel
theorem d_ChanceBits_takeBit_15 : decode c_ChanceBits_takeBit 15 = .ok (.iconst 1, 1) := by decide +kernel
theorem d_ChanceBits_takeBit_16 : decode c_ChanceBits_takeBit 16 = .ok (.goto 4, 3) := by decide +kernel
theorem d_ChanceBits_takeBit_19 : decode c_ChanceBits_takeBit 19 = .ok (.iconst 0, 1) := by decide +kernel
theorem d_ChanceBits_takeBit_20 : decode c_ChanceBits_takeBit 20 = .ok (.istore 4, 2) := by decide +kernel
theorem d_ChanceBits_takeBit_22 : decode c_ChanceBits_takeBit 22 = .ok (.aload_n 0, 1) := by decide +kernel
theorem d_ChanceBits_takeBit_23 : decode c_ChanceBits_takeBit 23 = .ok (.iload 4, 2) := by decide +kernel
theorem d_ChanceBits_takeBit_25 : decode c_ChanceBits_takeBit 25 = .ok (.lload_n 2, 1) := by decide +kernel
theorem d_ChanceBits_takeBit_26 : decode c_ChanceBits_takeBit 26 = .ok (.iload_n 1, 1) := by decide +kernel
theorem d_ChanceBits_takeBit_27 : decode c_ChanceBits_takeBit 27 = .ok (.invokevirtual 32, 3) := by decide +kernel
theorem d_ChanceBits_takeBit_30 : decode c_ChanceBits_takeBit 30 = .ok (.iconst 0, 1) := by decide +kernel
theorem d_ChanceBits_takeBit_31 : decode c_ChanceBits_takeBit 31 = .ok (.istore 5, 2) := by decide +kernel
theorem d_ChanceBits_takeBit_33 : decode c_ChanceBits_takeBit 33 = .ok (.iload 5, 2) := by decide +kernel
theorem d_ChanceBits_takeBit_35 : decode c_ChanceBits_takeBit 35 = .ok (.iconst 4, 1) := by decide +kernel
theorem d_ChanceBits_takeBit_36 : decode c_ChanceBits_takeBit 36 = .ok (.if_icmp .ge 44, 3) := by decide +kernel
theorem d_ChanceBits_takeBit_39 : decode c_ChanceBits_takeBit 39 = .ok (.aload_n 0, 1) := by decide +kernel
theorem d_ChanceBits_takeBit_40 : decode c_ChanceBits_takeBit 40 = .ok (.invokevirtual 36, 3) := by decide +kernel
theorem d_ChanceBits_takeBit_43 : decode c_ChanceBits_takeBit 43 = .ok (.ifCond .eq 37, 3) := by decide +kernel
theorem d_ChanceBits_takeBit_46 : decode c_ChanceBits_takeBit 46 = .ok (.aload_n 0, 1) := by decide +kernel
theorem d_ChanceBits_takeBit_47 : decode c_ChanceBits_takeBit 47 = .ok (.aload_n 0, 1) := by decide +kernel
theorem d_ChanceBits_takeBit_48 : decode c_ChanceBits_takeBit 48 = .ok (.getfield 59, 3) := by decide +kernel
theorem d_ChanceBits_takeBit_51 : decode c_ChanceBits_takeBit 51 = .ok (.ldc2_w 66, 3) := by decide +kernel
theorem d_ChanceBits_takeBit_54 : decode c_ChanceBits_takeBit 54 = .ok (.land, 1) := by decide +kernel
theorem d_ChanceBits_takeBit_55 : decode c_ChanceBits_takeBit 55 = .ok (.bipush 8, 2) := by decide +kernel
theorem d_ChanceBits_takeBit_57 : decode c_ChanceBits_takeBit 57 = .ok (.lshl, 1) := by decide +kernel
theorem d_ChanceBits_takeBit_58 : decode c_ChanceBits_takeBit 58 = .ok (.aload_n 0, 1) := by decide +kernel
theorem d_ChanceBits_takeBit_59 : decode c_ChanceBits_takeBit 59 = .ok (.getfield 53, 3) := by decide +kernel
theorem d_ChanceBits_takeBit_62 : decode c_ChanceBits_takeBit 62 = .ok (.invokevirtual 62, 3) := by decide +kernel
theorem d_ChanceBits_takeBit_65 : decode c_ChanceBits_takeBit 65 = .ok (.i2l, 1) := by decide +kernel
theorem d_ChanceBits_takeBit_66 : decode c_ChanceBits_takeBit 66 = .ok (.lor, 1) := by decide +kernel
theorem d_ChanceBits_takeBit_67 : decode c_ChanceBits_takeBit 67 = .ok (.putfield 59, 3) := by decide +kernel
theorem d_ChanceBits_takeBit_70 : decode c_ChanceBits_takeBit 70 = .ok (.aload_n 0, 1) := by decide +kernel
theorem d_ChanceBits_takeBit_71 : decode c_ChanceBits_takeBit 71 = .ok (.invokevirtual 48, 3) := by decide +kernel
theorem d_ChanceBits_takeBit_74 : decode c_ChanceBits_takeBit 74 = .ok (.iinc 5 1, 3) := by decide +kernel
theorem d_ChanceBits_takeBit_77 : decode c_ChanceBits_takeBit 77 = .ok (.goto (-44), 3) := by decide +kernel
theorem d_ChanceBits_takeBit_80 : decode c_ChanceBits_takeBit 80 = .ok (.iload 4, 2) := by decide +kernel
theorem d_ChanceBits_takeBit_82 : decode c_ChanceBits_takeBit 82 = .ok (.ireturn, 1) := by decide +kernel
abbrev ws_Bits_takeBits : List Cond := .code y_Bits_takeBits c_Bits_takeBits 4 (some .int) :: tb
theorem hd_Bits_takeBits : y_Bits_takeBits.cls = R_Bits ∧ y_Bits_takeBits.cls ≠ "java/lang/invoke/MethodHandle" ∧ y_Bits_takeBits.cls ≠ "java/lang/invoke/VarHandle" ∧ (parseMethodDescriptor y_Bits_takeBits.desc).map (fun d => d.parameters.length) = some 1 := by decide +kernel
theorem d_Bits_takeBits_0 : decode c_Bits_takeBits 0 = .ok (.iconst 0, 1) := by decide +kernel
theorem d_Bits_takeBits_1 : decode c_Bits_takeBits 1 = .ok (.istore_n 2, 1) := by decide +kernel
theorem d_Bits_takeBits_2 : decode c_Bits_takeBits 2 = .ok (.iconst 0, 1) := by decide +kernel
theorem d_Bits_takeBits_3 : decode c_Bits_takeBits 3 = .ok (.istore_n 3, 1) := by decide +kernel
theorem d_Bits_takeBits_4 : decode c_Bits_takeBits 4 = .ok (.iload_n 3, 1) := by decide +kernel
theorem d_Bits_takeBits_5 : decode c_Bits_takeBits 5 = .ok (.iload_n 1, 1) := by decide +kernel
theorem d_Bits_takeBits_6 : decode c_Bits_takeBits 6 = .ok (.if_icmp .ge 19, 3) := by decide +kernel
theorem d_Bits_takeBits_9 : decode c_Bits_takeBits 9 = .ok (.iload_n 2, 1) := by decide +kernel
theorem d_Bits_takeBits_10 : decode c_Bits_takeBits 10 = .ok (.iconst 1, 1) := by decide +kernel
theorem d_Bits_takeBits_11 : decode c_Bits_takeBits 11 = .ok (.ishl, 1) := by decide +kernel
theorem d_Bits_takeBits_12 : decode c_Bits_takeBits 12 = .ok (.aload_n 0, 1) := by decide +kernel
theorem d_Bits_takeBits_13 : decode c_Bits_takeBits 13 = .ok (.iconst (-1), 1) := by decide +kernel
theorem d_Bits_takeBits_14 : decode c_Bits_takeBits 14 = .ok (.invokevirtual 25, 3) := by decide +kernel
theorem d_Bits_takeBits_17 : decode c_Bits_takeBits 17 = .ok (.ior, 1) := by decide +kernel
theorem d_Bits_takeBits_18 : decode c_Bits_takeBits 18 = .ok (.istore_n 2, 1) := by decide +kernel
theorem d_Bits_takeBits_19 : decode c_Bits_takeBits 19 = .ok (.iinc 3 1, 3) := by decide +kernel
theorem d_Bits_takeBits_22 : decode c_Bits_takeBits 22 = .ok (.goto (-18), 3) := by decide +kernel
theorem d_Bits_takeBits_25 : decode c_Bits_takeBits 25 = .ok (.iload_n 2, 1) := by decide +kernel
theorem d_Bits_takeBits_26 : decode c_Bits_takeBits 26 = .ok (.ireturn, 1) := by decide +kernel
abbrev ws_Bits_takeNumber : List Cond := .code y_Bits_takeNumber c_Bits_takeNumber 2 (some .int) :: tb
theorem hd_Bits_takeNumber : y_Bits_takeNumber.cls = R_Bits ∧ y_Bits_takeNumber.cls ≠ "java/lang/invoke/MethodHandle" ∧ y_Bits_takeNumber.cls ≠ "java/lang/invoke/VarHandle" ∧ (parseMethodDescriptor y_Bits_takeNumber.desc).map (fun d => d.parameters.length) = some 0 := by decide +kernel
theorem d_Bits_takeNumber_0 : decode c_Bits_takeNumber 0 = .ok (.iconst 0, 1) := by decide +kernel
theorem d_Bits_takeNumber_1 : decode c_Bits_takeNumber 1 = .ok (.istore_n 1, 1) := by decide +kernel
theorem d_Bits_takeNumber_2 : decode c_Bits_takeNumber 2 = .ok (.iload_n 1, 1) := by decide +kernel
theorem d_Bits_takeNumber_3 : decode c_Bits_takeNumber 3 = .ok (.bipush 8, 2) := by decide +kernel
theorem d_Bits_takeNumber_5 : decode c_Bits_takeNumber 5 = .ok (.if_icmp .gt 17, 3) := by decide +kernel
theorem d_Bits_takeNumber_8 : decode c_Bits_takeNumber 8 = .ok (.aload_n 0, 1) := by decide +kernel
theorem d_Bits_takeNumber_9 : decode c_Bits_takeNumber 9 = .ok (.iconst (-1), 1) := by decide +kernel
theorem d_Bits_takeNumber_10 : decode c_Bits_takeNumber 10 = .ok (.invokevirtual 25, 3) := by decide +kernel
theorem d_Bits_takeNumber_13 : decode c_Bits_takeNumber 13 = .ok (.ifCond .ne 9, 3) := by decide +kernel
theorem d_Bits_takeNumber_16 : decode c_Bits_takeNumber 16 = .ok (.iinc 1 1, 3) := by decide +kernel
theorem d_Bits_takeNumber_19 : decode c_Bits_takeNumber 19 = .ok (.goto (-17), 3) := by decide +kernel
theorem d_Bits_takeNumber_22 : decode c_Bits_takeNumber 22 = .ok (.iload_n 1, 1) := by decide +kernel
theorem d_Bits_takeNumber_23 : decode c_Bits_takeNumber 23 = .ok (.bipush 8, 2) := by decide +kernel
theorem d_Bits_takeNumber_25 : decode c_Bits_takeNumber 25 = .ok (.if_icmp .le 5, 3) := by decide +kernel
theorem d_Bits_takeNumber_28 : decode c_Bits_takeNumber 28 = .ok (.iconst (-1), 1) := by decide +kernel
theorem d_Bits_takeNumber_29 : decode c_Bits_takeNumber 29 = .ok (.ireturn, 1) := by decide +kernel
theorem d_Bits_takeNumber_30 : decode c_Bits_takeNumber 30 = .ok (.iconst 1, 1) := by decide +kernel
theorem d_Bits_takeNumber_31 : decode c_Bits_takeNumber 31 = .ok (.iload_n 1, 1) := by decide +kernel
theorem d_Bits_takeNumber_32 : decode c_Bits_takeNumber 32 = .ok (.ishl, 1) := by decide +kernel
theorem d_Bits_takeNumber_33 : decode c_Bits_takeNumber 33 = .ok (.aload_n 0, 1) := by decide +kernel
theorem d_Bits_takeNumber_34 : decode c_Bits_takeNumber 34 = .ok (.iload_n 1, 1) := by decide +kernel
theorem d_Bits_takeNumber_35 : decode c_Bits_takeNumber 35 = .ok (.invokevirtual 29, 3) := by decide +kernel
theorem d_Bits_takeNumber_38 : decode c_Bits_takeNumber 38 = .ok (.ior, 1) := by decide +kernel
theorem d_Bits_takeNumber_39 : decode c_Bits_takeNumber 39 = .ok (.iconst 1, 1) := by decide +kernel
theorem d_Bits_takeNumber_40 : decode c_Bits_takeNumber 40 = .ok (.isub, 1) := by decide +kernel
theorem d_Bits_takeNumber_41 : decode c_Bits_takeNumber 41 = .ok (.ireturn, 1) := by decide +kernel
/-! ByteRow_removeAll -/
def f_ByteRow_removeAll (br : Br) : Option (Br) := lt' (Br_s_n br 0) <| fun br_1 => some br_1
section
variable {p : Program} {l : Launch} {e : Env} {R : Room} {s : State} {m : MethodId} {args : Array Value} {below : List Frame} {meth : Method} {c : Code} {Q : State → Prop} {A : Nat → Prop}
set_option maxHeartbeats 4000000 in
set_option maxRecDepth 100000 in
theorem B_ByteRow_removeAll {cells slots : Nat} {dC : Nat → ClassId} {dI : Nat → Nat → Nat} {cI cZ cJ : ClassId} {br_a br_b : Nat} {br : Br} {res : Br} (C0 : cxt p c m s args R cells slots R_ByteRow c_ByteRow_removeAll tb 1 (dC, dI) vwCl (TYS cI cZ cJ) A 0 0)
    (hr5 : ∀ (H : Heap) (locs : List Loc) (ls : Array Slot) (br' : Br), va_P (dC, dI) vwCl (wBr cI cZ cJ br_a br_b br') H → va_D A (wBr cI cZ cJ br_a br_b br') → va_S A s.heap H locs → some br' = some res → W p l e R s m args below meth c H locs cells slots Q (F0 m 5 ls []))
    {H : Heap} {locs : List Loc} {ls : Array Slot} (hP : va_P (dC, dI) vwCl (wBr cI cZ cJ br_a br_b br) H) (hD : va_D A (wBr cI cZ cJ br_a br_b br)) (hS : va_S A s.heap H locs) (hl : lv_has ls 1 [(0, .ref br_a)]) (hf : f_ByteRow_removeAll br = some res) : W p l e R s m args below meth c H locs cells slots Q (F0 m 0 ls []) := by
  obtain ⟨hx, hb, hml, hown, hts, hK, hA, hRf, hRl, hN, hRc⟩ := id C0
  rw [f_ByteRow_removeAll] at hf
  refine lv_aload_n hx hb d_ByteRow_removeAll_0 rfl (lv_at hl 0 rfl) ?_
  refine lv_iconst (v := 0) hx hb d_ByteRow_removeAll_1 (by decide) ?_
  refine va_put (D := (dC, dI)) (ci := 1) (v := .int 0) (ty := .int) (C := R_ByteRow) (T := T_ByteRow) (N := 3) hx hb hts in_ByteRow ty_ByteRow tyok_ByteRow nm_ByteRow hown hK hP hD hS 0 rfl rfl 1 (by decide) (hts _ t_96) (fun _ h9 => h9) rfl (by decide +kernel) rfl rfl (Nat.le_of_ble_eq_true rfl) d_ByteRow_removeAll_2 (fun H locs hP hD hS => ?_)
  obtain ⟨br_1, ebr_1, hf⟩ := lt_ex hf
  try dsimp only at hf
  have hP : va_P (dC, dI) vwCl (wBr cI cZ cJ br_a br_b br_1) H := by rw [ebr_1]; exact hP
  have hD : va_D A (wBr cI cZ cJ br_a br_b br_1) := by rw [ebr_1]; exact hD
  exact hr5 _ _ _ br_1 hP hD hS hf
end
set_option maxHeartbeats 4000000 in
set_option maxRecDepth 100000 in
theorem k_ByteRow_removeAll (l : Launch) (dC : Nat → ClassId) (dI : Nat → Nat → Nat) (cI cZ cJ : ClassId) (br_a br_b : Nat) (sz : Nat) {br : Br} {br' : Br} (hf : f_ByteRow_removeAll br = some br') :
    Met l y_ByteRow_removeAll ws_ByteRow_removeAll ({ frames := 0, cells := 0, slots := 0, locals := 0 }) (va_Pc [.ref br_a] (kP (dC, dI) vwCl (TYS cI cZ cJ) (wBr cI cZ cJ br_a br_b br) sz)) (va_Qv (fun (_ : Unit) => True) (fun _ t => kQ (dC, dI) vwCl (TYS cI cZ cJ) (wBr cI cZ cJ br_a br_b br) sz (wBr cI cZ cJ br_a br_b br') t) (va_A (wBr cI cZ cJ br_a br_b br) sz)) 0 0 (va_A (wBr cI cZ cJ br_a br_b br) sz) := by
  refine Met.ofW (cc := c_ByteRow_removeAll) (maxL := 1) (ret := none) (by decide) rfl ?_
  intro p e s m args below meth c s₁ B hml hv
  obtain ⟨rfl, hsz, hP, hK, hD0, hN⟩ := hv
  have hr := B.returns
  have hlocks := B.notSynchronized
  subst hsz
  have hD := hD0.self (sz := s.heap.size)
  have hl := lv_entry ([.ref br_a]) (n := 1) (Nat.le_of_ble_eq_true rfl)
  rw [lg_entry_eq]
  generalize (lg_sl ([.ref br_a]) ++ List.replicate (1 - (lg_sl ([.ref br_a])).length) Slot.unset).toArray = ls at hl ⊢
  refine B_ByteRow_removeAll (A := va_A (wBr cI cZ cJ br_a br_b br) s.heap.size) ⟨B.exec, B.bytes, hml, findClass_of_methodNamed B.named, fun w h => atoms_spec (ws := ws_ByteRow_removeAll) B.pre w (List.mem_cons_of_mem _ h), hK, fun q h => Or.inr h, Nat.le_of_ble_eq_true rfl, Nat.le_of_ble_eq_true rfl, hN, Nat.le_of_ble_eq_true rfl, Nat.le_of_ble_eq_true rfl⟩ (fun H locs ls br'1 hP hD hS hf => ?_) hP hD va_S.rf hl hf
  · cases hf
    exact W.vret B.exec B.bytes hr (fun t ht hW => ⟨⟨(), rfl, trivial, ⟨by rw [ht]; exact hP, va_K.moved hW.alike hK, hD⟩⟩, hS.F ht⟩) hS.2.2 d_ByteRow_removeAll_5

/-! ByteRow_takeFromFront -/
def f_ByteRow_takeFromFront (br : Br) : Option (Br) := lt' (Br_s_tk br 0) <| fun br_1 => some br_1
section
variable {p : Program} {l : Launch} {e : Env} {R : Room} {s : State} {m : MethodId} {args : Array Value} {below : List Frame} {meth : Method} {c : Code} {Q : State → Prop} {A : Nat → Prop}
set_option maxHeartbeats 4000000 in
set_option maxRecDepth 100000 in
theorem B_ByteRow_takeFromFront {cells slots : Nat} {dC : Nat → ClassId} {dI : Nat → Nat → Nat} {cI cZ cJ : ClassId} {br_a br_b : Nat} {br : Br} {res : Br} (C0 : cxt p c m s args R cells slots R_ByteRow c_ByteRow_takeFromFront tb 1 (dC, dI) vwCl (TYS cI cZ cJ) A 0 0)
    (hr5 : ∀ (H : Heap) (locs : List Loc) (ls : Array Slot) (br' : Br), va_P (dC, dI) vwCl (wBr cI cZ cJ br_a br_b br') H → va_D A (wBr cI cZ cJ br_a br_b br') → va_S A s.heap H locs → some br' = some res → W p l e R s m args below meth c H locs cells slots Q (F0 m 5 ls []))
    {H : Heap} {locs : List Loc} {ls : Array Slot} (hP : va_P (dC, dI) vwCl (wBr cI cZ cJ br_a br_b br) H) (hD : va_D A (wBr cI cZ cJ br_a br_b br)) (hS : va_S A s.heap H locs) (hl : lv_has ls 1 [(0, .ref br_a)]) (hf : f_ByteRow_takeFromFront br = some res) : W p l e R s m args below meth c H locs cells slots Q (F0 m 0 ls []) := by
  obtain ⟨hx, hb, hml, hown, hts, hK, hA, hRf, hRl, hN, hRc⟩ := id C0
  rw [f_ByteRow_takeFromFront] at hf
  refine lv_aload_n hx hb d_ByteRow_takeFromFront_0 rfl (lv_at hl 0 rfl) ?_
  refine lv_iconst (v := 0) hx hb d_ByteRow_takeFromFront_1 (by decide) ?_
  refine va_put (D := (dC, dI)) (ci := 1) (v := .int 0) (ty := .int) (C := R_ByteRow) (T := T_ByteRow) (N := 3) hx hb hts in_ByteRow ty_ByteRow tyok_ByteRow nm_ByteRow hown hK hP hD hS 0 rfl rfl 2 (by decide) (hts _ t_98) (fun _ h9 => h9) rfl (by decide +kernel) rfl rfl (Nat.le_of_ble_eq_true rfl) d_ByteRow_takeFromFront_2 (fun H locs hP hD hS => ?_)
  obtain ⟨br_1, ebr_1, hf⟩ := lt_ex hf
  try dsimp only at hf
  have hP : va_P (dC, dI) vwCl (wBr cI cZ cJ br_a br_b br_1) H := by rw [ebr_1]; exact hP
  have hD : va_D A (wBr cI cZ cJ br_a br_b br_1) := by rw [ebr_1]; exact hD
  exact hr5 _ _ _ br_1 hP hD hS hf
end
set_option maxHeartbeats 4000000 in
set_option maxRecDepth 100000 in
theorem k_ByteRow_takeFromFront (l : Launch) (dC : Nat → ClassId) (dI : Nat → Nat → Nat) (cI cZ cJ : ClassId) (br_a br_b : Nat) (sz : Nat) {br : Br} {br' : Br} (hf : f_ByteRow_takeFromFront br = some br') :
    Met l y_ByteRow_takeFromFront ws_ByteRow_takeFromFront ({ frames := 0, cells := 0, slots := 0, locals := 0 }) (va_Pc [.ref br_a] (kP (dC, dI) vwCl (TYS cI cZ cJ) (wBr cI cZ cJ br_a br_b br) sz)) (va_Qv (fun (_ : Unit) => True) (fun _ t => kQ (dC, dI) vwCl (TYS cI cZ cJ) (wBr cI cZ cJ br_a br_b br) sz (wBr cI cZ cJ br_a br_b br') t) (va_A (wBr cI cZ cJ br_a br_b br) sz)) 0 0 (va_A (wBr cI cZ cJ br_a br_b br) sz) := by
  refine Met.ofW (cc := c_ByteRow_takeFromFront) (maxL := 1) (ret := none) (by decide) rfl ?_
  intro p e s m args below meth c s₁ B hml hv
  obtain ⟨rfl, hsz, hP, hK, hD0, hN⟩ := hv
  have hr := B.returns
  have hlocks := B.notSynchronized
  subst hsz
  have hD := hD0.self (sz := s.heap.size)
  have hl := lv_entry ([.ref br_a]) (n := 1) (Nat.le_of_ble_eq_true rfl)
  rw [lg_entry_eq]
  generalize (lg_sl ([.ref br_a]) ++ List.replicate (1 - (lg_sl ([.ref br_a])).length) Slot.unset).toArray = ls at hl ⊢
  refine B_ByteRow_takeFromFront (A := va_A (wBr cI cZ cJ br_a br_b br) s.heap.size) ⟨B.exec, B.bytes, hml, findClass_of_methodNamed B.named, fun w h => atoms_spec (ws := ws_ByteRow_takeFromFront) B.pre w (List.mem_cons_of_mem _ h), hK, fun q h => Or.inr h, Nat.le_of_ble_eq_true rfl, Nat.le_of_ble_eq_true rfl, hN, Nat.le_of_ble_eq_true rfl, Nat.le_of_ble_eq_true rfl⟩ (fun H locs ls br'1 hP hD hS hf => ?_) hP hD va_S.rf hl hf
  · cases hf
    exact W.vret B.exec B.bytes hr (fun t ht hW => ⟨⟨(), rfl, trivial, ⟨by rw [ht]; exact hP, va_K.moved hW.alike hK, hD⟩⟩, hS.F ht⟩) hS.2.2 d_ByteRow_takeFromFront_5

/-! ByteRow_next -/
def f_ByteRow_next (br : Br) : Option (Int32 × Br) := (if (Br_tk br) < (Br_n br) then gd (inb (Br_tk br) (Br_byL br)) <| lt' (Br_by br (Br_tk br).toNatClampNeg) <| fun x1_3 => lt' (Br_s_tk br ((Br_tk br) + 1)) <| fun br_4 => some (x1_3, br_4) else some (0, br))
section
variable {p : Program} {l : Launch} {e : Env} {R : Room} {s : State} {m : MethodId} {args : Array Value} {below : List Frame} {meth : Method} {c : Code} {Q : State → Prop} {A : Nat → Prop}
set_option maxHeartbeats 4000000 in
set_option maxRecDepth 100000 in
theorem B_ByteRow_next {cells slots : Nat} {dC : Nat → ClassId} {dI : Nat → Nat → Nat} {cI cZ cJ : ClassId} {br_a br_b : Nat} {br : Br} {res : Int32 × Br} (C0 : cxt p c m s args R cells slots R_ByteRow c_ByteRow_next tb 2 (dC, dI) vwCl (TYS cI cZ cJ) A 0 0)
    (hr12 : ∀ (H : Heap) (locs : List Loc) (ls : Array Slot) (v : Int32) (br' : Br), va_P (dC, dI) vwCl (wBr cI cZ cJ br_a br_b br') H → va_D A (wBr cI cZ cJ br_a br_b br') → va_S A s.heap H locs → some (v, br') = some res → W p l e R s m args below meth c H locs cells slots Q (F0 m 12 ls [.int v]))
    (hr34 : ∀ (H : Heap) (locs : List Loc) (ls : Array Slot) (v : Int32) (br' : Br), va_P (dC, dI) vwCl (wBr cI cZ cJ br_a br_b br') H → va_D A (wBr cI cZ cJ br_a br_b br') → va_S A s.heap H locs → some (v, br') = some res → W p l e R s m args below meth c H locs cells slots Q (F0 m 34 ls [.int v]))
    {H : Heap} {locs : List Loc} {ls : Array Slot} (hP : va_P (dC, dI) vwCl (wBr cI cZ cJ br_a br_b br) H) (hD : va_D A (wBr cI cZ cJ br_a br_b br)) (hS : va_S A s.heap H locs) (hl : lv_has ls 2 [(0, .ref br_a)]) (hf : f_ByteRow_next br = some res) : W p l e R s m args below meth c H locs cells slots Q (F0 m 0 ls []) := by
  obtain ⟨hx, hb, hml, hown, hts, hK, hA, hRf, hRl, hN, hRc⟩ := id C0
  rw [f_ByteRow_next] at hf
  refine lv_aload_n hx hb d_ByteRow_next_0 rfl (lv_at hl 0 rfl) ?_
  refine va_get (D := (dC, dI)) (ci := 1) (v := .int (Br_tk br)) (C := R_ByteRow) (T := T_ByteRow) (N := 3) hx hb hts in_ByteRow hown hK hP 0 rfl rfl 2 (by decide) (hts _ t_98) (fun _ h9 => h9) rfl d_ByteRow_next_1 ?_
  refine lv_aload_n hx hb d_ByteRow_next_4 rfl (lv_at hl 0 rfl) ?_
  refine va_get (D := (dC, dI)) (ci := 1) (v := .int (Br_n br)) (C := R_ByteRow) (T := T_ByteRow) (N := 3) hx hb hts in_ByteRow hown hK hP 0 rfl rfl 1 (by decide) (hts _ t_96) (fun _ h9 => h9) rfl d_ByteRow_next_5 ?_
  refine lv_icmp_lt (tgt := 13) hx hb d_ByteRow_next_8 (by decide) (fun c_1 => ?_) (fun c_1 => ?_)
  · rw [if_pos c_1] at hf
    refine lv_aload_n hx hb d_ByteRow_next_13 rfl (lv_at hl 0 rfl) ?_
    refine va_get (D := (dC, dI)) (ci := 1) (v := .ref br_b) (C := R_ByteRow) (T := T_ByteRow) (N := 3) hx hb hts in_ByteRow hown hK hP 0 rfl rfl 0 (by decide) (hts _ t_94) (fun _ h9 => h9) rfl d_ByteRow_next_14 ?_
    refine lv_aload_n hx hb d_ByteRow_next_17 rfl (lv_at hl 0 rfl) ?_
    refine va_get (D := (dC, dI)) (ci := 1) (v := .int (Br_tk br)) (C := R_ByteRow) (T := T_ByteRow) (N := 3) hx hb hts in_ByteRow hown hK hP 0 rfl rfl 2 (by decide) (hts _ t_98) (fun _ h9 => h9) rfl d_ByteRow_next_18 ?_
    obtain ⟨h_2, hf⟩ := gd_ex hf
    refine va_iald (f := Br_by br) hx hb hK hP 1 0 rfl rfl (inb_in h_2) d_ByteRow_next_21 ?_
    obtain ⟨x1_3, ex1_3, hf⟩ := lt_ex hf
    try dsimp only at hf
    refine tp_i ex1_3 ?_
    refine lv_istore_n (lv' := [(1, .int x1_3), (0, .ref br_a)]) hx hb d_ByteRow_next_22 rfl hl (by decide) rfl (fun ls hl => ?_)
    refine lv_aload_n hx hb d_ByteRow_next_23 rfl (lv_at hl 1 rfl) ?_
    refine lv_dup hx hb d_ByteRow_next_24 rfl ?_
    refine va_get (D := (dC, dI)) (ci := 1) (v := .int (Br_tk br)) (C := R_ByteRow) (T := T_ByteRow) (N := 3) hx hb hts in_ByteRow hown hK hP 0 rfl rfl 2 (by decide) (hts _ t_98) (fun _ h9 => h9) rfl d_ByteRow_next_25 ?_
    refine lv_iconst (v := 1) hx hb d_ByteRow_next_28 (by decide) ?_
    refine lv_iadd hx hb d_ByteRow_next_29 ?_
    refine va_put (D := (dC, dI)) (ci := 1) (v := .int ((Br_tk br) + 1)) (ty := .int) (C := R_ByteRow) (T := T_ByteRow) (N := 3) hx hb hts in_ByteRow ty_ByteRow tyok_ByteRow nm_ByteRow hown hK hP hD hS 0 rfl rfl 2 (by decide) (hts _ t_98) (fun _ h9 => h9) rfl (by decide +kernel) rfl rfl (Nat.le_of_ble_eq_true rfl) d_ByteRow_next_30 (fun H locs hP hD hS => ?_)
    obtain ⟨br_4, ebr_4, hf⟩ := lt_ex hf
    try dsimp only at hf
    have hP : va_P (dC, dI) vwCl (wBr cI cZ cJ br_a br_b br_4) H := by rw [ebr_4]; exact hP
    have hD : va_D A (wBr cI cZ cJ br_a br_b br_4) := by rw [ebr_4]; exact hD
    refine lv_iload_n hx hb d_ByteRow_next_33 rfl (lv_at hl 0 rfl) ?_
    exact hr34 _ _ _ x1_3 br_4 hP hD hS hf
  · rw [if_neg c_1] at hf
    refine lv_iconst (v := 0) hx hb d_ByteRow_next_11 (by decide) ?_
    exact hr12 _ _ _ 0 br hP hD hS hf
end
set_option maxHeartbeats 4000000 in
set_option maxRecDepth 100000 in
theorem k_ByteRow_next (l : Launch) (dC : Nat → ClassId) (dI : Nat → Nat → Nat) (cI cZ cJ : ClassId) (br_a br_b : Nat) (sz : Nat) {br : Br} {r : Int32} {br' : Br} (hf : f_ByteRow_next br = some (r, br')) :
    Met l y_ByteRow_next ws_ByteRow_next ({ frames := 0, cells := 0, slots := 0, locals := 0 }) (va_Pc [.ref br_a] (kP (dC, dI) vwCl (TYS cI cZ cJ) (wBr cI cZ cJ br_a br_b br) sz)) (va_Qi (fun (q : Int32) (_ : Unit) => q = r) (fun _ t => kQ (dC, dI) vwCl (TYS cI cZ cJ) (wBr cI cZ cJ br_a br_b br) sz (wBr cI cZ cJ br_a br_b br') t) (va_A (wBr cI cZ cJ br_a br_b br) sz)) 0 0 (va_A (wBr cI cZ cJ br_a br_b br) sz) := by
  refine Met.ofW (cc := c_ByteRow_next) (maxL := 2) (ret := (some .int)) (by decide) rfl ?_
  intro p e s m args below meth c s₁ B hml hv
  obtain ⟨rfl, hsz, hP, hK, hD0, hN⟩ := hv
  have hr := B.returns
  have hlocks := B.notSynchronized
  subst hsz
  have hD := hD0.self (sz := s.heap.size)
  have hl := lv_entry ([.ref br_a]) (n := 2) (Nat.le_of_ble_eq_true rfl)
  rw [lg_entry_eq]
  generalize (lg_sl ([.ref br_a]) ++ List.replicate (2 - (lg_sl ([.ref br_a])).length) Slot.unset).toArray = ls at hl ⊢
  refine B_ByteRow_next (A := va_A (wBr cI cZ cJ br_a br_b br) s.heap.size) ⟨B.exec, B.bytes, hml, findClass_of_methodNamed B.named, fun w h => atoms_spec (ws := ws_ByteRow_next) B.pre w (List.mem_cons_of_mem _ h), hK, fun q h => Or.inr h, Nat.le_of_ble_eq_true rfl, Nat.le_of_ble_eq_true rfl, hN, Nat.le_of_ble_eq_true rfl, Nat.le_of_ble_eq_true rfl⟩ (fun H locs ls v br'1 hP hD hS hf => ?_) (fun H locs ls v br'1 hP hD hS hf => ?_) hP hD va_S.rf hl hf
  · cases hf
    exact W.iret B.exec B.bytes hr (fun t ht hW => ⟨⟨_, (), rfl, rfl, ⟨by rw [ht]; exact hP, va_K.moved hW.alike hK, hD⟩⟩, hS.F ht⟩) hS.2.2 d_ByteRow_next_12
  · cases hf
    exact W.iret B.exec B.bytes hr (fun t ht hW => ⟨⟨_, (), rfl, rfl, ⟨by rw [ht]; exact hP, va_K.moved hW.alike hK, hD⟩⟩, hS.F ht⟩) hS.2.2 d_ByteRow_next_34

/-! P_PlainBits_startReading -/
def f_P_PlainBits_startReading (pb : Pb) (v : Br) : Option (Pb × Br) := bd (f_ByteRow_takeFromFront v) <| fun v_1 => lt' (Pb_s_hm pb 0) <| fun pb_2 => some (pb_2, v_1)
section
variable {p : Program} {l : Launch} {e : Env} {R : Room} {s : State} {m : MethodId} {args : Array Value} {below : List Frame} {meth : Method} {c : Code} {Q : State → Prop} {A : Nat → Prop}
set_option maxHeartbeats 4000000 in
set_option maxRecDepth 100000 in
theorem B_P_PlainBits_startReading {cells slots : Nat} {dC : Nat → ClassId} {dI : Nat → Nat → Nat} {cI cZ cJ : ClassId} {pb_a : Nat → Nat} {v_a v_b : Nat} {lk_w : Nat} {pb : Pb} {v : Br} {res : Pb × Br} (C0 : cxt p c m s args R cells slots R_PlainBits c_PlainBits_startReading tb 1 (dC, dI) vwCl (TYS cI cZ cJ) A 1 20)
    (hr12 : ∀ (H : Heap) (locs : List Loc) (ls : Array Slot) (pb' : Pb) (v' : Br), va_P (dC, dI) vwCl (wPb cI cZ cJ pb_a lk_w v_a pb' ++ wBr cI cZ cJ v_a v_b v') H → va_D A (wPb cI cZ cJ pb_a lk_w v_a pb' ++ wBr cI cZ cJ v_a v_b v') → va_S A s.heap H locs → some (pb', v') = some res → W p l e R s m args below meth c H locs cells slots Q (F0 m 12 ls []))
    {H : Heap} {locs : List Loc} {ls : Array Slot} (hP : va_P (dC, dI) vwCl (wPb cI cZ cJ pb_a lk_w v_a pb ++ wBr cI cZ cJ v_a v_b v) H) (hD : va_D A (wPb cI cZ cJ pb_a lk_w v_a pb ++ wBr cI cZ cJ v_a v_b v)) (hS : va_S A s.heap H locs) (hl : lv_has ls 1 [(0, .ref (pb_a 0))]) (hf : f_P_PlainBits_startReading pb v = some res) : W p l e R s m args below meth c H locs cells slots Q (F0 m 0 ls []) := by
  obtain ⟨hx, hb, hml, hown, hts, hK, hA, hRf, hRl, hN, hRc⟩ := id C0
  rw [f_P_PlainBits_startReading] at hf
  refine lv_aload_n hx hb d_PlainBits_startReading_0 rfl (lv_at hl 0 rfl) ?_
  refine va_get (D := (dC, dI)) (ci := 2) (v := .ref v_a) (C := R_PlainBits) (T := T_PlainBits) (N := 4) hx hb hts in_PlainBits hown hK hP 0 rfl rfl 1 (by decide) (hts _ t_128) (u_same (hts _ t_129)) rfl d_PlainBits_startReading_1 ?_
  obtain ⟨v_1, hf1, hf⟩ := bd_ex hf
  try dsimp only at hf
  have hPc := hP.sub (ws' := (wBr cI cZ cJ v_a v_b v)) [1, 2] rfl
  have hDc := hD.sub (ws' := (wBr cI cZ cJ v_a v_b v)) [1, 2] (by decide) rfl
  have hFc := va_free (wc := (wBr cI cZ cJ v_a v_b v)) hD hS hA [1, 2] rfl
  refine va_callv (va_runV (As := []) (rest := []) ⟨hx, hb, hml, hown, hts⟩ (k_ByteRow_takeFromFront l dC dI cI cZ cJ v_a v_b H.size hf1) (cwV 0 hts (gV t_462 t_452 t_453 t_56 t_454) rfl rfl rfl hd_ByteRow_takeFromFront ⟨Nat.le_trans (Nat.le_of_ble_eq_true rfl) hRf, Nat.le_trans (Nat.le_of_ble_eq_true rfl) hRl⟩) ⟨kP_blind, va_recv hK hP (ci := 1) (q0 := 1) rfl rfl, kP_at hPc hK hDc hN⟩ rfl rfl hl.1 rfl (lv_room (Nat.le_of_ble_eq_true rfl)) d_PlainBits_startReading_4 hRc) hS (fun q _ h => hFc q h) hFc (fun u t H1 locs ht hvm hw hB hz1 hk1 hS => ?_)
  obtain ⟨hP, hD⟩ := kQ_join (wr := (wPb cI cZ cJ pb_a lk_w v_a pb)) (w1 := (wBr cI cZ cJ v_a v_b v_1)) hP hD [1, 2] [0] rfl rfl (by decide) (by decide) ht hk1 hFc hB
  generalize H1 = H at hP hS ⊢
  have hP : va_P (dC, dI) vwCl (wPb cI cZ cJ pb_a lk_w v_a pb ++ wBr cI cZ cJ v_a v_b v_1) H := hP.sub [0, 1, 2] rfl
  have hD : va_D A (wPb cI cZ cJ pb_a lk_w v_a pb ++ wBr cI cZ cJ v_a v_b v_1) := hD.sub [0, 1, 2] (by decide) rfl
  refine lv_aload_n hx hb d_PlainBits_startReading_7 rfl (lv_at hl 0 rfl) ?_
  refine lv_iconst (v := 0) hx hb d_PlainBits_startReading_8 (by decide) ?_
  refine va_put (D := (dC, dI)) (ci := 2) (v := .int 0) (ty := .int) (C := R_PlainBits) (T := T_PlainBits) (N := 4) hx hb hts in_PlainBits ty_PlainBits tyok_PlainBits nm_PlainBits hown hK hP hD hS 0 rfl rfl 3 (by decide) (hts _ t_150) (fun _ h9 => h9) rfl (by decide +kernel) rfl rfl (Nat.le_of_ble_eq_true rfl) d_PlainBits_startReading_9 (fun H locs hP hD hS => ?_)
  obtain ⟨pb_2, epb_2, hf⟩ := lt_ex hf
  try dsimp only at hf
  have hP : va_P (dC, dI) vwCl (wPb cI cZ cJ pb_a lk_w v_a pb_2 ++ wBr cI cZ cJ v_a v_b v_1) H := by rw [epb_2]; exact hP
  have hD : va_D A (wPb cI cZ cJ pb_a lk_w v_a pb_2 ++ wBr cI cZ cJ v_a v_b v_1) := by rw [epb_2]; exact hD
  exact hr12 _ _ _ pb_2 v_1 hP hD hS hf
end
set_option maxHeartbeats 4000000 in
set_option maxRecDepth 100000 in
theorem k_P_PlainBits_startReading (l : Launch) (dC : Nat → ClassId) (dI : Nat → Nat → Nat) (cI cZ cJ : ClassId) (pb_a : Nat → Nat) (v_a v_b : Nat) (lk_w : Nat) (sz : Nat) {pb : Pb} {v : Br} {pb' : Pb} {v' : Br} (hf : f_P_PlainBits_startReading pb v = some (pb', v')) :
    Met l y_PlainBits_startReading ws_PlainBits_startReading ({ frames := 1, cells := 0, slots := 0, locals := 20 }) (va_Pc [.ref (pb_a 0)] (kP (dC, dI) vwCl (TYS cI cZ cJ) (wPb cI cZ cJ pb_a lk_w v_a pb ++ wBr cI cZ cJ v_a v_b v) sz)) (va_Qv (fun (_ : Unit) => True) (fun _ t => kQ (dC, dI) vwCl (TYS cI cZ cJ) (wPb cI cZ cJ pb_a lk_w v_a pb ++ wBr cI cZ cJ v_a v_b v) sz (wPb cI cZ cJ pb_a lk_w v_a pb' ++ wBr cI cZ cJ v_a v_b v') t) (va_A (wPb cI cZ cJ pb_a lk_w v_a pb ++ wBr cI cZ cJ v_a v_b v) sz)) 0 0 (va_A (wPb cI cZ cJ pb_a lk_w v_a pb ++ wBr cI cZ cJ v_a v_b v) sz) := by
  refine Met.ofW (cc := c_PlainBits_startReading) (maxL := 1) (ret := none) (by decide) rfl ?_
  intro p e s m args below meth c s₁ B hml hv
  obtain ⟨rfl, hsz, hP, hK, hD0, hN⟩ := hv
  have hr := B.returns
  have hlocks := B.notSynchronized
  subst hsz
  have hD := hD0.self (sz := s.heap.size)
  have hl := lv_entry ([.ref (pb_a 0)]) (n := 1) (Nat.le_of_ble_eq_true rfl)
  rw [lg_entry_eq]
  generalize (lg_sl ([.ref (pb_a 0)]) ++ List.replicate (1 - (lg_sl ([.ref (pb_a 0)])).length) Slot.unset).toArray = ls at hl ⊢
  refine B_P_PlainBits_startReading (A := va_A (wPb cI cZ cJ pb_a lk_w v_a pb ++ wBr cI cZ cJ v_a v_b v) s.heap.size) ⟨B.exec, B.bytes, hml, findClass_of_methodNamed B.named, fun w h => atoms_spec (ws := ws_PlainBits_startReading) B.pre w (List.mem_cons_of_mem _ h), hK, fun q h => Or.inr h, Nat.le_of_ble_eq_true rfl, Nat.le_of_ble_eq_true rfl, hN, Nat.le_of_ble_eq_true rfl, Nat.le_of_ble_eq_true rfl⟩ (fun H locs ls pb'1 v'1 hP hD hS hf => ?_) hP hD va_S.rf hl hf
  · cases hf
    exact W.vret B.exec B.bytes hr (fun t ht hW => ⟨⟨(), rfl, trivial, ⟨by rw [ht]; exact hP, va_K.moved hW.alike hK, hD⟩⟩, hS.F ht⟩) hS.2.2 d_PlainBits_startReading_12

/-! P_PlainBits_takeBit -/
def j_P_PlainBits_takeBit_24_3 (pb_1 : Pb) (v_2 : Br) : Option (Int32 × Pb × Br) := lt' (Pb_s_hm pb_1 ((Pb_hm pb_1) - 1)) <| fun pb_4 => some (((Pb_he pb_4) >>> ((Pb_hm pb_4) &&& 31)) &&& 1, pb_4, v_2)
def f_P_PlainBits_takeBit (pb : Pb) (v : Br) (x1 : Int32) : Option (Int32 × Pb × Br) := (if (Pb_hm pb) = 0 then bd (f_ByteRow_next v) <| fun (r_7, v_8) => lt' (Pb_s_he pb r_7) <| fun pb_9 => lt' (Pb_s_hm pb_9 8) <| fun pb_11 => j_P_PlainBits_takeBit_24_3 pb_11 v_8 else j_P_PlainBits_takeBit_24_3 pb v)
section
variable {p : Program} {l : Launch} {e : Env} {R : Room} {s : State} {m : MethodId} {args : Array Value} {below : List Frame} {meth : Method} {c : Code} {Q : State → Prop} {A : Nat → Prop}
set_option maxHeartbeats 4000000 in
set_option maxRecDepth 100000 in
theorem B_P_PlainBits_takeBit {cells slots : Nat} {dC : Nat → ClassId} {dI : Nat → Nat → Nat} {cI cZ cJ : ClassId} {pb_a : Nat → Nat} {v_a v_b : Nat} {lk_w : Nat} {pb : Pb} {v : Br} {x1 : Int32} {res : Int32 × Pb × Br} (C0 : cxt p c m s args R cells slots R_PlainBits c_PlainBits_takeBit tb 2 (dC, dI) vwCl (TYS cI cZ cJ) A 1 21)
    (hr45 : ∀ (H : Heap) (locs : List Loc) (ls : Array Slot) (v : Int32) (pb' : Pb) (v' : Br), va_P (dC, dI) vwCl (wPb cI cZ cJ pb_a lk_w v_a pb' ++ wBr cI cZ cJ v_a v_b v') H → va_D A (wPb cI cZ cJ pb_a lk_w v_a pb' ++ wBr cI cZ cJ v_a v_b v') → va_S A s.heap H locs → some (v, pb', v') = some res → W p l e R s m args below meth c H locs cells slots Q (F0 m 45 ls [.int v]))
    {H : Heap} {locs : List Loc} {ls : Array Slot} (hP : va_P (dC, dI) vwCl (wPb cI cZ cJ pb_a lk_w v_a pb ++ wBr cI cZ cJ v_a v_b v) H) (hD : va_D A (wPb cI cZ cJ pb_a lk_w v_a pb ++ wBr cI cZ cJ v_a v_b v)) (hS : va_S A s.heap H locs) (hl : lv_has ls 2 [(0, .ref (pb_a 0)), (1, .int x1)]) (hf : f_P_PlainBits_takeBit pb v x1 = some res) : W p l e R s m args below meth c H locs cells slots Q (F0 m 0 ls []) := by
  obtain ⟨hx, hb, hml, hown, hts, hK, hA, hRf, hRl, hN, hRc⟩ := id C0
  rw [f_P_PlainBits_takeBit] at hf
  refine lv_aload_n hx hb d_PlainBits_takeBit_0 rfl (lv_at hl 0 rfl) ?_
  refine va_get (D := (dC, dI)) (ci := 2) (v := .int (Pb_hm pb)) (C := R_PlainBits) (T := T_PlainBits) (N := 4) hx hb hts in_PlainBits hown hK hP 0 rfl rfl 3 (by decide) (hts _ t_150) (fun _ h9 => h9) rfl d_PlainBits_takeBit_1 ?_
  have J24_2 : ∀ (H : Heap) (locs : List Loc) (ls : Array Slot) (pb_1 : Pb) (v_2 : Br), va_P (dC, dI) vwCl (wPb cI cZ cJ pb_a lk_w v_a pb_1 ++ wBr cI cZ cJ v_a v_b v_2) H → va_D A (wPb cI cZ cJ pb_a lk_w v_a pb_1 ++ wBr cI cZ cJ v_a v_b v_2) → va_S A s.heap H locs → lv_has ls 2 [(0, .ref (pb_a 0))] → j_P_PlainBits_takeBit_24_3 pb_1 v_2 = some res → W p l e R s m args below meth c H locs cells slots Q (F0 m 24 ls []) := by
    intro H locs ls pb_1 v_2 hP hD hS hl hf
    rw [j_P_PlainBits_takeBit_24_3] at hf
    refine lv_aload_n hx hb d_PlainBits_takeBit_24 rfl (lv_at hl 0 rfl) ?_
    refine lv_dup hx hb d_PlainBits_takeBit_25 rfl ?_
    refine va_get (D := (dC, dI)) (ci := 2) (v := .int (Pb_hm pb_1)) (C := R_PlainBits) (T := T_PlainBits) (N := 4) hx hb hts in_PlainBits hown hK hP 0 rfl rfl 3 (by decide) (hts _ t_150) (fun _ h9 => h9) rfl d_PlainBits_takeBit_26 ?_
    refine lv_iconst (v := 1) hx hb d_PlainBits_takeBit_29 (by decide) ?_
    refine lv_isub hx hb d_PlainBits_takeBit_30 ?_
    refine va_put (D := (dC, dI)) (ci := 2) (v := .int ((Pb_hm pb_1) - 1)) (ty := .int) (C := R_PlainBits) (T := T_PlainBits) (N := 4) hx hb hts in_PlainBits ty_PlainBits tyok_PlainBits nm_PlainBits hown hK hP hD hS 0 rfl rfl 3 (by decide) (hts _ t_150) (fun _ h9 => h9) rfl (by decide +kernel) rfl rfl (Nat.le_of_ble_eq_true rfl) d_PlainBits_takeBit_31 (fun H locs hP hD hS => ?_)
    obtain ⟨pb_4, epb_4, hf⟩ := lt_ex hf
    try dsimp only at hf
    have hP : va_P (dC, dI) vwCl (wPb cI cZ cJ pb_a lk_w v_a pb_4 ++ wBr cI cZ cJ v_a v_b v_2) H := by rw [epb_4]; exact hP
    have hD : va_D A (wPb cI cZ cJ pb_a lk_w v_a pb_4 ++ wBr cI cZ cJ v_a v_b v_2) := by rw [epb_4]; exact hD
    refine lv_aload_n hx hb d_PlainBits_takeBit_34 rfl (lv_at hl 0 rfl) ?_
    refine va_get (D := (dC, dI)) (ci := 2) (v := .int (Pb_he pb_4)) (C := R_PlainBits) (T := T_PlainBits) (N := 4) hx hb hts in_PlainBits hown hK hP 0 rfl rfl 2 (by decide) (hts _ t_149) (fun _ h9 => h9) rfl d_PlainBits_takeBit_35 ?_
    refine lv_aload_n hx hb d_PlainBits_takeBit_38 rfl (lv_at hl 0 rfl) ?_
    refine va_get (D := (dC, dI)) (ci := 2) (v := .int (Pb_hm pb_4)) (C := R_PlainBits) (T := T_PlainBits) (N := 4) hx hb hts in_PlainBits hown hK hP 0 rfl rfl 3 (by decide) (hts _ t_150) (fun _ h9 => h9) rfl d_PlainBits_takeBit_39 ?_
    refine lv_ishr hx hb d_PlainBits_takeBit_42 ?_
    refine lv_iconst (v := 1) hx hb d_PlainBits_takeBit_43 (by decide) ?_
    refine lv_iand hx hb d_PlainBits_takeBit_44 ?_
    exact hr45 _ _ _ (((Pb_he pb_4) >>> ((Pb_hm pb_4) &&& 31)) &&& 1) pb_4 v_2 hP hD hS hf
  refine lv_if_ne (tgt := 24) hx hb d_PlainBits_takeBit_4 (by decide) (fun c_6 => ?_) (fun c_6 => ?_)
  · rw [if_neg c_6] at hf
    exact J24_2 _ _ _ pb v hP hD hS (lv_sub hl [0] rfl) hf
  · rw [if_pos c_6] at hf
    refine lv_aload_n hx hb d_PlainBits_takeBit_7 rfl (lv_at hl 0 rfl) ?_
    refine lv_aload_n hx hb d_PlainBits_takeBit_8 rfl (lv_at hl 0 rfl) ?_
    refine va_get (D := (dC, dI)) (ci := 2) (v := .ref v_a) (C := R_PlainBits) (T := T_PlainBits) (N := 4) hx hb hts in_PlainBits hown hK hP 0 rfl rfl 1 (by decide) (hts _ t_128) (u_same (hts _ t_129)) rfl d_PlainBits_takeBit_9 ?_
    obtain ⟨⟨r_7, v_8⟩, hf1, hf⟩ := bd_ex hf
    try dsimp only at hf
    have hPc := hP.sub (ws' := (wBr cI cZ cJ v_a v_b v)) [1, 2] rfl
    have hDc := hD.sub (ws' := (wBr cI cZ cJ v_a v_b v)) [1, 2] (by decide) rfl
    have hFc := va_free (wc := (wBr cI cZ cJ v_a v_b v)) hD hS hA [1, 2] rfl
    refine va_calli (va_runV (As := []) (rest := [.ref (pb_a 0)]) ⟨hx, hb, hml, hown, hts⟩ (k_ByteRow_next l dC dI cI cZ cJ v_a v_b H.size hf1) (cwV 0 hts (gV t_478 t_456 t_457 t_56 t_458) rfl rfl rfl hd_ByteRow_next ⟨Nat.le_trans (Nat.le_of_ble_eq_true rfl) hRf, Nat.le_trans (Nat.le_of_ble_eq_true rfl) hRl⟩) ⟨kP_blind, va_recv hK hP (ci := 1) (q0 := 1) rfl rfl, kP_at hPc hK hDc hN⟩ rfl rfl hl.1 rfl (lv_room (Nat.le_of_ble_eq_true rfl)) d_PlainBits_takeBit_12 hRc) hS (fun q _ h => hFc q h) hFc (fun r9 u t H1 locs ht hvm hw hB hz1 hk1 hS => ?_)
    rw [hw]
    obtain ⟨hP, hD⟩ := kQ_join (wr := (wPb cI cZ cJ pb_a lk_w v_a pb)) (w1 := (wBr cI cZ cJ v_a v_b v_8)) hP hD [1, 2] [0] rfl rfl (by decide) (by decide) ht hk1 hFc hB
    generalize H1 = H at hP hS ⊢
    have hP : va_P (dC, dI) vwCl (wPb cI cZ cJ pb_a lk_w v_a pb ++ wBr cI cZ cJ v_a v_b v_8) H := hP.sub [0, 1, 2] rfl
    have hD : va_D A (wPb cI cZ cJ pb_a lk_w v_a pb ++ wBr cI cZ cJ v_a v_b v_8) := hD.sub [0, 1, 2] (by decide) rfl
    refine va_put (D := (dC, dI)) (ci := 2) (v := .int r_7) (ty := .int) (C := R_PlainBits) (T := T_PlainBits) (N := 4) hx hb hts in_PlainBits ty_PlainBits tyok_PlainBits nm_PlainBits hown hK hP hD hS 0 rfl rfl 2 (by decide) (hts _ t_149) (fun _ h9 => h9) rfl (by decide +kernel) rfl rfl (Nat.le_of_ble_eq_true rfl) d_PlainBits_takeBit_15 (fun H locs hP hD hS => ?_)
    obtain ⟨pb_9, epb_9, hf⟩ := lt_ex hf
    try dsimp only at hf
    have hP : va_P (dC, dI) vwCl (wPb cI cZ cJ pb_a lk_w v_a pb_9 ++ wBr cI cZ cJ v_a v_b v_8) H := by rw [epb_9]; exact hP
    have hD : va_D A (wPb cI cZ cJ pb_a lk_w v_a pb_9 ++ wBr cI cZ cJ v_a v_b v_8) := by rw [epb_9]; exact hD
    refine lv_aload_n hx hb d_PlainBits_takeBit_18 rfl (lv_at hl 0 rfl) ?_
    refine lv_bipush (v := 8) hx hb d_PlainBits_takeBit_19 (by decide) ?_
    refine va_put (D := (dC, dI)) (ci := 2) (v := .int 8) (ty := .int) (C := R_PlainBits) (T := T_PlainBits) (N := 4) hx hb hts in_PlainBits ty_PlainBits tyok_PlainBits nm_PlainBits hown hK hP hD hS 0 rfl rfl 3 (by decide) (hts _ t_150) (fun _ h9 => h9) rfl (by decide +kernel) rfl rfl (Nat.le_of_ble_eq_true rfl) d_PlainBits_takeBit_21 (fun H locs hP hD hS => ?_)
    obtain ⟨pb_11, epb_11, hf⟩ := lt_ex hf
    try dsimp only at hf
    have hP : va_P (dC, dI) vwCl (wPb cI cZ cJ pb_a lk_w v_a pb_11 ++ wBr cI cZ cJ v_a v_b v_8) H := by rw [epb_11]; exact hP
    have hD : va_D A (wPb cI cZ cJ pb_a lk_w v_a pb_11 ++ wBr cI cZ cJ v_a v_b v_8) := by rw [epb_11]; exact hD
    exact J24_2 _ _ _ pb_11 v_8 hP hD hS (lv_sub hl [0] rfl) hf
end
set_option maxHeartbeats 4000000 in
set_option maxRecDepth 100000 in
theorem k_P_PlainBits_takeBit (l : Launch) (dC : Nat → ClassId) (dI : Nat → Nat → Nat) (cI cZ cJ : ClassId) (pb_a : Nat → Nat) (v_a v_b : Nat) (lk_w : Nat) (sz : Nat) {pb : Pb} {v : Br} {x1 : Int32} {r : Int32} {pb' : Pb} {v' : Br} (hf : f_P_PlainBits_takeBit pb v x1 = some (r, pb', v')) :
    Met l y_PlainBits_takeBit ws_PlainBits_takeBit ({ frames := 1, cells := 0, slots := 0, locals := 21 }) (va_Pc [.ref (pb_a 0), .int x1] (kP (dC, dI) vwCl (TYS cI cZ cJ) (wPb cI cZ cJ pb_a lk_w v_a pb ++ wBr cI cZ cJ v_a v_b v) sz)) (va_Qi (fun (q : Int32) (_ : Unit) => q = r) (fun _ t => kQ (dC, dI) vwCl (TYS cI cZ cJ) (wPb cI cZ cJ pb_a lk_w v_a pb ++ wBr cI cZ cJ v_a v_b v) sz (wPb cI cZ cJ pb_a lk_w v_a pb' ++ wBr cI cZ cJ v_a v_b v') t) (va_A (wPb cI cZ cJ pb_a lk_w v_a pb ++ wBr cI cZ cJ v_a v_b v) sz)) 0 0 (va_A (wPb cI cZ cJ pb_a lk_w v_a pb ++ wBr cI cZ cJ v_a v_b v) sz) := by
  refine Met.ofW (cc := c_PlainBits_takeBit) (maxL := 2) (ret := (some .int)) (by decide) rfl ?_
  intro p e s m args below meth c s₁ B hml hv
  obtain ⟨rfl, hsz, hP, hK, hD0, hN⟩ := hv
  have hr := B.returns
  have hlocks := B.notSynchronized
  subst hsz
  have hD := hD0.self (sz := s.heap.size)
  have hl := lv_entry ([.ref (pb_a 0), .int x1]) (n := 2) (Nat.le_of_ble_eq_true rfl)
  rw [lg_entry_eq]
  generalize (lg_sl ([.ref (pb_a 0), .int x1]) ++ List.replicate (2 - (lg_sl ([.ref (pb_a 0), .int x1])).length) Slot.unset).toArray = ls at hl ⊢
  refine B_P_PlainBits_takeBit (A := va_A (wPb cI cZ cJ pb_a lk_w v_a pb ++ wBr cI cZ cJ v_a v_b v) s.heap.size) ⟨B.exec, B.bytes, hml, findClass_of_methodNamed B.named, fun w h => atoms_spec (ws := ws_PlainBits_takeBit) B.pre w (List.mem_cons_of_mem _ h), hK, fun q h => Or.inr h, Nat.le_of_ble_eq_true rfl, Nat.le_of_ble_eq_true rfl, hN, Nat.le_of_ble_eq_true rfl, Nat.le_of_ble_eq_true rfl⟩ (fun H locs ls v pb'1 v'1 hP hD hS hf => ?_) hP hD va_S.rf hl hf
  · cases hf
    exact W.iret B.exec B.bytes hr (fun t ht hW => ⟨⟨_, (), rfl, rfl, ⟨by rw [ht]; exact hP, va_K.moved hW.alike hK, hD⟩⟩, hS.F ht⟩) hS.2.2 d_PlainBits_takeBit_45

/-! C_ChanceBits_forget -/
def f_C_ChanceBits_forget (cb : Cb) : Option (Cb) := lt' (Cb_s_lo cb 0) <| fun cb_1 => lt' (Cb_s_hi cb_1 4294967295) <| fun cb_3 => lt' (Cb_s_ch cb_3 (va_fl (Cb_ch cb_3) 32 32768)) <| fun cb_5 => some cb_5
section
variable {p : Program} {l : Launch} {e : Env} {R : Room} {s : State} {m : MethodId} {args : Array Value} {below : List Frame} {meth : Method} {c : Code} {Q : State → Prop} {A : Nat → Prop}
set_option maxHeartbeats 4000000 in
set_option maxRecDepth 100000 in
theorem B_C_ChanceBits_forget {cells slots : Nat} {dC : Nat → ClassId} {dI : Nat → Nat → Nat} {cI cZ cJ : ClassId} {cb_a : Nat → Nat} {lk_w : Nat} {lk_v : Nat} {cb : Cb} {res : Cb} (C0 : cxt p c m s args R cells slots R_ChanceBits c_ChanceBits_forget tb 1 (dC, dI) vwCl (TYS cI cZ cJ) A 1 23)
    (hr21 : ∀ (H : Heap) (locs : List Loc) (ls : Array Slot) (cb' : Cb), va_P (dC, dI) vwCl (wCb cI cZ cJ cb_a lk_w lk_v cb') H → va_D A (wCb cI cZ cJ cb_a lk_w lk_v cb') → va_S A s.heap H locs → some cb' = some res → W p l e R s m args below meth c H locs cells slots Q (F0 m 21 ls []))
    {H : Heap} {locs : List Loc} {ls : Array Slot} (hP : va_P (dC, dI) vwCl (wCb cI cZ cJ cb_a lk_w lk_v cb) H) (hD : va_D A (wCb cI cZ cJ cb_a lk_w lk_v cb)) (hS : va_S A s.heap H locs) (hl : lv_has ls 1 [(0, .ref (cb_a 0))]) (hf : f_C_ChanceBits_forget cb = some res) : W p l e R s m args below meth c H locs cells slots Q (F0 m 0 ls []) := by
  obtain ⟨hx, hb, hml, hown, hts, hK, hA, hRf, hRl, hN, hRc⟩ := id C0
  rw [f_C_ChanceBits_forget] at hf
  refine lv_aload_n hx hb d_ChanceBits_forget_0 rfl (lv_at hl 0 rfl) ?_
  refine lv_lconst (v := 0) hx hb d_ChanceBits_forget_1 (by decide) ?_
  refine va_put (D := (dC, dI)) (ci := 3) (v := .long 0) (ty := .long) (C := R_ChanceBits) (T := T_ChanceBits) (N := 6) hx hb hts in_ChanceBits ty_ChanceBits tyok_ChanceBits nm_ChanceBits hown hK hP hD hS 0 rfl rfl 3 (by decide) (hts _ t_117) (fun _ h9 => h9) rfl (by decide +kernel) rfl rfl (Nat.le_of_ble_eq_true rfl) d_ChanceBits_forget_2 (fun H locs hP hD hS => ?_)
  obtain ⟨cb_1, ecb_1, hf⟩ := lt_ex hf
  try dsimp only at hf
  have hP : va_P (dC, dI) vwCl (wCb cI cZ cJ cb_a lk_w lk_v cb_1) H := by rw [ecb_1]; exact hP
  have hD : va_D A (wCb cI cZ cJ cb_a lk_w lk_v cb_1) := by rw [ecb_1]; exact hD
  refine lv_aload_n hx hb d_ChanceBits_forget_5 rfl (lv_at hl 0 rfl) ?_
  refine lv_ldc2 (v := 4294967295) hx hb hown (hts (.constantLong R_ChanceBits 68 4294967295) (by decide +kernel)) d_ChanceBits_forget_6 ?_
  refine va_put (D := (dC, dI)) (ci := 3) (v := .long 4294967295) (ty := .long) (C := R_ChanceBits) (T := T_ChanceBits) (N := 6) hx hb hts in_ChanceBits ty_ChanceBits tyok_ChanceBits nm_ChanceBits hown hK hP hD hS 0 rfl rfl 4 (by decide) (hts _ t_118) (fun _ h9 => h9) rfl (by decide +kernel) rfl rfl (Nat.le_of_ble_eq_true rfl) d_ChanceBits_forget_9 (fun H locs hP hD hS => ?_)
  obtain ⟨cb_3, ecb_3, hf⟩ := lt_ex hf
  try dsimp only at hf
  have hP : va_P (dC, dI) vwCl (wCb cI cZ cJ cb_a lk_w lk_v cb_3) H := by rw [ecb_3]; exact hP
  have hD : va_D A (wCb cI cZ cJ cb_a lk_w lk_v cb_3) := by rw [ecb_3]; exact hD
  refine lv_aload_n hx hb d_ChanceBits_forget_12 rfl (lv_at hl 0 rfl) ?_
  refine va_get (D := (dC, dI)) (ci := 3) (v := .ref (cb_a 1)) (C := R_ChanceBits) (T := T_ChanceBits) (N := 6) hx hb hts in_ChanceBits hown hK hP 0 rfl rfl 2 (by decide) (hts _ t_116) (fun _ h9 => h9) rfl d_ChanceBits_forget_13 ?_
  refine lv_ldc (v := 32768) hx hb hown (hts (.constant R_ChanceBits 73 32768) (by decide +kernel)) d_ChanceBits_forget_16 ?_
  have hPc := hP.sub (ws' := [((cb_a 1), .inl (cI, 32, .inl (Cb_ch cb_3)))]) [1] rfl
  have hDc := hD.sub (ws' := [((cb_a 1), .inl (cI, 32, .inl (Cb_ch cb_3)))]) [1] (by decide) rfl
  have hFc := va_free (wc := [((cb_a 1), .inl (cI, 32, .inl (Cb_ch cb_3)))]) hD hS hA [1] rfl
  refine va_callv (va_runS (As := [.ref (cb_a 1), .int 32768]) (rest := []) ⟨hx, hb, hml, hown, hts⟩ (k_fill l dC dI cI cZ cJ (cb_a 1) H.size (n := 32) (f := Cb_ch cb_3) (x1 := 32768) (by decide)) (va_cwS 2 hts (gSo t_312 t_313 t_72 t_314) rfl rfl rfl hd_Arrays_fill.2 ⟨Nat.le_trans (Nat.le_of_ble_eq_true rfl) hRf, Nat.le_trans (Nat.le_of_ble_eq_true rfl) hRl⟩) ⟨kP_blind, kP_at hPc hK hDc hN⟩ rfl rfl hl.1 rfl (lv_room (Nat.le_of_ble_eq_true rfl)) d_ChanceBits_forget_18 hRc) hS (fun q _ h => hFc q h) hFc (fun u t H1 locs ht hvm hw hB hz1 hk1 hS => ?_)
  obtain ⟨hP, hD⟩ := kQ_join (wr := [((cb_a 0), .inr (3, [.ref lk_w, .ref lk_v, .ref (cb_a 1), .long (Cb_lo cb_3), .long (Cb_hi cb_3), .long (Cb_cd cb_3)]))]) (w1 := [((cb_a 1), .inl (cI, 32, .inl (va_fl (Cb_ch cb_3) 32 32768)))]) hP hD [1] [0] rfl rfl (by decide) (by decide) ht hk1 hFc hB
  generalize H1 = H at hP hS ⊢
  obtain ⟨cb_5, ecb_5, hf⟩ := lt_ex hf
  try dsimp only at hf
  have hP : va_P (dC, dI) vwCl (wCb cI cZ cJ cb_a lk_w lk_v cb_5) H := by rw [ecb_5]; exact hP.sub [0, 1] rfl
  have hD : va_D A (wCb cI cZ cJ cb_a lk_w lk_v cb_5) := by rw [ecb_5]; exact hD.sub [0, 1] (by decide) rfl
  exact hr21 _ _ _ cb_5 hP hD hS hf
end
set_option maxHeartbeats 4000000 in
set_option maxRecDepth 100000 in
theorem k_C_ChanceBits_forget (l : Launch) (dC : Nat → ClassId) (dI : Nat → Nat → Nat) (cI cZ cJ : ClassId) (cb_a : Nat → Nat) (lk_w : Nat) (lk_v : Nat) (sz : Nat) {cb : Cb} {cb' : Cb} (hf : f_C_ChanceBits_forget cb = some cb') :
    Met l y_ChanceBits_forget ws_ChanceBits_forget ({ frames := 1, cells := 0, slots := 0, locals := 23 }) (va_Pc [.ref (cb_a 0)] (kP (dC, dI) vwCl (TYS cI cZ cJ) (wCb cI cZ cJ cb_a lk_w lk_v cb) sz)) (va_Qv (fun (_ : Unit) => True) (fun _ t => kQ (dC, dI) vwCl (TYS cI cZ cJ) (wCb cI cZ cJ cb_a lk_w lk_v cb) sz (wCb cI cZ cJ cb_a lk_w lk_v cb') t) (va_A (wCb cI cZ cJ cb_a lk_w lk_v cb) sz)) 0 0 (va_A (wCb cI cZ cJ cb_a lk_w lk_v cb) sz) := by
  refine Met.ofW (cc := c_ChanceBits_forget) (maxL := 1) (ret := none) (by decide) rfl ?_
  intro p e s m args below meth c s₁ B hml hv
  obtain ⟨rfl, hsz, hP, hK, hD0, hN⟩ := hv
  have hr := B.returns
  have hlocks := B.notSynchronized
  subst hsz
  have hD := hD0.self (sz := s.heap.size)
  have hl := lv_entry ([.ref (cb_a 0)]) (n := 1) (Nat.le_of_ble_eq_true rfl)
  rw [lg_entry_eq]
  generalize (lg_sl ([.ref (cb_a 0)]) ++ List.replicate (1 - (lg_sl ([.ref (cb_a 0)])).length) Slot.unset).toArray = ls at hl ⊢
  refine B_C_ChanceBits_forget (A := va_A (wCb cI cZ cJ cb_a lk_w lk_v cb) s.heap.size) ⟨B.exec, B.bytes, hml, findClass_of_methodNamed B.named, fun w h => atoms_spec (ws := ws_ChanceBits_forget) B.pre w (List.mem_cons_of_mem _ h), hK, fun q h => Or.inr h, Nat.le_of_ble_eq_true rfl, Nat.le_of_ble_eq_true rfl, hN, Nat.le_of_ble_eq_true rfl, Nat.le_of_ble_eq_true rfl⟩ (fun H locs ls cb'1 hP hD hS hf => ?_) hP hD va_S.rf hl hf
  · cases hf
    exact W.vret B.exec B.bytes hr (fun t ht hW => ⟨⟨(), rfl, trivial, ⟨by rw [ht]; exact hP, va_K.moved hW.alike hK, hD⟩⟩, hS.F ht⟩) hS.2.2 d_ChanceBits_forget_21

/-! C_ChanceBits_split -/
def j_C_ChanceBits_split_30_2 (cb : Cb) (x2_1 : Int32) : Option (Int64) := some ((Cb_lo cb) + ((((Cb_hi cb) - (Cb_lo cb)) * x2_1.toInt64) >>> ((16 : Int32).toInt64 &&& 63)))
def f_C_ChanceBits_split (cb : Cb) (x1 : Int32) : Option (Int64) := (if x1 < 0 then j_C_ChanceBits_split_30_2 cb 32768 else (if 32 ≤ x1 then j_C_ChanceBits_split_30_2 cb 32768 else gd (inb x1 32) <| lt' (if 64 < if Cb_ch cb x1.toNatClampNeg < 65472 then Cb_ch cb x1.toNatClampNeg else 65472 then if Cb_ch cb x1.toNatClampNeg < 65472 then Cb_ch cb x1.toNatClampNeg else 65472 else 64) <| fun x2_6 => j_C_ChanceBits_split_30_2 cb x2_6))
section
variable {p : Program} {l : Launch} {e : Env} {R : Room} {s : State} {m : MethodId} {args : Array Value} {below : List Frame} {meth : Method} {c : Code} {Q : State → Prop} {A : Nat → Prop}
set_option maxHeartbeats 4000000 in
set_option maxRecDepth 100000 in
theorem B_C_ChanceBits_split {cells slots : Nat} {dC : Nat → ClassId} {dI : Nat → Nat → Nat} {cI cZ cJ : ClassId} {cb_a : Nat → Nat} {lk_w : Nat} {lk_v : Nat} {cb : Cb} {x1 : Int32} {res : Int64} (C0 : cxt p c m s args R cells slots R_ChanceBits c_ChanceBits_split tb 3 (dC, dI) vwCl (TYS cI cZ cJ) A 1 21)
    (hr50 : ∀ (H : Heap) (locs : List Loc) (ls : Array Slot) (v : Int64), va_P (dC, dI) vwCl (wCb cI cZ cJ cb_a lk_w lk_v cb) H → va_D A (wCb cI cZ cJ cb_a lk_w lk_v cb) → va_S A s.heap H locs → some v = some res → W p l e R s m args below meth c H locs cells slots Q (F0 m 50 ls [.long v]))
    {H : Heap} {locs : List Loc} {ls : Array Slot} (hP : va_P (dC, dI) vwCl (wCb cI cZ cJ cb_a lk_w lk_v cb) H) (hD : va_D A (wCb cI cZ cJ cb_a lk_w lk_v cb)) (hS : va_S A s.heap H locs) (hl : lv_has ls 3 [(0, .ref (cb_a 0)), (1, .int x1)]) (hf : f_C_ChanceBits_split cb x1 = some res) : W p l e R s m args below meth c H locs cells slots Q (F0 m 0 ls []) := by
  obtain ⟨hx, hb, hml, hown, hts, hK, hA, hRf, hRl, hN, hRc⟩ := id C0
  rw [f_C_ChanceBits_split] at hf
  refine lv_ldc (v := 32768) hx hb hown (hts (.constant R_ChanceBits 73 32768) (by decide +kernel)) d_ChanceBits_split_0 ?_
  refine lv_istore_n (lv' := [(2, .int 32768), (0, .ref (cb_a 0)), (1, .int x1)]) hx hb d_ChanceBits_split_2 rfl hl (by decide) rfl (fun ls hl => ?_)
  refine lv_iload_n hx hb d_ChanceBits_split_3 rfl (lv_at hl 2 rfl) ?_
  have J30_1 : ∀ (H : Heap) (locs : List Loc) (ls : Array Slot) (x2_1 : Int32), va_P (dC, dI) vwCl (wCb cI cZ cJ cb_a lk_w lk_v cb) H → va_D A (wCb cI cZ cJ cb_a lk_w lk_v cb) → va_S A s.heap H locs → lv_has ls 3 [(0, .ref (cb_a 0)), (2, .int x2_1)] → j_C_ChanceBits_split_30_2 cb x2_1 = some res → W p l e R s m args below meth c H locs cells slots Q (F0 m 30 ls []) := by
    intro H locs ls x2_1 hP hD hS hl hf
    rw [j_C_ChanceBits_split_30_2] at hf
    refine lv_aload_n hx hb d_ChanceBits_split_30 rfl (lv_at hl 0 rfl) ?_
    refine va_get (D := (dC, dI)) (ci := 3) (v := .long (Cb_lo cb)) (C := R_ChanceBits) (T := T_ChanceBits) (N := 6) hx hb hts in_ChanceBits hown hK hP 0 rfl rfl 3 (by decide) (hts _ t_117) (fun _ h9 => h9) rfl d_ChanceBits_split_31 ?_
    refine lv_aload_n hx hb d_ChanceBits_split_34 rfl (lv_at hl 0 rfl) ?_
    refine va_get (D := (dC, dI)) (ci := 3) (v := .long (Cb_hi cb)) (C := R_ChanceBits) (T := T_ChanceBits) (N := 6) hx hb hts in_ChanceBits hown hK hP 0 rfl rfl 4 (by decide) (hts _ t_118) (fun _ h9 => h9) rfl d_ChanceBits_split_35 ?_
    refine lv_aload_n hx hb d_ChanceBits_split_38 rfl (lv_at hl 0 rfl) ?_
    refine va_get (D := (dC, dI)) (ci := 3) (v := .long (Cb_lo cb)) (C := R_ChanceBits) (T := T_ChanceBits) (N := 6) hx hb hts in_ChanceBits hown hK hP 0 rfl rfl 3 (by decide) (hts _ t_117) (fun _ h9 => h9) rfl d_ChanceBits_split_39 ?_
    refine lv_lsub hx hb d_ChanceBits_split_42 ?_
    refine lv_iload_n hx hb d_ChanceBits_split_43 rfl (lv_at hl 1 rfl) ?_
    refine lv_i2l (v := x2_1.toInt64) hx hb d_ChanceBits_split_44 rfl ?_
    refine lv_lmul hx hb d_ChanceBits_split_45 ?_
    refine lv_bipush (v := 16) hx hb d_ChanceBits_split_46 (by decide) ?_
    refine lv_lshr (v := (((Cb_hi cb) - (Cb_lo cb)) * x2_1.toInt64) >>> ((16 : Int32).toInt64 &&& 63)) hx hb d_ChanceBits_split_48 rfl ?_
    refine lv_ladd hx hb d_ChanceBits_split_49 ?_
    exact hr50 _ _ _ ((Cb_lo cb) + ((((Cb_hi cb) - (Cb_lo cb)) * x2_1.toInt64) >>> ((16 : Int32).toInt64 &&& 63))) hP hD hS hf
  refine lv_if_lt (tgt := 30) hx hb d_ChanceBits_split_4 (by decide) (fun c_3 => ?_) (fun c_3 => ?_)
  · rw [if_pos c_3] at hf
    exact J30_1 _ _ _ 32768 hP hD hS (lv_sub hl [1, 0] rfl) hf
  · rw [if_neg c_3] at hf
    refine lv_iload_n hx hb d_ChanceBits_split_7 rfl (lv_at hl 2 rfl) ?_
    refine lv_bipush (v := 32) hx hb d_ChanceBits_split_8 (by decide) ?_
    refine lv_icmp_ge (tgt := 30) hx hb d_ChanceBits_split_10 (by decide) (fun c_4 => ?_) (fun c_4 => ?_)
    · rw [if_pos c_4] at hf
      exact J30_1 _ _ _ 32768 hP hD hS (lv_sub hl [1, 0] rfl) hf
    · rw [if_neg c_4] at hf
      refine lv_bipush (v := 64) hx hb d_ChanceBits_split_13 (by decide) ?_
      refine lv_ldc (v := 65472) hx hb hown (hts (.constant R_ChanceBits 80 65472) (by decide +kernel)) d_ChanceBits_split_15 ?_
      refine lv_aload_n hx hb d_ChanceBits_split_17 rfl (lv_at hl 1 rfl) ?_
      refine va_get (D := (dC, dI)) (ci := 3) (v := .ref (cb_a 1)) (C := R_ChanceBits) (T := T_ChanceBits) (N := 6) hx hb hts in_ChanceBits hown hK hP 0 rfl rfl 2 (by decide) (hts _ t_116) (fun _ h9 => h9) rfl d_ChanceBits_split_18 ?_
      refine lv_iload_n hx hb d_ChanceBits_split_21 rfl (lv_at hl 2 rfl) ?_
      obtain ⟨h_5, hf⟩ := gd_ex hf
      refine va_iald (f := Cb_ch cb) hx hb hK hP 1 0 rfl rfl (inb_in h_5) d_ChanceBits_split_22 ?_
      refine va_mmin hx hb (by rw [hml]; exact hl.1.symm) hown (hts (.methodLink R_ChanceBits 81 Lib.Math.min.name) (by decide +kernel)) (hts (.static Lib.Math.min.name) (by decide +kernel)) (hts (.initialized "java/lang/Math") (by decide +kernel)) (hts (.code Lib.Math.min.name Lib.Math.min.code 2 (some .int)) (by decide +kernel)) (Nat.le_trans (Nat.le_of_ble_eq_true rfl) hRf) (Nat.le_trans (Nat.le_of_ble_eq_true rfl) hRl) hRc.1 hRc.2 d_ChanceBits_split_23 ?_
      refine va_mmax hx hb (by rw [hml]; exact hl.1.symm) hown (hts (.methodLink R_ChanceBits 87 Lib.Math.max.name) (by decide +kernel)) (hts (.static Lib.Math.max.name) (by decide +kernel)) (hts (.initialized "java/lang/Math") (by decide +kernel)) (hts (.code Lib.Math.max.name Lib.Math.max.code 2 (some .int)) (by decide +kernel)) (Nat.le_trans (Nat.le_of_ble_eq_true rfl) hRf) (Nat.le_trans (Nat.le_of_ble_eq_true rfl) hRl) hRc.1 hRc.2 d_ChanceBits_split_26 ?_
      obtain ⟨x2_6, ex2_6, hf⟩ := lt_ex hf
      try dsimp only at hf
      refine tp_i ex2_6 ?_
      refine lv_istore_n (lv' := [(2, .int x2_6), (0, .ref (cb_a 0)), (1, .int x1)]) hx hb d_ChanceBits_split_29 rfl hl (by decide) rfl (fun ls hl => ?_)
      exact J30_1 _ _ _ x2_6 hP hD hS (lv_sub hl [1, 0] rfl) hf
end
set_option maxHeartbeats 4000000 in
set_option maxRecDepth 100000 in
theorem k_C_ChanceBits_split (l : Launch) (dC : Nat → ClassId) (dI : Nat → Nat → Nat) (cI cZ cJ : ClassId) (cb_a : Nat → Nat) (lk_w : Nat) (lk_v : Nat) (sz : Nat) {cb : Cb} {x1 : Int32} {r : Int64} (hf : f_C_ChanceBits_split cb x1 = some r) :
    Met l y_ChanceBits_split ws_ChanceBits_split ({ frames := 1, cells := 0, slots := 0, locals := 21 }) (va_Pc [.ref (cb_a 0), .int x1] (kP (dC, dI) vwCl (TYS cI cZ cJ) (wCb cI cZ cJ cb_a lk_w lk_v cb) sz)) (va_Ql (fun (q : Int64) (_ : Unit) => q = r) (fun _ t => kQ (dC, dI) vwCl (TYS cI cZ cJ) (wCb cI cZ cJ cb_a lk_w lk_v cb) sz (wCb cI cZ cJ cb_a lk_w lk_v cb) t) (va_A (wCb cI cZ cJ cb_a lk_w lk_v cb) sz)) 0 0 (va_A (wCb cI cZ cJ cb_a lk_w lk_v cb) sz) := by
  refine Met.ofW (cc := c_ChanceBits_split) (maxL := 3) (ret := (some .long)) (by decide) rfl ?_
  intro p e s m args below meth c s₁ B hml hv
  obtain ⟨rfl, hsz, hP, hK, hD0, hN⟩ := hv
  have hr := B.returns
  have hlocks := B.notSynchronized
  subst hsz
  have hD := hD0.self (sz := s.heap.size)
  have hl := lv_entry ([.ref (cb_a 0), .int x1]) (n := 3) (Nat.le_of_ble_eq_true rfl)
  rw [lg_entry_eq]
  generalize (lg_sl ([.ref (cb_a 0), .int x1]) ++ List.replicate (3 - (lg_sl ([.ref (cb_a 0), .int x1])).length) Slot.unset).toArray = ls at hl ⊢
  refine B_C_ChanceBits_split (A := va_A (wCb cI cZ cJ cb_a lk_w lk_v cb) s.heap.size) ⟨B.exec, B.bytes, hml, findClass_of_methodNamed B.named, fun w h => atoms_spec (ws := ws_ChanceBits_split) B.pre w (List.mem_cons_of_mem _ h), hK, fun q h => Or.inr h, Nat.le_of_ble_eq_true rfl, Nat.le_of_ble_eq_true rfl, hN, Nat.le_of_ble_eq_true rfl, Nat.le_of_ble_eq_true rfl⟩ (fun H locs ls v hP hD hS hf => ?_) hP hD va_S.rf hl hf
  · cases hf
    exact W.lret B.exec B.bytes hr (fun t ht hW => ⟨⟨_, (), rfl, rfl, ⟨by rw [ht]; exact hP, va_K.moved hW.alike hK, hD⟩⟩, hS.F ht⟩) hS.2.2 d_ChanceBits_split_50

/-! C_ChanceBits_narrow -/
def j_C_ChanceBits_narrow_20_2 (x1 : Int32) (x4 : Int32) (cb_1 : Cb) : Option (Cb) := (if x4 < 0 then some cb_1 else (if 32 ≤ x4 then some cb_1 else gd (inb x4 32) <| lt' (Cb_ch cb_1 x4.toNatClampNeg) <| fun x5_6 => (if x1 = 1 then gd (inb x4 32) <| lt' (Cb_s_ch cb_1 (upd (Cb_ch cb_1) x4.toNatClampNeg (x5_6 + ((65535 - x5_6) / 16)))) <| fun cb_12 => some cb_12 else gd (inb x4 32) <| lt' (Cb_s_ch cb_1 (upd (Cb_ch cb_1) x4.toNatClampNeg (x5_6 - (x5_6 / 16)))) <| fun cb_9 => some cb_9)))
def f_C_ChanceBits_narrow (cb : Cb) (x1 : Int32) (x2 : Int64) (x4 : Int32) : Option (Cb) := (if x1 = 1 then lt' (Cb_s_hi cb x2) <| fun cb_17 => j_C_ChanceBits_narrow_20_2 x1 x4 cb_17 else lt' (Cb_s_lo cb (x2 + 1)) <| fun cb_15 => j_C_ChanceBits_narrow_20_2 x1 x4 cb_15)
section
variable {p : Program} {l : Launch} {e : Env} {R : Room} {s : State} {m : MethodId} {args : Array Value} {below : List Frame} {meth : Method} {c : Code} {Q : State → Prop} {A : Nat → Prop}
set_option maxHeartbeats 4000000 in
set_option maxRecDepth 100000 in
theorem B_C_ChanceBits_narrow {cells slots : Nat} {dC : Nat → ClassId} {dI : Nat → Nat → Nat} {cI cZ cJ : ClassId} {cb_a : Nat → Nat} {lk_w : Nat} {lk_v : Nat} {cb : Cb} {x1 : Int32} {x2 : Int64} {x4 : Int32} {res : Cb} (C0 : cxt p c m s args R cells slots R_ChanceBits c_ChanceBits_narrow tb 6 (dC, dI) vwCl (TYS cI cZ cJ) A 0 0)
    (hr75 : ∀ (H : Heap) (locs : List Loc) (ls : Array Slot) (cb' : Cb), va_P (dC, dI) vwCl (wCb cI cZ cJ cb_a lk_w lk_v cb') H → va_D A (wCb cI cZ cJ cb_a lk_w lk_v cb') → va_S A s.heap H locs → some cb' = some res → W p l e R s m args below meth c H locs cells slots Q (F0 m 75 ls []))
    {H : Heap} {locs : List Loc} {ls : Array Slot} (hP : va_P (dC, dI) vwCl (wCb cI cZ cJ cb_a lk_w lk_v cb) H) (hD : va_D A (wCb cI cZ cJ cb_a lk_w lk_v cb)) (hS : va_S A s.heap H locs) (hl : lv_has ls 6 [(0, .ref (cb_a 0)), (1, .int x1), (2, .long x2), (4, .int x4)]) (hf : f_C_ChanceBits_narrow cb x1 x2 x4 = some res) : W p l e R s m args below meth c H locs cells slots Q (F0 m 0 ls []) := by
  obtain ⟨hx, hb, hml, hown, hts, hK, hA, hRf, hRl, hN, hRc⟩ := id C0
  rw [f_C_ChanceBits_narrow] at hf
  refine lv_iload_n hx hb d_ChanceBits_narrow_0 rfl (lv_at hl 1 rfl) ?_
  refine lv_iconst (v := 1) hx hb d_ChanceBits_narrow_1 (by decide) ?_
  have J20_1 : ∀ (H : Heap) (locs : List Loc) (ls : Array Slot) (cb_1 : Cb), va_P (dC, dI) vwCl (wCb cI cZ cJ cb_a lk_w lk_v cb_1) H → va_D A (wCb cI cZ cJ cb_a lk_w lk_v cb_1) → va_S A s.heap H locs → lv_has ls 6 [(0, .ref (cb_a 0)), (1, .int x1), (4, .int x4)] → j_C_ChanceBits_narrow_20_2 x1 x4 cb_1 = some res → W p l e R s m args below meth c H locs cells slots Q (F0 m 20 ls []) := by
    intro H locs ls cb_1 hP hD hS hl hf
    rw [j_C_ChanceBits_narrow_20_2] at hf
    refine lv_iload hx hb d_ChanceBits_narrow_20 (lv_at hl 2 rfl) ?_
    refine lv_if_lt (tgt := 75) hx hb d_ChanceBits_narrow_22 (by decide) (fun c_3 => ?_) (fun c_3 => ?_)
    · rw [if_pos c_3] at hf
      exact hr75 _ _ _ cb_1 hP hD hS hf
    · rw [if_neg c_3] at hf
      refine lv_iload hx hb d_ChanceBits_narrow_25 (lv_at hl 2 rfl) ?_
      refine lv_bipush (v := 32) hx hb d_ChanceBits_narrow_27 (by decide) ?_
      refine lv_icmp_ge (tgt := 75) hx hb d_ChanceBits_narrow_29 (by decide) (fun c_4 => ?_) (fun c_4 => ?_)
      · rw [if_pos c_4] at hf
        exact hr75 _ _ _ cb_1 hP hD hS hf
      · rw [if_neg c_4] at hf
        refine lv_aload_n hx hb d_ChanceBits_narrow_32 rfl (lv_at hl 0 rfl) ?_
        refine va_get (D := (dC, dI)) (ci := 3) (v := .ref (cb_a 1)) (C := R_ChanceBits) (T := T_ChanceBits) (N := 6) hx hb hts in_ChanceBits hown hK hP 0 rfl rfl 2 (by decide) (hts _ t_116) (fun _ h9 => h9) rfl d_ChanceBits_narrow_33 ?_
        refine lv_iload hx hb d_ChanceBits_narrow_36 (lv_at hl 2 rfl) ?_
        obtain ⟨h_5, hf⟩ := gd_ex hf
        refine va_iald (f := Cb_ch cb_1) hx hb hK hP 1 0 rfl rfl (inb_in h_5) d_ChanceBits_narrow_38 ?_
        obtain ⟨x5_6, ex5_6, hf⟩ := lt_ex hf
        try dsimp only at hf
        refine tp_i ex5_6 ?_
        refine lv_istore (lv' := [(5, .int x5_6), (0, .ref (cb_a 0)), (1, .int x1), (4, .int x4)]) hx hb d_ChanceBits_narrow_39 hl (by decide) rfl (fun ls hl => ?_)
        refine lv_aload_n hx hb d_ChanceBits_narrow_41 rfl (lv_at hl 1 rfl) ?_
        refine va_get (D := (dC, dI)) (ci := 3) (v := .ref (cb_a 1)) (C := R_ChanceBits) (T := T_ChanceBits) (N := 6) hx hb hts in_ChanceBits hown hK hP 0 rfl rfl 2 (by decide) (hts _ t_116) (fun _ h9 => h9) rfl d_ChanceBits_narrow_42 ?_
        refine lv_iload hx hb d_ChanceBits_narrow_45 (lv_at hl 3 rfl) ?_
        refine lv_iload_n hx hb d_ChanceBits_narrow_47 rfl (lv_at hl 2 rfl) ?_
        refine lv_iconst (v := 1) hx hb d_ChanceBits_narrow_48 (by decide) ?_
        refine lv_icmp_ne (tgt := 66) hx hb d_ChanceBits_narrow_49 (by decide) (fun c_7 => ?_) (fun c_7 => ?_)
        · rw [if_neg c_7] at hf
          refine lv_iload hx hb d_ChanceBits_narrow_66 (lv_at hl 0 rfl) ?_
          refine lv_iload hx hb d_ChanceBits_narrow_68 (lv_at hl 0 rfl) ?_
          refine lv_bipush (v := 16) hx hb d_ChanceBits_narrow_70 (by decide) ?_
          refine lv_idiv hx hb d_ChanceBits_narrow_72 (by decide) ?_
          refine lv_isub hx hb d_ChanceBits_narrow_73 ?_
          obtain ⟨h_8, hf⟩ := gd_ex hf
          refine va_iast (f := Cb_ch cb_1) hx hb hK hP hD hS 1 0 rfl rfl (inb_in h_8) d_ChanceBits_narrow_74 (fun H locs hP hD hS => ?_)
          obtain ⟨cb_9, ecb_9, hf⟩ := lt_ex hf
          try dsimp only at hf
          have hP : va_P (dC, dI) vwCl (wCb cI cZ cJ cb_a lk_w lk_v cb_9) H := by rw [ecb_9]; exact hP
          have hD : va_D A (wCb cI cZ cJ cb_a lk_w lk_v cb_9) := by rw [ecb_9]; exact hD
          exact hr75 _ _ _ cb_9 hP hD hS hf
        · rw [if_pos c_7] at hf
          refine lv_iload hx hb d_ChanceBits_narrow_52 (lv_at hl 0 rfl) ?_
          refine lv_ldc (v := 65535) hx hb hown (hts (.constant R_ChanceBits 90 65535) (by decide +kernel)) d_ChanceBits_narrow_54 ?_
          refine lv_iload hx hb d_ChanceBits_narrow_56 (lv_at hl 0 rfl) ?_
          refine lv_isub hx hb d_ChanceBits_narrow_58 ?_
          refine lv_bipush (v := 16) hx hb d_ChanceBits_narrow_59 (by decide) ?_
          refine lv_idiv hx hb d_ChanceBits_narrow_61 (by decide) ?_
          refine lv_iadd hx hb d_ChanceBits_narrow_62 ?_
          refine lv_goto (tgt := 74) hx hb d_ChanceBits_narrow_63 (by decide) ?_
          obtain ⟨h_11, hf⟩ := gd_ex hf
          refine va_iast (f := Cb_ch cb_1) hx hb hK hP hD hS 1 0 rfl rfl (inb_in h_11) d_ChanceBits_narrow_74 (fun H locs hP hD hS => ?_)
          obtain ⟨cb_12, ecb_12, hf⟩ := lt_ex hf
          try dsimp only at hf
          have hP : va_P (dC, dI) vwCl (wCb cI cZ cJ cb_a lk_w lk_v cb_12) H := by rw [ecb_12]; exact hP
          have hD : va_D A (wCb cI cZ cJ cb_a lk_w lk_v cb_12) := by rw [ecb_12]; exact hD
          exact hr75 _ _ _ cb_12 hP hD hS hf
  refine lv_icmp_ne (tgt := 13) hx hb d_ChanceBits_narrow_2 (by decide) (fun c_14 => ?_) (fun c_14 => ?_)
  · rw [if_neg c_14] at hf
    refine lv_aload_n hx hb d_ChanceBits_narrow_13 rfl (lv_at hl 0 rfl) ?_
    refine lv_lload_n hx hb d_ChanceBits_narrow_14 rfl (lv_at hl 2 rfl) ?_
    refine lv_lconst (v := 1) hx hb d_ChanceBits_narrow_15 (by decide) ?_
    refine lv_ladd hx hb d_ChanceBits_narrow_16 ?_
    refine va_put (D := (dC, dI)) (ci := 3) (v := .long (x2 + 1)) (ty := .long) (C := R_ChanceBits) (T := T_ChanceBits) (N := 6) hx hb hts in_ChanceBits ty_ChanceBits tyok_ChanceBits nm_ChanceBits hown hK hP hD hS 0 rfl rfl 3 (by decide) (hts _ t_117) (fun _ h9 => h9) rfl (by decide +kernel) rfl rfl (Nat.le_of_ble_eq_true rfl) d_ChanceBits_narrow_17 (fun H locs hP hD hS => ?_)
    obtain ⟨cb_15, ecb_15, hf⟩ := lt_ex hf
    try dsimp only at hf
    have hP : va_P (dC, dI) vwCl (wCb cI cZ cJ cb_a lk_w lk_v cb_15) H := by rw [ecb_15]; exact hP
    have hD : va_D A (wCb cI cZ cJ cb_a lk_w lk_v cb_15) := by rw [ecb_15]; exact hD
    exact J20_1 _ _ _ cb_15 hP hD hS (lv_sub hl [0, 1, 3] rfl) hf
  · rw [if_pos c_14] at hf
    refine lv_aload_n hx hb d_ChanceBits_narrow_5 rfl (lv_at hl 0 rfl) ?_
    refine lv_lload_n hx hb d_ChanceBits_narrow_6 rfl (lv_at hl 2 rfl) ?_
    refine va_put (D := (dC, dI)) (ci := 3) (v := .long x2) (ty := .long) (C := R_ChanceBits) (T := T_ChanceBits) (N := 6) hx hb hts in_ChanceBits ty_ChanceBits tyok_ChanceBits nm_ChanceBits hown hK hP hD hS 0 rfl rfl 4 (by decide) (hts _ t_118) (fun _ h9 => h9) rfl (by decide +kernel) rfl rfl (Nat.le_of_ble_eq_true rfl) d_ChanceBits_narrow_7 (fun H locs hP hD hS => ?_)
    obtain ⟨cb_17, ecb_17, hf⟩ := lt_ex hf
    try dsimp only at hf
    have hP : va_P (dC, dI) vwCl (wCb cI cZ cJ cb_a lk_w lk_v cb_17) H := by rw [ecb_17]; exact hP
    have hD : va_D A (wCb cI cZ cJ cb_a lk_w lk_v cb_17) := by rw [ecb_17]; exact hD
    refine lv_goto (tgt := 20) hx hb d_ChanceBits_narrow_10 (by decide) ?_
    exact J20_1 _ _ _ cb_17 hP hD hS (lv_sub hl [0, 1, 3] rfl) hf
end
set_option maxHeartbeats 4000000 in
set_option maxRecDepth 100000 in
theorem k_C_ChanceBits_narrow (l : Launch) (dC : Nat → ClassId) (dI : Nat → Nat → Nat) (cI cZ cJ : ClassId) (cb_a : Nat → Nat) (lk_w : Nat) (lk_v : Nat) (sz : Nat) {cb : Cb} {x1 : Int32} {x2 : Int64} {x4 : Int32} {cb' : Cb} (hf : f_C_ChanceBits_narrow cb x1 x2 x4 = some cb') :
    Met l y_ChanceBits_narrow ws_ChanceBits_narrow ({ frames := 0, cells := 0, slots := 0, locals := 0 }) (va_Pc [.ref (cb_a 0), .int x1, .long x2, .int x4] (kP (dC, dI) vwCl (TYS cI cZ cJ) (wCb cI cZ cJ cb_a lk_w lk_v cb) sz)) (va_Qv (fun (_ : Unit) => True) (fun _ t => kQ (dC, dI) vwCl (TYS cI cZ cJ) (wCb cI cZ cJ cb_a lk_w lk_v cb) sz (wCb cI cZ cJ cb_a lk_w lk_v cb') t) (va_A (wCb cI cZ cJ cb_a lk_w lk_v cb) sz)) 0 0 (va_A (wCb cI cZ cJ cb_a lk_w lk_v cb) sz) := by
  refine Met.ofW (cc := c_ChanceBits_narrow) (maxL := 6) (ret := none) (by decide) rfl ?_
  intro p e s m args below meth c s₁ B hml hv
  obtain ⟨rfl, hsz, hP, hK, hD0, hN⟩ := hv
  have hr := B.returns
  have hlocks := B.notSynchronized
  subst hsz
  have hD := hD0.self (sz := s.heap.size)
  have hl := lv_entry ([.ref (cb_a 0), .int x1, .long x2, .int x4]) (n := 6) (Nat.le_of_ble_eq_true rfl)
  rw [lg_entry_eq]
  generalize (lg_sl ([.ref (cb_a 0), .int x1, .long x2, .int x4]) ++ List.replicate (6 - (lg_sl ([.ref (cb_a 0), .int x1, .long x2, .int x4])).length) Slot.unset).toArray = ls at hl ⊢
  refine B_C_ChanceBits_narrow (A := va_A (wCb cI cZ cJ cb_a lk_w lk_v cb) s.heap.size) ⟨B.exec, B.bytes, hml, findClass_of_methodNamed B.named, fun w h => atoms_spec (ws := ws_ChanceBits_narrow) B.pre w (List.mem_cons_of_mem _ h), hK, fun q h => Or.inr h, Nat.le_of_ble_eq_true rfl, Nat.le_of_ble_eq_true rfl, hN, Nat.le_of_ble_eq_true rfl, Nat.le_of_ble_eq_true rfl⟩ (fun H locs ls cb'1 hP hD hS hf => ?_) hP hD va_S.rf hl hf
  · cases hf
    exact W.vret B.exec B.bytes hr (fun t ht hW => ⟨⟨(), rfl, trivial, ⟨by rw [ht]; exact hP, va_K.moved hW.alike hK, hD⟩⟩, hS.F ht⟩) hS.2.2 d_ChanceBits_narrow_75

/-! C_ChanceBits_highestBytesAgree -/
def f_C_ChanceBits_highestBytesAgree (cb : Cb) : Option (Int32) := (if (lg_cmp ((Cb_lo cb) >>> ((24 : Int32).toInt64 &&& 63)) ((Cb_hi cb) >>> ((24 : Int32).toInt64 &&& 63))) = 0 then some 1 else some 0)
section
variable {p : Program} {l : Launch} {e : Env} {R : Room} {s : State} {m : MethodId} {args : Array Value} {below : List Frame} {meth : Method} {c : Code} {Q : State → Prop} {A : Nat → Prop}
set_option maxHeartbeats 4000000 in
set_option maxRecDepth 100000 in
theorem B_C_ChanceBits_highestBytesAgree {cells slots : Nat} {dC : Nat → ClassId} {dI : Nat → Nat → Nat} {cI cZ cJ : ClassId} {cb_a : Nat → Nat} {lk_w : Nat} {lk_v : Nat} {cb : Cb} {res : Int32} (C0 : cxt p c m s args R cells slots R_ChanceBits c_ChanceBits_highestBytesAgree tb 1 (dC, dI) vwCl (TYS cI cZ cJ) A 0 0)
    (hr23 : ∀ (H : Heap) (locs : List Loc) (ls : Array Slot) (v : Int32), vp_nar .boolean v = v → va_P (dC, dI) vwCl (wCb cI cZ cJ cb_a lk_w lk_v cb) H → va_D A (wCb cI cZ cJ cb_a lk_w lk_v cb) → va_S A s.heap H locs → some v = some res → W p l e R s m args below meth c H locs cells slots Q (F0 m 23 ls [.int v]))
    {H : Heap} {locs : List Loc} {ls : Array Slot} (hP : va_P (dC, dI) vwCl (wCb cI cZ cJ cb_a lk_w lk_v cb) H) (hD : va_D A (wCb cI cZ cJ cb_a lk_w lk_v cb)) (hS : va_S A s.heap H locs) (hl : lv_has ls 1 [(0, .ref (cb_a 0))]) (hf : f_C_ChanceBits_highestBytesAgree cb = some res) : W p l e R s m args below meth c H locs cells slots Q (F0 m 0 ls []) := by
  obtain ⟨hx, hb, hml, hown, hts, hK, hA, hRf, hRl, hN, hRc⟩ := id C0
  rw [f_C_ChanceBits_highestBytesAgree] at hf
  refine lv_aload_n hx hb d_ChanceBits_highestBytesAgree_0 rfl (lv_at hl 0 rfl) ?_
  refine va_get (D := (dC, dI)) (ci := 3) (v := .long (Cb_lo cb)) (C := R_ChanceBits) (T := T_ChanceBits) (N := 6) hx hb hts in_ChanceBits hown hK hP 0 rfl rfl 3 (by decide) (hts _ t_117) (fun _ h9 => h9) rfl d_ChanceBits_highestBytesAgree_1 ?_
  refine lv_bipush (v := 24) hx hb d_ChanceBits_highestBytesAgree_4 (by decide) ?_
  refine lv_lshr (v := (Cb_lo cb) >>> ((24 : Int32).toInt64 &&& 63)) hx hb d_ChanceBits_highestBytesAgree_6 rfl ?_
  refine lv_aload_n hx hb d_ChanceBits_highestBytesAgree_7 rfl (lv_at hl 0 rfl) ?_
  refine va_get (D := (dC, dI)) (ci := 3) (v := .long (Cb_hi cb)) (C := R_ChanceBits) (T := T_ChanceBits) (N := 6) hx hb hts in_ChanceBits hown hK hP 0 rfl rfl 4 (by decide) (hts _ t_118) (fun _ h9 => h9) rfl d_ChanceBits_highestBytesAgree_8 ?_
  refine lv_bipush (v := 24) hx hb d_ChanceBits_highestBytesAgree_11 (by decide) ?_
  refine lv_lshr (v := (Cb_hi cb) >>> ((24 : Int32).toInt64 &&& 63)) hx hb d_ChanceBits_highestBytesAgree_13 rfl ?_
  refine W.lcmp hx hb d_ChanceBits_highestBytesAgree_14 ?_
  refine lv_if_ne (tgt := 22) hx hb d_ChanceBits_highestBytesAgree_15 (by decide) (fun c_1 => ?_) (fun c_1 => ?_)
  · rw [if_neg c_1] at hf
    refine lv_iconst (v := 0) hx hb d_ChanceBits_highestBytesAgree_22 (by decide) ?_
    exact hr23 _ _ _ 0 (by decide) hP hD hS hf
  · rw [if_pos c_1] at hf
    refine lv_iconst (v := 1) hx hb d_ChanceBits_highestBytesAgree_18 (by decide) ?_
    refine lv_goto (tgt := 23) hx hb d_ChanceBits_highestBytesAgree_19 (by decide) ?_
    exact hr23 _ _ _ 1 (by decide) hP hD hS hf
end
set_option maxHeartbeats 4000000 in
set_option maxRecDepth 100000 in
theorem k_C_ChanceBits_highestBytesAgree (l : Launch) (dC : Nat → ClassId) (dI : Nat → Nat → Nat) (cI cZ cJ : ClassId) (cb_a : Nat → Nat) (lk_w : Nat) (lk_v : Nat) (sz : Nat) {cb : Cb} {r : Int32} (hf : f_C_ChanceBits_highestBytesAgree cb = some r) :
    Met l y_ChanceBits_highestBytesAgree ws_ChanceBits_highestBytesAgree ({ frames := 0, cells := 0, slots := 0, locals := 0 }) (va_Pc [.ref (cb_a 0)] (kP (dC, dI) vwCl (TYS cI cZ cJ) (wCb cI cZ cJ cb_a lk_w lk_v cb) sz)) (va_Qi (fun (q : Int32) (_ : Unit) => q = r ∧ vp_nar .boolean r = r) (fun _ t => kQ (dC, dI) vwCl (TYS cI cZ cJ) (wCb cI cZ cJ cb_a lk_w lk_v cb) sz (wCb cI cZ cJ cb_a lk_w lk_v cb) t) (va_A (wCb cI cZ cJ cb_a lk_w lk_v cb) sz)) 0 0 (va_A (wCb cI cZ cJ cb_a lk_w lk_v cb) sz) := by
  refine Met.ofW (cc := c_ChanceBits_highestBytesAgree) (maxL := 1) (ret := (some .boolean)) (by decide) rfl ?_
  intro p e s m args below meth c s₁ B hml hv
  obtain ⟨rfl, hsz, hP, hK, hD0, hN⟩ := hv
  have hr := B.returns
  have hlocks := B.notSynchronized
  subst hsz
  have hD := hD0.self (sz := s.heap.size)
  have hl := lv_entry ([.ref (cb_a 0)]) (n := 1) (Nat.le_of_ble_eq_true rfl)
  rw [lg_entry_eq]
  generalize (lg_sl ([.ref (cb_a 0)]) ++ List.replicate (1 - (lg_sl ([.ref (cb_a 0)])).length) Slot.unset).toArray = ls at hl ⊢
  refine B_C_ChanceBits_highestBytesAgree (A := va_A (wCb cI cZ cJ cb_a lk_w lk_v cb) s.heap.size) ⟨B.exec, B.bytes, hml, findClass_of_methodNamed B.named, fun w h => atoms_spec (ws := ws_ChanceBits_highestBytesAgree) B.pre w (List.mem_cons_of_mem _ h), hK, fun q h => Or.inr h, Nat.le_of_ble_eq_true rfl, Nat.le_of_ble_eq_true rfl, hN, Nat.le_of_ble_eq_true rfl, Nat.le_of_ble_eq_true rfl⟩ (fun H locs ls v hz hP hD hS hf => ?_) hP hD va_S.rf hl hf
  · cases hf
    exact W.zret B.exec B.bytes hr (nz_n hz) (fun t ht hW => ⟨⟨_, (), rfl, ⟨rfl, hz⟩, ⟨by rw [ht]; exact hP, va_K.moved hW.alike hK, hD⟩⟩, hS.F ht⟩) hS.2.2 d_ChanceBits_highestBytesAgree_23

/-! C_ChanceBits_shift -/
def f_C_ChanceBits_shift (cb : Cb) : Option (Cb) := lt' (Cb_s_lo cb (((Cb_lo cb) &&& 16777215) <<< ((8 : Int32).toInt64 &&& 63))) <| fun cb_1 => lt' (Cb_s_hi cb_1 ((((Cb_hi cb_1) &&& 16777215) <<< ((8 : Int32).toInt64 &&& 63)) ||| 255)) <| fun cb_3 => some cb_3
section
variable {p : Program} {l : Launch} {e : Env} {R : Room} {s : State} {m : MethodId} {args : Array Value} {below : List Frame} {meth : Method} {c : Code} {Q : State → Prop} {A : Nat → Prop}
set_option maxHeartbeats 4000000 in
set_option maxRecDepth 100000 in
theorem B_C_ChanceBits_shift {cells slots : Nat} {dC : Nat → ClassId} {dI : Nat → Nat → Nat} {cI cZ cJ : ClassId} {cb_a : Nat → Nat} {lk_w : Nat} {lk_v : Nat} {cb : Cb} {res : Cb} (C0 : cxt p c m s args R cells slots R_ChanceBits c_ChanceBits_shift tb 1 (dC, dI) vwCl (TYS cI cZ cJ) A 0 0)
    (hr34 : ∀ (H : Heap) (locs : List Loc) (ls : Array Slot) (cb' : Cb), va_P (dC, dI) vwCl (wCb cI cZ cJ cb_a lk_w lk_v cb') H → va_D A (wCb cI cZ cJ cb_a lk_w lk_v cb') → va_S A s.heap H locs → some cb' = some res → W p l e R s m args below meth c H locs cells slots Q (F0 m 34 ls []))
    {H : Heap} {locs : List Loc} {ls : Array Slot} (hP : va_P (dC, dI) vwCl (wCb cI cZ cJ cb_a lk_w lk_v cb) H) (hD : va_D A (wCb cI cZ cJ cb_a lk_w lk_v cb)) (hS : va_S A s.heap H locs) (hl : lv_has ls 1 [(0, .ref (cb_a 0))]) (hf : f_C_ChanceBits_shift cb = some res) : W p l e R s m args below meth c H locs cells slots Q (F0 m 0 ls []) := by
  obtain ⟨hx, hb, hml, hown, hts, hK, hA, hRf, hRl, hN, hRc⟩ := id C0
  rw [f_C_ChanceBits_shift] at hf
  refine lv_aload_n hx hb d_ChanceBits_shift_0 rfl (lv_at hl 0 rfl) ?_
  refine lv_aload_n hx hb d_ChanceBits_shift_1 rfl (lv_at hl 0 rfl) ?_
  refine va_get (D := (dC, dI)) (ci := 3) (v := .long (Cb_lo cb)) (C := R_ChanceBits) (T := T_ChanceBits) (N := 6) hx hb hts in_ChanceBits hown hK hP 0 rfl rfl 3 (by decide) (hts _ t_117) (fun _ h9 => h9) rfl d_ChanceBits_shift_2 ?_
  refine lv_ldc2 (v := 16777215) hx hb hown (hts (.constantLong R_ChanceBits 66 16777215) (by decide +kernel)) d_ChanceBits_shift_5 ?_
  refine lv_land hx hb d_ChanceBits_shift_8 ?_
  refine lv_bipush (v := 8) hx hb d_ChanceBits_shift_9 (by decide) ?_
  refine lv_lshl (v := ((Cb_lo cb) &&& 16777215) <<< ((8 : Int32).toInt64 &&& 63)) hx hb d_ChanceBits_shift_11 rfl ?_
  refine va_put (D := (dC, dI)) (ci := 3) (v := .long (((Cb_lo cb) &&& 16777215) <<< ((8 : Int32).toInt64 &&& 63))) (ty := .long) (C := R_ChanceBits) (T := T_ChanceBits) (N := 6) hx hb hts in_ChanceBits ty_ChanceBits tyok_ChanceBits nm_ChanceBits hown hK hP hD hS 0 rfl rfl 3 (by decide) (hts _ t_117) (fun _ h9 => h9) rfl (by decide +kernel) rfl rfl (Nat.le_of_ble_eq_true rfl) d_ChanceBits_shift_12 (fun H locs hP hD hS => ?_)
  obtain ⟨cb_1, ecb_1, hf⟩ := lt_ex hf
  try dsimp only at hf
  have hP : va_P (dC, dI) vwCl (wCb cI cZ cJ cb_a lk_w lk_v cb_1) H := by rw [ecb_1]; exact hP
  have hD : va_D A (wCb cI cZ cJ cb_a lk_w lk_v cb_1) := by rw [ecb_1]; exact hD
  refine lv_aload_n hx hb d_ChanceBits_shift_15 rfl (lv_at hl 0 rfl) ?_
  refine lv_aload_n hx hb d_ChanceBits_shift_16 rfl (lv_at hl 0 rfl) ?_
  refine va_get (D := (dC, dI)) (ci := 3) (v := .long (Cb_hi cb_1)) (C := R_ChanceBits) (T := T_ChanceBits) (N := 6) hx hb hts in_ChanceBits hown hK hP 0 rfl rfl 4 (by decide) (hts _ t_118) (fun _ h9 => h9) rfl d_ChanceBits_shift_17 ?_
  refine lv_ldc2 (v := 16777215) hx hb hown (hts (.constantLong R_ChanceBits 66 16777215) (by decide +kernel)) d_ChanceBits_shift_20 ?_
  refine lv_land hx hb d_ChanceBits_shift_23 ?_
  refine lv_bipush (v := 8) hx hb d_ChanceBits_shift_24 (by decide) ?_
  refine lv_lshl (v := ((Cb_hi cb_1) &&& 16777215) <<< ((8 : Int32).toInt64 &&& 63)) hx hb d_ChanceBits_shift_26 rfl ?_
  refine lv_ldc2 (v := 255) hx hb hown (hts (.constantLong R_ChanceBits 91 255) (by decide +kernel)) d_ChanceBits_shift_27 ?_
  refine lv_lor hx hb d_ChanceBits_shift_30 ?_
  refine va_put (D := (dC, dI)) (ci := 3) (v := .long ((((Cb_hi cb_1) &&& 16777215) <<< ((8 : Int32).toInt64 &&& 63)) ||| 255)) (ty := .long) (C := R_ChanceBits) (T := T_ChanceBits) (N := 6) hx hb hts in_ChanceBits ty_ChanceBits tyok_ChanceBits nm_ChanceBits hown hK hP hD hS 0 rfl rfl 4 (by decide) (hts _ t_118) (fun _ h9 => h9) rfl (by decide +kernel) rfl rfl (Nat.le_of_ble_eq_true rfl) d_ChanceBits_shift_31 (fun H locs hP hD hS => ?_)
  obtain ⟨cb_3, ecb_3, hf⟩ := lt_ex hf
  try dsimp only at hf
  have hP : va_P (dC, dI) vwCl (wCb cI cZ cJ cb_a lk_w lk_v cb_3) H := by rw [ecb_3]; exact hP
  have hD : va_D A (wCb cI cZ cJ cb_a lk_w lk_v cb_3) := by rw [ecb_3]; exact hD
  exact hr34 _ _ _ cb_3 hP hD hS hf
end
set_option maxHeartbeats 4000000 in
set_option maxRecDepth 100000 in
theorem k_C_ChanceBits_shift (l : Launch) (dC : Nat → ClassId) (dI : Nat → Nat → Nat) (cI cZ cJ : ClassId) (cb_a : Nat → Nat) (lk_w : Nat) (lk_v : Nat) (sz : Nat) {cb : Cb} {cb' : Cb} (hf : f_C_ChanceBits_shift cb = some cb') :
    Met l y_ChanceBits_shift ws_ChanceBits_shift ({ frames := 0, cells := 0, slots := 0, locals := 0 }) (va_Pc [.ref (cb_a 0)] (kP (dC, dI) vwCl (TYS cI cZ cJ) (wCb cI cZ cJ cb_a lk_w lk_v cb) sz)) (va_Qv (fun (_ : Unit) => True) (fun _ t => kQ (dC, dI) vwCl (TYS cI cZ cJ) (wCb cI cZ cJ cb_a lk_w lk_v cb) sz (wCb cI cZ cJ cb_a lk_w lk_v cb') t) (va_A (wCb cI cZ cJ cb_a lk_w lk_v cb) sz)) 0 0 (va_A (wCb cI cZ cJ cb_a lk_w lk_v cb) sz) := by
  refine Met.ofW (cc := c_ChanceBits_shift) (maxL := 1) (ret := none) (by decide) rfl ?_
  intro p e s m args below meth c s₁ B hml hv
  obtain ⟨rfl, hsz, hP, hK, hD0, hN⟩ := hv
  have hr := B.returns
  have hlocks := B.notSynchronized
  subst hsz
  have hD := hD0.self (sz := s.heap.size)
  have hl := lv_entry ([.ref (cb_a 0)]) (n := 1) (Nat.le_of_ble_eq_true rfl)
  rw [lg_entry_eq]
  generalize (lg_sl ([.ref (cb_a 0)]) ++ List.replicate (1 - (lg_sl ([.ref (cb_a 0)])).length) Slot.unset).toArray = ls at hl ⊢
  refine B_C_ChanceBits_shift (A := va_A (wCb cI cZ cJ cb_a lk_w lk_v cb) s.heap.size) ⟨B.exec, B.bytes, hml, findClass_of_methodNamed B.named, fun w h => atoms_spec (ws := ws_ChanceBits_shift) B.pre w (List.mem_cons_of_mem _ h), hK, fun q h => Or.inr h, Nat.le_of_ble_eq_true rfl, Nat.le_of_ble_eq_true rfl, hN, Nat.le_of_ble_eq_true rfl, Nat.le_of_ble_eq_true rfl⟩ (fun H locs ls cb'1 hP hD hS hf => ?_) hP hD va_S.rf hl hf
  · cases hf
    exact W.vret B.exec B.bytes hr (fun t ht hW => ⟨⟨(), rfl, trivial, ⟨by rw [ht]; exact hP, va_K.moved hW.alike hK, hD⟩⟩, hS.F ht⟩) hS.2.2 d_ChanceBits_shift_34

/-! C_ChanceBits_startReading -/
def l_C_ChanceBits_startReading_18 (k49 : Cb → Br → Option (Cb × Br)) : Nat → Cb → Br → Int32 → Option (Cb × Br)
  | 0, _, _, _ => none
  | n + 1, cb, v, x1 => (if 4 ≤ x1 then k49 cb v else bd (f_ByteRow_next v) <| fun (r_8, v_9) => lt' (Cb_s_cd cb (((Cb_cd cb) <<< ((8 : Int32).toInt64 &&& 63)) ||| r_8.toInt64)) <| fun cb_10 => lt' (x1 + 1) <| fun x1_12 => (l_C_ChanceBits_startReading_18 k49 n) cb_10 v_9 x1_12)
def f_C_ChanceBits_startReading (cb : Cb) (v : Br) : Option (Cb × Br) := bd (f_ByteRow_takeFromFront v) <| fun v_1 => bd (f_C_ChanceBits_forget cb) <| fun cb_2 => lt' (Cb_s_cd cb_2 0) <| fun cb_3 => l_C_ChanceBits_startReading_18 (fun cb_13 v_14 => some (cb_13, v_14)) 100000 cb_3 v_1 0
section
variable {p : Program} {l : Launch} {e : Env} {R : Room} {s : State} {m : MethodId} {args : Array Value} {below : List Frame} {meth : Method} {c : Code} {Q : State → Prop} {A : Nat → Prop}
set_option maxHeartbeats 4000000 in
set_option maxRecDepth 100000 in
theorem L_C_ChanceBits_startReading_18 {cells slots : Nat} {dC : Nat → ClassId} {dI : Nat → Nat → Nat} {cI cZ cJ : ClassId} {cb_a : Nat → Nat} {v_a v_b : Nat} {lk_w : Nat} {k49 : Cb → Br → Option (Cb × Br)} {res : Cb × Br} (C0 : cxt p c m s args R cells slots R_ChanceBits c_ChanceBits_startReading tb 2 (dC, dI) vwCl (TYS cI cZ cJ) A 2 43)
    (hk49 : ∀ (H : Heap) (locs : List Loc) (ls : Array Slot) (cb_5 : Cb) (v_6 : Br), va_P (dC, dI) vwCl (wCb cI cZ cJ cb_a lk_w v_a cb_5 ++ wBr cI cZ cJ v_a v_b v_6) H → va_D A (wCb cI cZ cJ cb_a lk_w v_a cb_5 ++ wBr cI cZ cJ v_a v_b v_6) → va_S A s.heap H locs → lv_has ls 2 [] → k49 cb_5 v_6 = some res → W p l e R s m args below meth c H locs cells slots Q (F0 m 49 ls [])) :
    ∀ (n : Nat) (H : Heap) (locs : List Loc) (ls : Array Slot) (cb : Cb) (v : Br) (x1 : Int32), va_P (dC, dI) vwCl (wCb cI cZ cJ cb_a lk_w v_a cb ++ wBr cI cZ cJ v_a v_b v) H → va_D A (wCb cI cZ cJ cb_a lk_w v_a cb ++ wBr cI cZ cJ v_a v_b v) → va_S A s.heap H locs → lv_has ls 2 [(0, .ref (cb_a 0)), (1, .int x1)] → l_C_ChanceBits_startReading_18 k49 n cb v x1 = some res → W p l e R s m args below meth c H locs cells slots Q (F0 m 18 ls []) := by
  obtain ⟨hx, hb, hml, hown, hts, hK, hA, hRf, hRl, hN, hRc⟩ := id C0
  intro n
  induction n with
  | zero =>
    intro H locs ls cb v x1 hP hD hS hl hf
    exact absurd hf (by simp [l_C_ChanceBits_startReading_18])
  | succ n ih =>
    intro H locs ls cb v x1 hP hD hS hl hf
    rw [l_C_ChanceBits_startReading_18] at hf
    refine lv_iload_n hx hb d_ChanceBits_startReading_18 rfl (lv_at hl 1 rfl) ?_
    refine lv_iconst (v := 4) hx hb d_ChanceBits_startReading_19 (by decide) ?_
    refine lv_icmp_ge (tgt := 49) hx hb d_ChanceBits_startReading_20 (by decide) (fun c_7 => ?_) (fun c_7 => ?_)
    · rw [if_pos c_7] at hf
      exact hk49 _ _ _ cb v hP hD hS (lv_sub hl [] rfl) hf
    · rw [if_neg c_7] at hf
      refine lv_aload_n hx hb d_ChanceBits_startReading_23 rfl (lv_at hl 0 rfl) ?_
      refine lv_aload_n hx hb d_ChanceBits_startReading_24 rfl (lv_at hl 0 rfl) ?_
      refine va_get (D := (dC, dI)) (ci := 3) (v := .long (Cb_cd cb)) (C := R_ChanceBits) (T := T_ChanceBits) (N := 6) hx hb hts in_ChanceBits hown hK hP 0 rfl rfl 5 (by decide) (hts _ t_119) (fun _ h9 => h9) rfl d_ChanceBits_startReading_25 ?_
      refine lv_bipush (v := 8) hx hb d_ChanceBits_startReading_28 (by decide) ?_
      refine lv_lshl (v := (Cb_cd cb) <<< ((8 : Int32).toInt64 &&& 63)) hx hb d_ChanceBits_startReading_30 rfl ?_
      refine lv_aload_n hx hb d_ChanceBits_startReading_31 rfl (lv_at hl 0 rfl) ?_
      refine va_get (D := (dC, dI)) (ci := 3) (v := .ref v_a) (C := R_ChanceBits) (T := T_ChanceBits) (N := 6) hx hb hts in_ChanceBits hown hK hP 0 rfl rfl 1 (by decide) (hts _ t_126) (u_same (hts _ t_127)) rfl d_ChanceBits_startReading_32 ?_
      obtain ⟨⟨r_8, v_9⟩, hf1, hf⟩ := bd_ex hf
      try dsimp only at hf
      have hPc := hP.sub (ws' := (wBr cI cZ cJ v_a v_b v)) [2, 3] rfl
      have hDc := hD.sub (ws' := (wBr cI cZ cJ v_a v_b v)) [2, 3] (by decide) rfl
      have hFc := va_free (wc := (wBr cI cZ cJ v_a v_b v)) hD hS hA [2, 3] rfl
      refine va_calli (va_runV (As := []) (rest := [.long ((Cb_cd cb) <<< ((8 : Int32).toInt64 &&& 63)), .ref (cb_a 0)]) ⟨hx, hb, hml, hown, hts⟩ (k_ByteRow_next l dC dI cI cZ cJ v_a v_b H.size hf1) (cwV 0 hts (gV t_455 t_456 t_457 t_56 t_458) rfl rfl rfl hd_ByteRow_next ⟨Nat.le_trans (Nat.le_of_ble_eq_true rfl) hRf, Nat.le_trans (Nat.le_of_ble_eq_true rfl) hRl⟩) ⟨kP_blind, va_recv hK hP (ci := 1) (q0 := 2) rfl rfl, kP_at hPc hK hDc hN⟩ rfl rfl hl.1 rfl (lv_room (Nat.le_of_ble_eq_true rfl)) d_ChanceBits_startReading_35 hRc) hS (fun q _ h => hFc q h) hFc (fun r9 u t H1 locs ht hvm hw hB hz1 hk1 hS => ?_)
      rw [hw]
      obtain ⟨hP, hD⟩ := kQ_join (wr := (wCb cI cZ cJ cb_a lk_w v_a cb)) (w1 := (wBr cI cZ cJ v_a v_b v_9)) hP hD [2, 3] [0, 1] rfl rfl (by decide) (by decide) ht hk1 hFc hB
      generalize H1 = H at hP hS ⊢
      have hP : va_P (dC, dI) vwCl (wCb cI cZ cJ cb_a lk_w v_a cb ++ wBr cI cZ cJ v_a v_b v_9) H := hP.sub [0, 1, 2, 3] rfl
      have hD : va_D A (wCb cI cZ cJ cb_a lk_w v_a cb ++ wBr cI cZ cJ v_a v_b v_9) := hD.sub [0, 1, 2, 3] (by decide) rfl
      refine lv_i2l (v := r_8.toInt64) hx hb d_ChanceBits_startReading_38 rfl ?_
      refine lv_lor hx hb d_ChanceBits_startReading_39 ?_
      refine va_put (D := (dC, dI)) (ci := 3) (v := .long (((Cb_cd cb) <<< ((8 : Int32).toInt64 &&& 63)) ||| r_8.toInt64)) (ty := .long) (C := R_ChanceBits) (T := T_ChanceBits) (N := 6) hx hb hts in_ChanceBits ty_ChanceBits tyok_ChanceBits nm_ChanceBits hown hK hP hD hS 0 rfl rfl 5 (by decide) (hts _ t_119) (fun _ h9 => h9) rfl (by decide +kernel) rfl rfl (Nat.le_of_ble_eq_true rfl) d_ChanceBits_startReading_40 (fun H locs hP hD hS => ?_)
      obtain ⟨cb_10, ecb_10, hf⟩ := lt_ex hf
      try dsimp only at hf
      have hP : va_P (dC, dI) vwCl (wCb cI cZ cJ cb_a lk_w v_a cb_10 ++ wBr cI cZ cJ v_a v_b v_9) H := by rw [ecb_10]; exact hP
      have hD : va_D A (wCb cI cZ cJ cb_a lk_w v_a cb_10 ++ wBr cI cZ cJ v_a v_b v_9) := by rw [ecb_10]; exact hD
      obtain ⟨x1_12, ex1_12, hf⟩ := lt_ex hf
      try dsimp only at hf
      refine lv_iinc (v := x1_12) (lv' := [(1, .int x1_12), (0, .ref (cb_a 0))]) hx hb d_ChanceBits_startReading_43 hl (k := 1) rfl (by rw [ex1_12]; rfl) (by decide) rfl (fun ls hl => ?_)
      refine lv_goto (tgt := 18) hx hb d_ChanceBits_startReading_46 (by decide) ?_
      exact ih _ _ _ cb_10 v_9 x1_12 hP hD hS (lv_sub hl [1, 0] rfl) hf
set_option maxHeartbeats 4000000 in
set_option maxRecDepth 100000 in
theorem B_C_ChanceBits_startReading {cells slots : Nat} {dC : Nat → ClassId} {dI : Nat → Nat → Nat} {cI cZ cJ : ClassId} {cb_a : Nat → Nat} {v_a v_b : Nat} {lk_w : Nat} {cb : Cb} {v : Br} {res : Cb × Br} (C0 : cxt p c m s args R cells slots R_ChanceBits c_ChanceBits_startReading tb 2 (dC, dI) vwCl (TYS cI cZ cJ) A 2 43)
    (hr49 : ∀ (H : Heap) (locs : List Loc) (ls : Array Slot) (cb' : Cb) (v' : Br), va_P (dC, dI) vwCl (wCb cI cZ cJ cb_a lk_w v_a cb' ++ wBr cI cZ cJ v_a v_b v') H → va_D A (wCb cI cZ cJ cb_a lk_w v_a cb' ++ wBr cI cZ cJ v_a v_b v') → va_S A s.heap H locs → some (cb', v') = some res → W p l e R s m args below meth c H locs cells slots Q (F0 m 49 ls []))
    {H : Heap} {locs : List Loc} {ls : Array Slot} (hP : va_P (dC, dI) vwCl (wCb cI cZ cJ cb_a lk_w v_a cb ++ wBr cI cZ cJ v_a v_b v) H) (hD : va_D A (wCb cI cZ cJ cb_a lk_w v_a cb ++ wBr cI cZ cJ v_a v_b v)) (hS : va_S A s.heap H locs) (hl : lv_has ls 2 [(0, .ref (cb_a 0))]) (hf : f_C_ChanceBits_startReading cb v = some res) : W p l e R s m args below meth c H locs cells slots Q (F0 m 0 ls []) := by
  obtain ⟨hx, hb, hml, hown, hts, hK, hA, hRf, hRl, hN, hRc⟩ := id C0
  rw [f_C_ChanceBits_startReading] at hf
  refine lv_aload_n hx hb d_ChanceBits_startReading_0 rfl (lv_at hl 0 rfl) ?_
  refine va_get (D := (dC, dI)) (ci := 3) (v := .ref v_a) (C := R_ChanceBits) (T := T_ChanceBits) (N := 6) hx hb hts in_ChanceBits hown hK hP 0 rfl rfl 1 (by decide) (hts _ t_126) (u_same (hts _ t_127)) rfl d_ChanceBits_startReading_1 ?_
  obtain ⟨v_1, hf1, hf⟩ := bd_ex hf
  try dsimp only at hf
  have hPc := hP.sub (ws' := (wBr cI cZ cJ v_a v_b v)) [2, 3] rfl
  have hDc := hD.sub (ws' := (wBr cI cZ cJ v_a v_b v)) [2, 3] (by decide) rfl
  have hFc := va_free (wc := (wBr cI cZ cJ v_a v_b v)) hD hS hA [2, 3] rfl
  refine va_callv (va_runV (As := []) (rest := []) ⟨hx, hb, hml, hown, hts⟩ (k_ByteRow_takeFromFront l dC dI cI cZ cJ v_a v_b H.size hf1) (cwV 0 hts (gV t_451 t_452 t_453 t_56 t_454) rfl rfl rfl hd_ByteRow_takeFromFront ⟨Nat.le_trans (Nat.le_of_ble_eq_true rfl) hRf, Nat.le_trans (Nat.le_of_ble_eq_true rfl) hRl⟩) ⟨kP_blind, va_recv hK hP (ci := 1) (q0 := 2) rfl rfl, kP_at hPc hK hDc hN⟩ rfl rfl hl.1 rfl (lv_room (Nat.le_of_ble_eq_true rfl)) d_ChanceBits_startReading_4 hRc) hS (fun q _ h => hFc q h) hFc (fun u t H1 locs ht hvm hw hB hz1 hk1 hS => ?_)
  obtain ⟨hP, hD⟩ := kQ_join (wr := (wCb cI cZ cJ cb_a lk_w v_a cb)) (w1 := (wBr cI cZ cJ v_a v_b v_1)) hP hD [2, 3] [0, 1] rfl rfl (by decide) (by decide) ht hk1 hFc hB
  generalize H1 = H at hP hS ⊢
  have hP : va_P (dC, dI) vwCl (wCb cI cZ cJ cb_a lk_w v_a cb ++ wBr cI cZ cJ v_a v_b v_1) H := hP.sub [0, 1, 2, 3] rfl
  have hD : va_D A (wCb cI cZ cJ cb_a lk_w v_a cb ++ wBr cI cZ cJ v_a v_b v_1) := hD.sub [0, 1, 2, 3] (by decide) rfl
  refine lv_aload_n hx hb d_ChanceBits_startReading_7 rfl (lv_at hl 0 rfl) ?_
  obtain ⟨cb_2, hf1, hf⟩ := bd_ex hf
  try dsimp only at hf
  have hPc := hP.sub (ws' := (wCb cI cZ cJ cb_a lk_w v_a cb)) [0, 1] rfl
  have hDc := hD.sub (ws' := (wCb cI cZ cJ cb_a lk_w v_a cb)) [0, 1] (by decide) rfl
  have hFc := va_free (wc := (wCb cI cZ cJ cb_a lk_w v_a cb)) hD hS hA [0, 1] rfl
  refine va_callv (va_runV (As := []) (rest := []) ⟨hx, hb, hml, hown, hts⟩ (k_C_ChanceBits_forget l dC dI cI cZ cJ cb_a lk_w v_a H.size hf1) (cwV 0 hts (gV t_306 t_308 t_0 t_58 t_309) rfl rfl rfl hd_ChanceBits_forget ⟨Nat.le_trans (Nat.le_of_ble_eq_true rfl) hRf, Nat.le_trans (Nat.le_of_ble_eq_true rfl) hRl⟩) ⟨kP_blind, va_recv hK hP (ci := 3) (q0 := 0) rfl rfl, kP_at hPc hK hDc hN⟩ rfl rfl hl.1 rfl (lv_room (Nat.le_of_ble_eq_true rfl)) d_ChanceBits_startReading_8 hRc) hS (fun q _ h => hFc q h) hFc (fun u t H1 locs ht hvm hw hB hz1 hk1 hS => ?_)
  obtain ⟨hP, hD⟩ := kQ_join (wr := (wBr cI cZ cJ v_a v_b v_1)) (w1 := (wCb cI cZ cJ cb_a lk_w v_a cb_2)) hP hD [0, 1] [2, 3] rfl rfl (by decide) (by decide) ht hk1 hFc hB
  generalize H1 = H at hP hS ⊢
  have hP : va_P (dC, dI) vwCl (wCb cI cZ cJ cb_a lk_w v_a cb_2 ++ wBr cI cZ cJ v_a v_b v_1) H := hP.sub [2, 3, 0, 1] rfl
  have hD : va_D A (wCb cI cZ cJ cb_a lk_w v_a cb_2 ++ wBr cI cZ cJ v_a v_b v_1) := hD.sub [2, 3, 0, 1] (by decide) rfl
  refine lv_aload_n hx hb d_ChanceBits_startReading_11 rfl (lv_at hl 0 rfl) ?_
  refine lv_lconst (v := 0) hx hb d_ChanceBits_startReading_12 (by decide) ?_
  refine va_put (D := (dC, dI)) (ci := 3) (v := .long 0) (ty := .long) (C := R_ChanceBits) (T := T_ChanceBits) (N := 6) hx hb hts in_ChanceBits ty_ChanceBits tyok_ChanceBits nm_ChanceBits hown hK hP hD hS 0 rfl rfl 5 (by decide) (hts _ t_119) (fun _ h9 => h9) rfl (by decide +kernel) rfl rfl (Nat.le_of_ble_eq_true rfl) d_ChanceBits_startReading_13 (fun H locs hP hD hS => ?_)
  obtain ⟨cb_3, ecb_3, hf⟩ := lt_ex hf
  try dsimp only at hf
  have hP : va_P (dC, dI) vwCl (wCb cI cZ cJ cb_a lk_w v_a cb_3 ++ wBr cI cZ cJ v_a v_b v_1) H := by rw [ecb_3]; exact hP
  have hD : va_D A (wCb cI cZ cJ cb_a lk_w v_a cb_3 ++ wBr cI cZ cJ v_a v_b v_1) := by rw [ecb_3]; exact hD
  refine lv_iconst (v := 0) hx hb d_ChanceBits_startReading_16 (by decide) ?_
  refine lv_istore_n (lv' := [(1, .int 0), (0, .ref (cb_a 0))]) hx hb d_ChanceBits_startReading_17 rfl hl (by decide) rfl (fun ls hl => ?_)
  refine L_C_ChanceBits_startReading_18 C0 (fun H locs ls cb_13 v_14 hP hD hS hl hf => ?_) 100000 _ _ _ cb_3 v_1 0 hP hD hS (lv_sub hl [1, 0] rfl) hf
  try dsimp only at hf
  exact hr49 _ _ _ cb_13 v_14 hP hD hS hf
end
set_option maxHeartbeats 4000000 in
set_option maxRecDepth 100000 in
theorem k_C_ChanceBits_startReading (l : Launch) (dC : Nat → ClassId) (dI : Nat → Nat → Nat) (cI cZ cJ : ClassId) (cb_a : Nat → Nat) (v_a v_b : Nat) (lk_w : Nat) (sz : Nat) {cb : Cb} {v : Br} {cb' : Cb} {v' : Br} (hf : f_C_ChanceBits_startReading cb v = some (cb', v')) :
    Met l y_ChanceBits_startReading ws_ChanceBits_startReading ({ frames := 2, cells := 0, slots := 0, locals := 43 }) (va_Pc [.ref (cb_a 0)] (kP (dC, dI) vwCl (TYS cI cZ cJ) (wCb cI cZ cJ cb_a lk_w v_a cb ++ wBr cI cZ cJ v_a v_b v) sz)) (va_Qv (fun (_ : Unit) => True) (fun _ t => kQ (dC, dI) vwCl (TYS cI cZ cJ) (wCb cI cZ cJ cb_a lk_w v_a cb ++ wBr cI cZ cJ v_a v_b v) sz (wCb cI cZ cJ cb_a lk_w v_a cb' ++ wBr cI cZ cJ v_a v_b v') t) (va_A (wCb cI cZ cJ cb_a lk_w v_a cb ++ wBr cI cZ cJ v_a v_b v) sz)) 0 0 (va_A (wCb cI cZ cJ cb_a lk_w v_a cb ++ wBr cI cZ cJ v_a v_b v) sz) := by
  refine Met.ofW (cc := c_ChanceBits_startReading) (maxL := 2) (ret := none) (by decide) rfl ?_
  intro p e s m args below meth c s₁ B hml hv
  obtain ⟨rfl, hsz, hP, hK, hD0, hN⟩ := hv
  have hr := B.returns
  have hlocks := B.notSynchronized
  subst hsz
  have hD := hD0.self (sz := s.heap.size)
  have hl := lv_entry ([.ref (cb_a 0)]) (n := 2) (Nat.le_of_ble_eq_true rfl)
  rw [lg_entry_eq]
  generalize (lg_sl ([.ref (cb_a 0)]) ++ List.replicate (2 - (lg_sl ([.ref (cb_a 0)])).length) Slot.unset).toArray = ls at hl ⊢
  refine B_C_ChanceBits_startReading (A := va_A (wCb cI cZ cJ cb_a lk_w v_a cb ++ wBr cI cZ cJ v_a v_b v) s.heap.size) ⟨B.exec, B.bytes, hml, findClass_of_methodNamed B.named, fun w h => atoms_spec (ws := ws_ChanceBits_startReading) B.pre w (List.mem_cons_of_mem _ h), hK, fun q h => Or.inr h, Nat.le_of_ble_eq_true rfl, Nat.le_of_ble_eq_true rfl, hN, Nat.le_of_ble_eq_true rfl, Nat.le_of_ble_eq_true rfl⟩ (fun H locs ls cb'1 v'1 hP hD hS hf => ?_) hP hD va_S.rf hl hf
  · cases hf
    exact W.vret B.exec B.bytes hr (fun t ht hW => ⟨⟨(), rfl, trivial, ⟨by rw [ht]; exact hP, va_K.moved hW.alike hK, hD⟩⟩, hS.F ht⟩) hS.2.2 d_ChanceBits_startReading_49

/-! C_ChanceBits_takeBit -/
def l_C_ChanceBits_takeBit_33 (x4 : Int32) (k80 : Cb → Br → Option (Int32 × Cb × Br)) : Nat → Cb → Br → Int32 → Option (Int32 × Cb × Br)
  | 0, _, _, _ => none
  | n + 1, cb, v, x5 => (if 4 ≤ x5 then k80 cb v else bd (f_C_ChanceBits_highestBytesAgree cb) <| fun r_8 => (if r_8 = 0 then k80 cb v else bd (f_ByteRow_next v) <| fun (r_10, v_11) => lt' (Cb_s_cd cb ((((Cb_cd cb) &&& 16777215) <<< ((8 : Int32).toInt64 &&& 63)) ||| r_10.toInt64)) <| fun cb_12 => bd (f_C_ChanceBits_shift cb_12) <| fun cb_14 => lt' (x5 + 1) <| fun x5_15 => (l_C_ChanceBits_takeBit_33 x4 k80 n) cb_14 v_11 x5_15))
def j_C_ChanceBits_takeBit_20_3 (cb : Cb) (v : Br) (x1 : Int32) (r_1 : Int64) (z0_2 : Int32) : Option (Int32 × Cb × Br) := bd (f_C_ChanceBits_narrow cb z0_2 r_1 x1) <| fun cb_4 => l_C_ChanceBits_takeBit_33 z0_2 (fun cb_16 v_17 => some (z0_2, cb_16, v_17)) 100000 cb_4 v 0
def f_C_ChanceBits_takeBit (cb : Cb) (v : Br) (x1 : Int32) : Option (Int32 × Cb × Br) := bd (f_C_ChanceBits_split cb x1) <| fun r_1 => (if 0 < (lg_cmp (Cb_cd cb) r_1) then j_C_ChanceBits_takeBit_20_3 cb v x1 r_1 0 else j_C_ChanceBits_takeBit_20_3 cb v x1 r_1 1)
section
variable {p : Program} {l : Launch} {e : Env} {R : Room} {s : State} {m : MethodId} {args : Array Value} {below : List Frame} {meth : Method} {c : Code} {Q : State → Prop} {A : Nat → Prop}
set_option maxHeartbeats 4000000 in
set_option maxRecDepth 100000 in
theorem L_C_ChanceBits_takeBit_33 {cells slots : Nat} {dC : Nat → ClassId} {dI : Nat → Nat → Nat} {cI cZ cJ : ClassId} {cb_a : Nat → Nat} {v_a v_b : Nat} {lk_w : Nat} {x4 : Int32} {k80 : Cb → Br → Option (Int32 × Cb × Br)} {res : Int32 × Cb × Br} (C0 : cxt p c m s args R cells slots R_ChanceBits c_ChanceBits_takeBit tb 6 (dC, dI) vwCl (TYS cI cZ cJ) A 2 43)
    (hk80 : ∀ (H : Heap) (locs : List Loc) (ls : Array Slot) (cb_5 : Cb) (v_6 : Br), va_P (dC, dI) vwCl (wCb cI cZ cJ cb_a lk_w v_a cb_5 ++ wBr cI cZ cJ v_a v_b v_6) H → va_D A (wCb cI cZ cJ cb_a lk_w v_a cb_5 ++ wBr cI cZ cJ v_a v_b v_6) → va_S A s.heap H locs → lv_has ls 6 [(4, .int x4)] → k80 cb_5 v_6 = some res → W p l e R s m args below meth c H locs cells slots Q (F0 m 80 ls [])) :
    ∀ (n : Nat) (H : Heap) (locs : List Loc) (ls : Array Slot) (cb : Cb) (v : Br) (x5 : Int32), va_P (dC, dI) vwCl (wCb cI cZ cJ cb_a lk_w v_a cb ++ wBr cI cZ cJ v_a v_b v) H → va_D A (wCb cI cZ cJ cb_a lk_w v_a cb ++ wBr cI cZ cJ v_a v_b v) → va_S A s.heap H locs → lv_has ls 6 [(0, .ref (cb_a 0)), (4, .int x4), (5, .int x5)] → l_C_ChanceBits_takeBit_33 x4 k80 n cb v x5 = some res → W p l e R s m args below meth c H locs cells slots Q (F0 m 33 ls []) := by
  obtain ⟨hx, hb, hml, hown, hts, hK, hA, hRf, hRl, hN, hRc⟩ := id C0
  intro n
  induction n with
  | zero =>
    intro H locs ls cb v x5 hP hD hS hl hf
    exact absurd hf (by simp [l_C_ChanceBits_takeBit_33])
  | succ n ih =>
    intro H locs ls cb v x5 hP hD hS hl hf
    rw [l_C_ChanceBits_takeBit_33] at hf
    refine lv_iload hx hb d_ChanceBits_takeBit_33 (lv_at hl 2 rfl) ?_
    refine lv_iconst (v := 4) hx hb d_ChanceBits_takeBit_35 (by decide) ?_
    refine lv_icmp_ge (tgt := 80) hx hb d_ChanceBits_takeBit_36 (by decide) (fun c_7 => ?_) (fun c_7 => ?_)
    · rw [if_pos c_7] at hf
      exact hk80 _ _ _ cb v hP hD hS (lv_sub hl [1] rfl) hf
    · rw [if_neg c_7] at hf
      refine lv_aload_n hx hb d_ChanceBits_takeBit_39 rfl (lv_at hl 0 rfl) ?_
      obtain ⟨r_8, hf1, hf⟩ := bd_ex hf
      try dsimp only at hf
      have hPc := hP.sub (ws' := (wCb cI cZ cJ cb_a lk_w v_a cb)) [0, 1] rfl
      have hDc := hD.sub (ws' := (wCb cI cZ cJ cb_a lk_w v_a cb)) [0, 1] (by decide) rfl
      have hFc := va_free (wc := (wCb cI cZ cJ cb_a lk_w v_a cb)) hD hS hA [0, 1] rfl
      refine va_calli (va_runV (As := []) (rest := []) ⟨hx, hb, hml, hown, hts⟩ (k_C_ChanceBits_highestBytesAgree l dC dI cI cZ cJ cb_a lk_w v_a H.size hf1) (cwV 0 hts (gV t_349 t_351 t_3 t_58 t_352) rfl rfl rfl hd_ChanceBits_highestBytesAgree ⟨Nat.le_trans (Nat.le_of_ble_eq_true rfl) hRf, Nat.le_trans (Nat.le_of_ble_eq_true rfl) hRl⟩) ⟨kP_blind, va_recv hK hP (ci := 3) (q0 := 0) rfl rfl, kP_at hPc hK hDc hN⟩ rfl rfl hl.1 rfl (lv_room (Nat.le_of_ble_eq_true rfl)) d_ChanceBits_takeBit_40 hRc) hS (fun q _ h => hFc q h) hFc (fun r9 u t H1 locs ht hvm hw hB hz1 hk1 hS => ?_)
      rw [hw.1]
      obtain ⟨hP, hD⟩ := kQ_join (wr := (wBr cI cZ cJ v_a v_b v)) (w1 := (wCb cI cZ cJ cb_a lk_w v_a cb)) hP hD [0, 1] [2, 3] rfl rfl (by decide) (by decide) ht hk1 hFc hB
      generalize H1 = H at hP hS ⊢
      have hP : va_P (dC, dI) vwCl (wCb cI cZ cJ cb_a lk_w v_a cb ++ wBr cI cZ cJ v_a v_b v) H := hP.sub [2, 3, 0, 1] rfl
      have hD : va_D A (wCb cI cZ cJ cb_a lk_w v_a cb ++ wBr cI cZ cJ v_a v_b v) := hD.sub [2, 3, 0, 1] (by decide) rfl
      refine lv_if_eq (tgt := 80) hx hb d_ChanceBits_takeBit_43 (by decide) (fun c_9 => ?_) (fun c_9 => ?_)
      · rw [if_pos c_9] at hf
        exact hk80 _ _ _ cb v hP hD hS (lv_sub hl [1] rfl) hf
      · rw [if_neg c_9] at hf
        refine lv_aload_n hx hb d_ChanceBits_takeBit_46 rfl (lv_at hl 0 rfl) ?_
        refine lv_aload_n hx hb d_ChanceBits_takeBit_47 rfl (lv_at hl 0 rfl) ?_
        refine va_get (D := (dC, dI)) (ci := 3) (v := .long (Cb_cd cb)) (C := R_ChanceBits) (T := T_ChanceBits) (N := 6) hx hb hts in_ChanceBits hown hK hP 0 rfl rfl 5 (by decide) (hts _ t_119) (fun _ h9 => h9) rfl d_ChanceBits_takeBit_48 ?_
        refine lv_ldc2 (v := 16777215) hx hb hown (hts (.constantLong R_ChanceBits 66 16777215) (by decide +kernel)) d_ChanceBits_takeBit_51 ?_
        refine lv_land hx hb d_ChanceBits_takeBit_54 ?_
        refine lv_bipush (v := 8) hx hb d_ChanceBits_takeBit_55 (by decide) ?_
        refine lv_lshl (v := ((Cb_cd cb) &&& 16777215) <<< ((8 : Int32).toInt64 &&& 63)) hx hb d_ChanceBits_takeBit_57 rfl ?_
        refine lv_aload_n hx hb d_ChanceBits_takeBit_58 rfl (lv_at hl 0 rfl) ?_
        refine va_get (D := (dC, dI)) (ci := 3) (v := .ref v_a) (C := R_ChanceBits) (T := T_ChanceBits) (N := 6) hx hb hts in_ChanceBits hown hK hP 0 rfl rfl 1 (by decide) (hts _ t_126) (u_same (hts _ t_127)) rfl d_ChanceBits_takeBit_59 ?_
        obtain ⟨⟨r_10, v_11⟩, hf1, hf⟩ := bd_ex hf
        try dsimp only at hf
        have hPc := hP.sub (ws' := (wBr cI cZ cJ v_a v_b v)) [2, 3] rfl
        have hDc := hD.sub (ws' := (wBr cI cZ cJ v_a v_b v)) [2, 3] (by decide) rfl
        have hFc := va_free (wc := (wBr cI cZ cJ v_a v_b v)) hD hS hA [2, 3] rfl
        refine va_calli (va_runV (As := []) (rest := [.long (((Cb_cd cb) &&& 16777215) <<< ((8 : Int32).toInt64 &&& 63)), .ref (cb_a 0)]) ⟨hx, hb, hml, hown, hts⟩ (k_ByteRow_next l dC dI cI cZ cJ v_a v_b H.size hf1) (cwV 0 hts (gV t_455 t_456 t_457 t_56 t_458) rfl rfl rfl hd_ByteRow_next ⟨Nat.le_trans (Nat.le_of_ble_eq_true rfl) hRf, Nat.le_trans (Nat.le_of_ble_eq_true rfl) hRl⟩) ⟨kP_blind, va_recv hK hP (ci := 1) (q0 := 2) rfl rfl, kP_at hPc hK hDc hN⟩ rfl rfl hl.1 rfl (lv_room (Nat.le_of_ble_eq_true rfl)) d_ChanceBits_takeBit_62 hRc) hS (fun q _ h => hFc q h) hFc (fun r9 u t H1 locs ht hvm hw hB hz1 hk1 hS => ?_)
        rw [hw]
        obtain ⟨hP, hD⟩ := kQ_join (wr := (wCb cI cZ cJ cb_a lk_w v_a cb)) (w1 := (wBr cI cZ cJ v_a v_b v_11)) hP hD [2, 3] [0, 1] rfl rfl (by decide) (by decide) ht hk1 hFc hB
        generalize H1 = H at hP hS ⊢
        have hP : va_P (dC, dI) vwCl (wCb cI cZ cJ cb_a lk_w v_a cb ++ wBr cI cZ cJ v_a v_b v_11) H := hP.sub [0, 1, 2, 3] rfl
        have hD : va_D A (wCb cI cZ cJ cb_a lk_w v_a cb ++ wBr cI cZ cJ v_a v_b v_11) := hD.sub [0, 1, 2, 3] (by decide) rfl
        refine lv_i2l (v := r_10.toInt64) hx hb d_ChanceBits_takeBit_65 rfl ?_
        refine lv_lor hx hb d_ChanceBits_takeBit_66 ?_
        refine va_put (D := (dC, dI)) (ci := 3) (v := .long ((((Cb_cd cb) &&& 16777215) <<< ((8 : Int32).toInt64 &&& 63)) ||| r_10.toInt64)) (ty := .long) (C := R_ChanceBits) (T := T_ChanceBits) (N := 6) hx hb hts in_ChanceBits ty_ChanceBits tyok_ChanceBits nm_ChanceBits hown hK hP hD hS 0 rfl rfl 5 (by decide) (hts _ t_119) (fun _ h9 => h9) rfl (by decide +kernel) rfl rfl (Nat.le_of_ble_eq_true rfl) d_ChanceBits_takeBit_67 (fun H locs hP hD hS => ?_)
        obtain ⟨cb_12, ecb_12, hf⟩ := lt_ex hf
        try dsimp only at hf
        have hP : va_P (dC, dI) vwCl (wCb cI cZ cJ cb_a lk_w v_a cb_12 ++ wBr cI cZ cJ v_a v_b v_11) H := by rw [ecb_12]; exact hP
        have hD : va_D A (wCb cI cZ cJ cb_a lk_w v_a cb_12 ++ wBr cI cZ cJ v_a v_b v_11) := by rw [ecb_12]; exact hD
        refine lv_aload_n hx hb d_ChanceBits_takeBit_70 rfl (lv_at hl 0 rfl) ?_
        obtain ⟨cb_14, hf1, hf⟩ := bd_ex hf
        try dsimp only at hf
        have hPc := hP.sub (ws' := (wCb cI cZ cJ cb_a lk_w v_a cb_12)) [0, 1] rfl
        have hDc := hD.sub (ws' := (wCb cI cZ cJ cb_a lk_w v_a cb_12)) [0, 1] (by decide) rfl
        have hFc := va_free (wc := (wCb cI cZ cJ cb_a lk_w v_a cb_12)) hD hS hA [0, 1] rfl
        refine va_callv (va_runV (As := []) (rest := []) ⟨hx, hb, hml, hown, hts⟩ (k_C_ChanceBits_shift l dC dI cI cZ cJ cb_a lk_w v_a H.size hf1) (cwV 0 hts (gV t_371 t_373 t_4 t_58 t_374) rfl rfl rfl hd_ChanceBits_shift ⟨Nat.le_trans (Nat.le_of_ble_eq_true rfl) hRf, Nat.le_trans (Nat.le_of_ble_eq_true rfl) hRl⟩) ⟨kP_blind, va_recv hK hP (ci := 3) (q0 := 0) rfl rfl, kP_at hPc hK hDc hN⟩ rfl rfl hl.1 rfl (lv_room (Nat.le_of_ble_eq_true rfl)) d_ChanceBits_takeBit_71 hRc) hS (fun q _ h => hFc q h) hFc (fun u t H1 locs ht hvm hw hB hz1 hk1 hS => ?_)
        obtain ⟨hP, hD⟩ := kQ_join (wr := (wBr cI cZ cJ v_a v_b v_11)) (w1 := (wCb cI cZ cJ cb_a lk_w v_a cb_14)) hP hD [0, 1] [2, 3] rfl rfl (by decide) (by decide) ht hk1 hFc hB
        generalize H1 = H at hP hS ⊢
        have hP : va_P (dC, dI) vwCl (wCb cI cZ cJ cb_a lk_w v_a cb_14 ++ wBr cI cZ cJ v_a v_b v_11) H := hP.sub [2, 3, 0, 1] rfl
        have hD : va_D A (wCb cI cZ cJ cb_a lk_w v_a cb_14 ++ wBr cI cZ cJ v_a v_b v_11) := hD.sub [2, 3, 0, 1] (by decide) rfl
        obtain ⟨x5_15, ex5_15, hf⟩ := lt_ex hf
        try dsimp only at hf
        refine lv_iinc (v := x5_15) (lv' := [(5, .int x5_15), (0, .ref (cb_a 0)), (4, .int x4)]) hx hb d_ChanceBits_takeBit_74 hl (k := 2) rfl (by rw [ex5_15]; rfl) (by decide) rfl (fun ls hl => ?_)
        refine lv_goto (tgt := 33) hx hb d_ChanceBits_takeBit_77 (by decide) ?_
        exact ih _ _ _ cb_14 v_11 x5_15 hP hD hS (lv_sub hl [1, 2, 0] rfl) hf
set_option maxHeartbeats 4000000 in
set_option maxRecDepth 100000 in
theorem B_C_ChanceBits_takeBit {cells slots : Nat} {dC : Nat → ClassId} {dI : Nat → Nat → Nat} {cI cZ cJ : ClassId} {cb_a : Nat → Nat} {v_a v_b : Nat} {lk_w : Nat} {cb : Cb} {v : Br} {x1 : Int32} {res : Int32 × Cb × Br} (C0 : cxt p c m s args R cells slots R_ChanceBits c_ChanceBits_takeBit tb 6 (dC, dI) vwCl (TYS cI cZ cJ) A 2 43)
    (hr82 : ∀ (H : Heap) (locs : List Loc) (ls : Array Slot) (v : Int32) (cb' : Cb) (v' : Br), va_P (dC, dI) vwCl (wCb cI cZ cJ cb_a lk_w v_a cb' ++ wBr cI cZ cJ v_a v_b v') H → va_D A (wCb cI cZ cJ cb_a lk_w v_a cb' ++ wBr cI cZ cJ v_a v_b v') → va_S A s.heap H locs → some (v, cb', v') = some res → W p l e R s m args below meth c H locs cells slots Q (F0 m 82 ls [.int v]))
    {H : Heap} {locs : List Loc} {ls : Array Slot} (hP : va_P (dC, dI) vwCl (wCb cI cZ cJ cb_a lk_w v_a cb ++ wBr cI cZ cJ v_a v_b v) H) (hD : va_D A (wCb cI cZ cJ cb_a lk_w v_a cb ++ wBr cI cZ cJ v_a v_b v)) (hS : va_S A s.heap H locs) (hl : lv_has ls 6 [(0, .ref (cb_a 0)), (1, .int x1)]) (hf : f_C_ChanceBits_takeBit cb v x1 = some res) : W p l e R s m args below meth c H locs cells slots Q (F0 m 0 ls []) := by
  obtain ⟨hx, hb, hml, hown, hts, hK, hA, hRf, hRl, hN, hRc⟩ := id C0
  rw [f_C_ChanceBits_takeBit] at hf
  refine lv_aload_n hx hb d_ChanceBits_takeBit_0 rfl (lv_at hl 0 rfl) ?_
  refine lv_iload_n hx hb d_ChanceBits_takeBit_1 rfl (lv_at hl 1 rfl) ?_
  obtain ⟨r_1, hf1, hf⟩ := bd_ex hf
  try dsimp only at hf
  have hPc := hP.sub (ws' := (wCb cI cZ cJ cb_a lk_w v_a cb)) [0, 1] rfl
  have hDc := hD.sub (ws' := (wCb cI cZ cJ cb_a lk_w v_a cb)) [0, 1] (by decide) rfl
  have hFc := va_free (wc := (wCb cI cZ cJ cb_a lk_w v_a cb)) hD hS hA [0, 1] rfl
  refine va_calll (va_runV (As := [.int x1]) (rest := []) ⟨hx, hb, hml, hown, hts⟩ (k_C_ChanceBits_split l dC dI cI cZ cJ cb_a lk_w v_a H.size hf1) (cwV 1 hts (gV t_337 t_339 t_1 t_58 t_340) rfl rfl rfl hd_ChanceBits_split ⟨Nat.le_trans (Nat.le_of_ble_eq_true rfl) hRf, Nat.le_trans (Nat.le_of_ble_eq_true rfl) hRl⟩) ⟨kP_blind, va_recv hK hP (ci := 3) (q0 := 0) rfl rfl, kP_at hPc hK hDc hN⟩ rfl rfl hl.1 rfl (lv_room (Nat.le_of_ble_eq_true rfl)) d_ChanceBits_takeBit_2 hRc) hS (fun q _ h => hFc q h) hFc (fun r9 u t H1 locs ht hvm hw hB hz1 hk1 hS => ?_)
  rw [hw]
  obtain ⟨hP, hD⟩ := kQ_join (wr := (wBr cI cZ cJ v_a v_b v)) (w1 := (wCb cI cZ cJ cb_a lk_w v_a cb)) hP hD [0, 1] [2, 3] rfl rfl (by decide) (by decide) ht hk1 hFc hB
  generalize H1 = H at hP hS ⊢
  have hP : va_P (dC, dI) vwCl (wCb cI cZ cJ cb_a lk_w v_a cb ++ wBr cI cZ cJ v_a v_b v) H := hP.sub [2, 3, 0, 1] rfl
  have hD : va_D A (wCb cI cZ cJ cb_a lk_w v_a cb ++ wBr cI cZ cJ v_a v_b v) := hD.sub [2, 3, 0, 1] (by decide) rfl
  refine lv_lstore_n (lv' := [(2, .long r_1), (0, .ref (cb_a 0)), (1, .int x1)]) hx hb d_ChanceBits_takeBit_5 rfl hl (by decide) rfl (fun ls hl => ?_)
  refine lv_aload_n hx hb d_ChanceBits_takeBit_6 rfl (lv_at hl 1 rfl) ?_
  refine va_get (D := (dC, dI)) (ci := 3) (v := .long (Cb_cd cb)) (C := R_ChanceBits) (T := T_ChanceBits) (N := 6) hx hb hts in_ChanceBits hown hK hP 0 rfl rfl 5 (by decide) (hts _ t_119) (fun _ h9 => h9) rfl d_ChanceBits_takeBit_7 ?_
  refine lv_lload_n hx hb d_ChanceBits_takeBit_10 rfl (lv_at hl 0 rfl) ?_
  refine W.lcmp hx hb d_ChanceBits_takeBit_11 ?_
  have J20_2 : ∀ (H : Heap) (locs : List Loc) (ls : Array Slot) (z0_2 : Int32), va_P (dC, dI) vwCl (wCb cI cZ cJ cb_a lk_w v_a cb ++ wBr cI cZ cJ v_a v_b v) H → va_D A (wCb cI cZ cJ cb_a lk_w v_a cb ++ wBr cI cZ cJ v_a v_b v) → va_S A s.heap H locs → lv_has ls 6 [(0, .ref (cb_a 0)), (1, .int x1), (2, .long r_1)] → j_C_ChanceBits_takeBit_20_3 cb v x1 r_1 z0_2 = some res → W p l e R s m args below meth c H locs cells slots Q (F0 m 20 ls [.int z0_2]) := by
    intro H locs ls z0_2 hP hD hS hl hf
    rw [j_C_ChanceBits_takeBit_20_3] at hf
    refine lv_istore (lv' := [(4, .int z0_2), (0, .ref (cb_a 0)), (1, .int x1), (2, .long r_1)]) hx hb d_ChanceBits_takeBit_20 hl (by decide) rfl (fun ls hl => ?_)
    refine lv_aload_n hx hb d_ChanceBits_takeBit_22 rfl (lv_at hl 1 rfl) ?_
    refine lv_iload hx hb d_ChanceBits_takeBit_23 (lv_at hl 0 rfl) ?_
    refine lv_lload_n hx hb d_ChanceBits_takeBit_25 rfl (lv_at hl 3 rfl) ?_
    refine lv_iload_n hx hb d_ChanceBits_takeBit_26 rfl (lv_at hl 2 rfl) ?_
    obtain ⟨cb_4, hf1, hf⟩ := bd_ex hf
    try dsimp only at hf
    have hPc := hP.sub (ws' := (wCb cI cZ cJ cb_a lk_w v_a cb)) [0, 1] rfl
    have hDc := hD.sub (ws' := (wCb cI cZ cJ cb_a lk_w v_a cb)) [0, 1] (by decide) rfl
    have hFc := va_free (wc := (wCb cI cZ cJ cb_a lk_w v_a cb)) hD hS hA [0, 1] rfl
    refine va_callv (va_runV (As := [.int z0_2, .long r_1, .int x1]) (rest := []) ⟨hx, hb, hml, hown, hts⟩ (k_C_ChanceBits_narrow l dC dI cI cZ cJ cb_a lk_w v_a H.size hf1) (cwV 3 hts (gV t_344 t_346 t_2 t_58 t_347) rfl rfl rfl hd_ChanceBits_narrow ⟨Nat.le_trans (Nat.le_of_ble_eq_true rfl) hRf, Nat.le_trans (Nat.le_of_ble_eq_true rfl) hRl⟩) ⟨kP_blind, va_recv hK hP (ci := 3) (q0 := 0) rfl rfl, kP_at hPc hK hDc hN⟩ rfl rfl hl.1 rfl (lv_room (Nat.le_of_ble_eq_true rfl)) d_ChanceBits_takeBit_27 hRc) hS (fun q _ h => hFc q h) hFc (fun u t H1 locs ht hvm hw hB hz1 hk1 hS => ?_)
    obtain ⟨hP, hD⟩ := kQ_join (wr := (wBr cI cZ cJ v_a v_b v)) (w1 := (wCb cI cZ cJ cb_a lk_w v_a cb_4)) hP hD [0, 1] [2, 3] rfl rfl (by decide) (by decide) ht hk1 hFc hB
    generalize H1 = H at hP hS ⊢
    have hP : va_P (dC, dI) vwCl (wCb cI cZ cJ cb_a lk_w v_a cb_4 ++ wBr cI cZ cJ v_a v_b v) H := hP.sub [2, 3, 0, 1] rfl
    have hD : va_D A (wCb cI cZ cJ cb_a lk_w v_a cb_4 ++ wBr cI cZ cJ v_a v_b v) := hD.sub [2, 3, 0, 1] (by decide) rfl
    refine lv_iconst (v := 0) hx hb d_ChanceBits_takeBit_30 (by decide) ?_
    refine lv_istore (lv' := [(5, .int 0), (4, .int z0_2), (0, .ref (cb_a 0)), (1, .int x1), (2, .long r_1)]) hx hb d_ChanceBits_takeBit_31 hl (by decide) rfl (fun ls hl => ?_)
    refine L_C_ChanceBits_takeBit_33 C0 (fun H locs ls cb_16 v_17 hP hD hS hl hf => ?_) 100000 _ _ _ cb_4 v 0 hP hD hS (lv_sub hl [2, 1, 0] rfl) hf
    try dsimp only at hf
    refine lv_iload hx hb d_ChanceBits_takeBit_80 (lv_at hl 0 rfl) ?_
    exact hr82 _ _ _ z0_2 cb_16 v_17 hP hD hS hf
  refine lv_if_gt (tgt := 19) hx hb d_ChanceBits_takeBit_12 (by decide) (fun c_18 => ?_) (fun c_18 => ?_)
  · rw [if_pos c_18] at hf
    refine lv_iconst (v := 0) hx hb d_ChanceBits_takeBit_19 (by decide) ?_
    exact J20_2 _ _ _ 0 hP hD hS (lv_sub hl [1, 2, 0] rfl) hf
  · rw [if_neg c_18] at hf
    refine lv_iconst (v := 1) hx hb d_ChanceBits_takeBit_15 (by decide) ?_
    refine lv_goto (tgt := 20) hx hb d_ChanceBits_takeBit_16 (by decide) ?_
    exact J20_2 _ _ _ 1 hP hD hS (lv_sub hl [1, 2, 0] rfl) hf
end
set_option maxHeartbeats 4000000 in
set_option maxRecDepth 100000 in
theorem k_C_ChanceBits_takeBit (l : Launch) (dC : Nat → ClassId) (dI : Nat → Nat → Nat) (cI cZ cJ : ClassId) (cb_a : Nat → Nat) (v_a v_b : Nat) (lk_w : Nat) (sz : Nat) {cb : Cb} {v : Br} {x1 : Int32} {r : Int32} {cb' : Cb} {v' : Br} (hf : f_C_ChanceBits_takeBit cb v x1 = some (r, cb', v')) :
    Met l y_ChanceBits_takeBit ws_ChanceBits_takeBit ({ frames := 2, cells := 0, slots := 0, locals := 43 }) (va_Pc [.ref (cb_a 0), .int x1] (kP (dC, dI) vwCl (TYS cI cZ cJ) (wCb cI cZ cJ cb_a lk_w v_a cb ++ wBr cI cZ cJ v_a v_b v) sz)) (va_Qi (fun (q : Int32) (_ : Unit) => q = r) (fun _ t => kQ (dC, dI) vwCl (TYS cI cZ cJ) (wCb cI cZ cJ cb_a lk_w v_a cb ++ wBr cI cZ cJ v_a v_b v) sz (wCb cI cZ cJ cb_a lk_w v_a cb' ++ wBr cI cZ cJ v_a v_b v') t) (va_A (wCb cI cZ cJ cb_a lk_w v_a cb ++ wBr cI cZ cJ v_a v_b v) sz)) 0 0 (va_A (wCb cI cZ cJ cb_a lk_w v_a cb ++ wBr cI cZ cJ v_a v_b v) sz) := by
  refine Met.ofW (cc := c_ChanceBits_takeBit) (maxL := 6) (ret := (some .int)) (by decide) rfl ?_
  intro p e s m args below meth c s₁ B hml hv
  obtain ⟨rfl, hsz, hP, hK, hD0, hN⟩ := hv
  have hr := B.returns
  have hlocks := B.notSynchronized
  subst hsz
  have hD := hD0.self (sz := s.heap.size)
  have hl := lv_entry ([.ref (cb_a 0), .int x1]) (n := 6) (Nat.le_of_ble_eq_true rfl)
  rw [lg_entry_eq]
  generalize (lg_sl ([.ref (cb_a 0), .int x1]) ++ List.replicate (6 - (lg_sl ([.ref (cb_a 0), .int x1])).length) Slot.unset).toArray = ls at hl ⊢
  refine B_C_ChanceBits_takeBit (A := va_A (wCb cI cZ cJ cb_a lk_w v_a cb ++ wBr cI cZ cJ v_a v_b v) s.heap.size) ⟨B.exec, B.bytes, hml, findClass_of_methodNamed B.named, fun w h => atoms_spec (ws := ws_ChanceBits_takeBit) B.pre w (List.mem_cons_of_mem _ h), hK, fun q h => Or.inr h, Nat.le_of_ble_eq_true rfl, Nat.le_of_ble_eq_true rfl, hN, Nat.le_of_ble_eq_true rfl, Nat.le_of_ble_eq_true rfl⟩ (fun H locs ls v cb'1 v'1 hP hD hS hf => ?_) hP hD va_S.rf hl hf
  · cases hf
    exact W.iret B.exec B.bytes hr (fun t ht hW => ⟨⟨_, (), rfl, rfl, ⟨by rw [ht]; exact hP, va_K.moved hW.alike hK, hD⟩⟩, hS.F ht⟩) hS.2.2 d_ChanceBits_takeBit_82

/-! P_Bits_takeBits -/
def l_P_Bits_takeBits_4 (x1 : Int32) (k25 : Pb → Br → Int32 → Option (Int32 × Pb × Br)) : Nat → Pb → Br → Int32 → Int32 → Option (Int32 × Pb × Br)
  | 0, _, _, _, _ => none
  | n + 1, pb, v, x2, x3 => (if x1 ≤ x3 then k25 pb v x2 else bd (f_P_PlainBits_takeBit pb v (-1)) <| fun (r_5, pb_6, v_7) => lt' ((x2 <<< ((1 : Int32) &&& 31)) ||| r_5) <| fun x2_8 => lt' (x3 + 1) <| fun x3_9 => (l_P_Bits_takeBits_4 x1 k25 n) pb_6 v_7 x2_8 x3_9)
def f_P_Bits_takeBits (pb : Pb) (v : Br) (x1 : Int32) : Option (Int32 × Pb × Br) := l_P_Bits_takeBits_4 x1 (fun pb_10 v_11 x2_12 => some (x2_12, pb_10, v_11)) 100000 pb v 0 0
section
variable {p : Program} {l : Launch} {e : Env} {R : Room} {s : State} {m : MethodId} {args : Array Value} {below : List Frame} {meth : Method} {c : Code} {Q : State → Prop} {A : Nat → Prop}
set_option maxHeartbeats 4000000 in
set_option maxRecDepth 100000 in
theorem L_P_Bits_takeBits_4 {cells slots : Nat} {dC : Nat → ClassId} {dI : Nat → Nat → Nat} {cI cZ cJ : ClassId} {pb_a : Nat → Nat} {v_a v_b : Nat} {lk_w : Nat} {x1 : Int32} {k25 : Pb → Br → Int32 → Option (Int32 × Pb × Br)} {res : Int32 × Pb × Br} (C0 : cxt p c m s args R cells slots R_Bits c_Bits_takeBits tb 4 (dC, dI) vwCl (TYS cI cZ cJ) A 2 42)
    (hk25 : ∀ (H : Heap) (locs : List Loc) (ls : Array Slot) (pb_1 : Pb) (v_2 : Br) (x2_3 : Int32), va_P (dC, dI) vwCl (wPb cI cZ cJ pb_a lk_w v_a pb_1 ++ wBr cI cZ cJ v_a v_b v_2) H → va_D A (wPb cI cZ cJ pb_a lk_w v_a pb_1 ++ wBr cI cZ cJ v_a v_b v_2) → va_S A s.heap H locs → lv_has ls 4 [(2, .int x2_3)] → k25 pb_1 v_2 x2_3 = some res → W p l e R s m args below meth c H locs cells slots Q (F0 m 25 ls [])) :
    ∀ (n : Nat) (H : Heap) (locs : List Loc) (ls : Array Slot) (pb : Pb) (v : Br) (x2 : Int32) (x3 : Int32), va_P (dC, dI) vwCl (wPb cI cZ cJ pb_a lk_w v_a pb ++ wBr cI cZ cJ v_a v_b v) H → va_D A (wPb cI cZ cJ pb_a lk_w v_a pb ++ wBr cI cZ cJ v_a v_b v) → va_S A s.heap H locs → lv_has ls 4 [(0, .ref (pb_a 0)), (1, .int x1), (2, .int x2), (3, .int x3)] → l_P_Bits_takeBits_4 x1 k25 n pb v x2 x3 = some res → W p l e R s m args below meth c H locs cells slots Q (F0 m 4 ls []) := by
  obtain ⟨hx, hb, hml, hown, hts, hK, hA, hRf, hRl, hN, hRc⟩ := id C0
  intro n
  induction n with
  | zero =>
    intro H locs ls pb v x2 x3 hP hD hS hl hf
    exact absurd hf (by simp [l_P_Bits_takeBits_4])
  | succ n ih =>
    intro H locs ls pb v x2 x3 hP hD hS hl hf
    rw [l_P_Bits_takeBits_4] at hf
    refine lv_iload_n hx hb d_Bits_takeBits_4 rfl (lv_at hl 3 rfl) ?_
    refine lv_iload_n hx hb d_Bits_takeBits_5 rfl (lv_at hl 1 rfl) ?_
    refine lv_icmp_ge (tgt := 25) hx hb d_Bits_takeBits_6 (by decide) (fun c_4 => ?_) (fun c_4 => ?_)
    · rw [if_pos c_4] at hf
      exact hk25 _ _ _ pb v x2 hP hD hS (lv_sub hl [2] rfl) hf
    · rw [if_neg c_4] at hf
      refine lv_iload_n hx hb d_Bits_takeBits_9 rfl (lv_at hl 2 rfl) ?_
      refine lv_iconst (v := 1) hx hb d_Bits_takeBits_10 (by decide) ?_
      refine lv_ishl hx hb d_Bits_takeBits_11 ?_
      refine lv_aload_n hx hb d_Bits_takeBits_12 rfl (lv_at hl 0 rfl) ?_
      refine lv_iconst (v := (-1)) hx hb d_Bits_takeBits_13 (by decide) ?_
      obtain ⟨⟨r_5, pb_6, v_7⟩, hf1, hf⟩ := bd_ex hf
      try dsimp only at hf
      have hPc := hP.sub (ws' := (wPb cI cZ cJ pb_a lk_w v_a pb ++ wBr cI cZ cJ v_a v_b v)) [0, 1, 2] rfl
      have hDc := hD.sub (ws' := (wPb cI cZ cJ pb_a lk_w v_a pb ++ wBr cI cZ cJ v_a v_b v)) [0, 1, 2] (by decide) rfl
      have hFc := va_free (wc := (wPb cI cZ cJ pb_a lk_w v_a pb ++ wBr cI cZ cJ v_a v_b v)) hD hS hA [0, 1, 2] rfl
      refine va_calli (va_runU (As := [.int (-1)]) (rest := [.int (x2 <<< ((1 : Int32) &&& 31))]) ⟨hx, hb, hml, hown, hts⟩ (k_P_PlainBits_takeBit l dC dI cI cZ cJ pb_a v_a v_b lk_w H.size hf1) (va_cwA 1 hts (gU t_469 t_471 t_475 t_476 t_59 t_477) rfl rfl rfl (hN.2 _ (by decide +kernel)) hdx_Bits_takeBit ⟨Nat.le_trans (Nat.le_of_ble_eq_true rfl) hRf, Nat.le_trans (Nat.le_of_ble_eq_true rfl) hRl⟩) ⟨kP_blind, va_recv hK hP (ci := 2) (q0 := 0) rfl rfl, kP_at hPc hK hDc hN⟩ rfl rfl hl.1 rfl (lv_room (Nat.le_of_ble_eq_true rfl)) d_Bits_takeBits_14 hRc) hS (fun q _ h => hFc q h) hFc (fun r9 u t H1 locs ht hvm hw hB hz1 hk1 hS => ?_)
      rw [hw]
      obtain ⟨hP, hD⟩ := kQ_join (wr := ([] : va_W)) (w1 := (wPb cI cZ cJ pb_a lk_w v_a pb_6 ++ wBr cI cZ cJ v_a v_b v_7)) hP hD [0, 1, 2] [] rfl rfl (by decide) (by decide) ht hk1 hFc hB
      generalize H1 = H at hP hS ⊢
      have hP : va_P (dC, dI) vwCl (wPb cI cZ cJ pb_a lk_w v_a pb_6 ++ wBr cI cZ cJ v_a v_b v_7) H := hP.sub [0, 1, 2] rfl
      have hD : va_D A (wPb cI cZ cJ pb_a lk_w v_a pb_6 ++ wBr cI cZ cJ v_a v_b v_7) := hD.sub [0, 1, 2] (by decide) rfl
      refine lv_ior hx hb d_Bits_takeBits_17 ?_
      obtain ⟨x2_8, ex2_8, hf⟩ := lt_ex hf
      try dsimp only at hf
      refine tp_i ex2_8 ?_
      refine lv_istore_n (lv' := [(2, .int x2_8), (0, .ref (pb_a 0)), (1, .int x1), (3, .int x3)]) hx hb d_Bits_takeBits_18 rfl hl (by decide) rfl (fun ls hl => ?_)
      obtain ⟨x3_9, ex3_9, hf⟩ := lt_ex hf
      try dsimp only at hf
      refine lv_iinc (v := x3_9) (lv' := [(3, .int x3_9), (2, .int x2_8), (0, .ref (pb_a 0)), (1, .int x1)]) hx hb d_Bits_takeBits_19 hl (k := 3) rfl (by rw [ex3_9]; rfl) (by decide) rfl (fun ls hl => ?_)
      refine lv_goto (tgt := 4) hx hb d_Bits_takeBits_22 (by decide) ?_
      exact ih _ _ _ pb_6 v_7 x2_8 x3_9 hP hD hS (lv_sub hl [2, 3, 1, 0] rfl) hf
set_option maxHeartbeats 4000000 in
set_option maxRecDepth 100000 in
theorem B_P_Bits_takeBits {cells slots : Nat} {dC : Nat → ClassId} {dI : Nat → Nat → Nat} {cI cZ cJ : ClassId} {pb_a : Nat → Nat} {v_a v_b : Nat} {lk_w : Nat} {pb : Pb} {v : Br} {x1 : Int32} {res : Int32 × Pb × Br} (C0 : cxt p c m s args R cells slots R_Bits c_Bits_takeBits tb 4 (dC, dI) vwCl (TYS cI cZ cJ) A 2 42)
    (hr26 : ∀ (H : Heap) (locs : List Loc) (ls : Array Slot) (v : Int32) (pb' : Pb) (v' : Br), va_P (dC, dI) vwCl (wPb cI cZ cJ pb_a lk_w v_a pb' ++ wBr cI cZ cJ v_a v_b v') H → va_D A (wPb cI cZ cJ pb_a lk_w v_a pb' ++ wBr cI cZ cJ v_a v_b v') → va_S A s.heap H locs → some (v, pb', v') = some res → W p l e R s m args below meth c H locs cells slots Q (F0 m 26 ls [.int v]))
    {H : Heap} {locs : List Loc} {ls : Array Slot} (hP : va_P (dC, dI) vwCl (wPb cI cZ cJ pb_a lk_w v_a pb ++ wBr cI cZ cJ v_a v_b v) H) (hD : va_D A (wPb cI cZ cJ pb_a lk_w v_a pb ++ wBr cI cZ cJ v_a v_b v)) (hS : va_S A s.heap H locs) (hl : lv_has ls 4 [(0, .ref (pb_a 0)), (1, .int x1)]) (hf : f_P_Bits_takeBits pb v x1 = some res) : W p l e R s m args below meth c H locs cells slots Q (F0 m 0 ls []) := by
  obtain ⟨hx, hb, hml, hown, hts, hK, hA, hRf, hRl, hN, hRc⟩ := id C0
  rw [f_P_Bits_takeBits] at hf
  refine lv_iconst (v := 0) hx hb d_Bits_takeBits_0 (by decide) ?_
  refine lv_istore_n (lv' := [(2, .int 0), (0, .ref (pb_a 0)), (1, .int x1)]) hx hb d_Bits_takeBits_1 rfl hl (by decide) rfl (fun ls hl => ?_)
  refine lv_iconst (v := 0) hx hb d_Bits_takeBits_2 (by decide) ?_
  refine lv_istore_n (lv' := [(3, .int 0), (2, .int 0), (0, .ref (pb_a 0)), (1, .int x1)]) hx hb d_Bits_takeBits_3 rfl hl (by decide) rfl (fun ls hl => ?_)
  refine L_P_Bits_takeBits_4 C0 (fun H locs ls pb_10 v_11 x2_12 hP hD hS hl hf => ?_) 100000 _ _ _ pb v 0 0 hP hD hS (lv_sub hl [2, 3, 1, 0] rfl) hf
  try dsimp only at hf
  refine lv_iload_n hx hb d_Bits_takeBits_25 rfl (lv_at hl 0 rfl) ?_
  exact hr26 _ _ _ x2_12 pb_10 v_11 hP hD hS hf
end
set_option maxHeartbeats 4000000 in
set_option maxRecDepth 100000 in
theorem k_P_Bits_takeBits (l : Launch) (dC : Nat → ClassId) (dI : Nat → Nat → Nat) (cI cZ cJ : ClassId) (pb_a : Nat → Nat) (v_a v_b : Nat) (lk_w : Nat) (sz : Nat) {pb : Pb} {v : Br} {x1 : Int32} {r : Int32} {pb' : Pb} {v' : Br} (hf : f_P_Bits_takeBits pb v x1 = some (r, pb', v')) :
    Met l y_Bits_takeBits ws_Bits_takeBits ({ frames := 2, cells := 0, slots := 0, locals := 42 }) (va_Pc [.ref (pb_a 0), .int x1] (kP (dC, dI) vwCl (TYS cI cZ cJ) (wPb cI cZ cJ pb_a lk_w v_a pb ++ wBr cI cZ cJ v_a v_b v) sz)) (va_Qi (fun (q : Int32) (_ : Unit) => q = r) (fun _ t => kQ (dC, dI) vwCl (TYS cI cZ cJ) (wPb cI cZ cJ pb_a lk_w v_a pb ++ wBr cI cZ cJ v_a v_b v) sz (wPb cI cZ cJ pb_a lk_w v_a pb' ++ wBr cI cZ cJ v_a v_b v') t) (va_A (wPb cI cZ cJ pb_a lk_w v_a pb ++ wBr cI cZ cJ v_a v_b v) sz)) 0 0 (va_A (wPb cI cZ cJ pb_a lk_w v_a pb ++ wBr cI cZ cJ v_a v_b v) sz) := by
  refine Met.ofW (cc := c_Bits_takeBits) (maxL := 4) (ret := (some .int)) (by decide) rfl ?_
  intro p e s m args below meth c s₁ B hml hv
  obtain ⟨rfl, hsz, hP, hK, hD0, hN⟩ := hv
  have hr := B.returns
  have hlocks := B.notSynchronized
  subst hsz
  have hD := hD0.self (sz := s.heap.size)
  have hl := lv_entry ([.ref (pb_a 0), .int x1]) (n := 4) (Nat.le_of_ble_eq_true rfl)
  rw [lg_entry_eq]
  generalize (lg_sl ([.ref (pb_a 0), .int x1]) ++ List.replicate (4 - (lg_sl ([.ref (pb_a 0), .int x1])).length) Slot.unset).toArray = ls at hl ⊢
  refine B_P_Bits_takeBits (A := va_A (wPb cI cZ cJ pb_a lk_w v_a pb ++ wBr cI cZ cJ v_a v_b v) s.heap.size) ⟨B.exec, B.bytes, hml, findClass_of_methodNamed B.named, fun w h => atoms_spec (ws := ws_Bits_takeBits) B.pre w (List.mem_cons_of_mem _ h), hK, fun q h => Or.inr h, Nat.le_of_ble_eq_true rfl, Nat.le_of_ble_eq_true rfl, hN, Nat.le_of_ble_eq_true rfl, Nat.le_of_ble_eq_true rfl⟩ (fun H locs ls v pb'1 v'1 hP hD hS hf => ?_) hP hD va_S.rf hl hf
  · cases hf
    exact W.iret B.exec B.bytes hr (fun t ht hW => ⟨⟨_, (), rfl, rfl, ⟨by rw [ht]; exact hP, va_K.moved hW.alike hK, hD⟩⟩, hS.F ht⟩) hS.2.2 d_Bits_takeBits_26

/-! P_Bits_takeNumber -/
def l_P_Bits_takeNumber_2 (k22 : Pb → Br → Int32 → Option (Int32 × Pb × Br)) : Nat → Pb → Br → Int32 → Option (Int32 × Pb × Br)
  | 0, _, _, _ => none
  | n + 1, pb, v, x1 => (if 8 < x1 then k22 pb v x1 else bd (f_P_PlainBits_takeBit pb v (-1)) <| fun (r_5, pb_6, v_7) => (if r_5 = 0 then lt' (x1 + 1) <| fun x1_9 => (l_P_Bits_takeNumber_2 k22 n) pb_6 v_7 x1_9 else k22 pb_6 v_7 x1))
def f_P_Bits_takeNumber (pb : Pb) (v : Br) : Option (Int32 × Pb × Br) := l_P_Bits_takeNumber_2 (fun pb_10 v_11 x1_12 => (if x1_12 ≤ 8 then bd (f_P_Bits_takeBits pb_10 v_11 x1_12) <| fun (r_14, pb_15, v_16) => some ((((1 : Int32) <<< (x1_12 &&& 31)) ||| r_14) - 1, pb_15, v_16) else some ((-1), pb_10, v_11))) 100000 pb v 0
section
variable {p : Program} {l : Launch} {e : Env} {R : Room} {s : State} {m : MethodId} {args : Array Value} {below : List Frame} {meth : Method} {c : Code} {Q : State → Prop} {A : Nat → Prop}
set_option maxHeartbeats 4000000 in
set_option maxRecDepth 100000 in
theorem L_P_Bits_takeNumber_2 {cells slots : Nat} {dC : Nat → ClassId} {dI : Nat → Nat → Nat} {cI cZ cJ : ClassId} {pb_a : Nat → Nat} {v_a v_b : Nat} {lk_w : Nat} {k22 : Pb → Br → Int32 → Option (Int32 × Pb × Br)} {res : Int32 × Pb × Br} (C0 : cxt p c m s args R cells slots R_Bits c_Bits_takeNumber tb 2 (dC, dI) vwCl (TYS cI cZ cJ) A 3 65)
    (hk22 : ∀ (H : Heap) (locs : List Loc) (ls : Array Slot) (pb_1 : Pb) (v_2 : Br) (x1_3 : Int32), va_P (dC, dI) vwCl (wPb cI cZ cJ pb_a lk_w v_a pb_1 ++ wBr cI cZ cJ v_a v_b v_2) H → va_D A (wPb cI cZ cJ pb_a lk_w v_a pb_1 ++ wBr cI cZ cJ v_a v_b v_2) → va_S A s.heap H locs → lv_has ls 2 [(0, .ref (pb_a 0)), (1, .int x1_3)] → k22 pb_1 v_2 x1_3 = some res → W p l e R s m args below meth c H locs cells slots Q (F0 m 22 ls [])) :
    ∀ (n : Nat) (H : Heap) (locs : List Loc) (ls : Array Slot) (pb : Pb) (v : Br) (x1 : Int32), va_P (dC, dI) vwCl (wPb cI cZ cJ pb_a lk_w v_a pb ++ wBr cI cZ cJ v_a v_b v) H → va_D A (wPb cI cZ cJ pb_a lk_w v_a pb ++ wBr cI cZ cJ v_a v_b v) → va_S A s.heap H locs → lv_has ls 2 [(0, .ref (pb_a 0)), (1, .int x1)] → l_P_Bits_takeNumber_2 k22 n pb v x1 = some res → W p l e R s m args below meth c H locs cells slots Q (F0 m 2 ls []) := by
  obtain ⟨hx, hb, hml, hown, hts, hK, hA, hRf, hRl, hN, hRc⟩ := id C0
  intro n
  induction n with
  | zero =>
    intro H locs ls pb v x1 hP hD hS hl hf
    exact absurd hf (by simp [l_P_Bits_takeNumber_2])
  | succ n ih =>
    intro H locs ls pb v x1 hP hD hS hl hf
    rw [l_P_Bits_takeNumber_2] at hf
    refine lv_iload_n hx hb d_Bits_takeNumber_2 rfl (lv_at hl 1 rfl) ?_
    refine lv_bipush (v := 8) hx hb d_Bits_takeNumber_3 (by decide) ?_
    refine lv_icmp_gt (tgt := 22) hx hb d_Bits_takeNumber_5 (by decide) (fun c_4 => ?_) (fun c_4 => ?_)
    · rw [if_pos c_4] at hf
      exact hk22 _ _ _ pb v x1 hP hD hS (lv_sub hl [0, 1] rfl) hf
    · rw [if_neg c_4] at hf
      refine lv_aload_n hx hb d_Bits_takeNumber_8 rfl (lv_at hl 0 rfl) ?_
      refine lv_iconst (v := (-1)) hx hb d_Bits_takeNumber_9 (by decide) ?_
      obtain ⟨⟨r_5, pb_6, v_7⟩, hf1, hf⟩ := bd_ex hf
      try dsimp only at hf
      have hPc := hP.sub (ws' := (wPb cI cZ cJ pb_a lk_w v_a pb ++ wBr cI cZ cJ v_a v_b v)) [0, 1, 2] rfl
      have hDc := hD.sub (ws' := (wPb cI cZ cJ pb_a lk_w v_a pb ++ wBr cI cZ cJ v_a v_b v)) [0, 1, 2] (by decide) rfl
      have hFc := va_free (wc := (wPb cI cZ cJ pb_a lk_w v_a pb ++ wBr cI cZ cJ v_a v_b v)) hD hS hA [0, 1, 2] rfl
      refine va_calli (va_runU (As := [.int (-1)]) (rest := []) ⟨hx, hb, hml, hown, hts⟩ (k_P_PlainBits_takeBit l dC dI cI cZ cJ pb_a v_a v_b lk_w H.size hf1) (va_cwA 1 hts (gU t_469 t_471 t_475 t_476 t_59 t_477) rfl rfl rfl (hN.2 _ (by decide +kernel)) hdx_Bits_takeBit ⟨Nat.le_trans (Nat.le_of_ble_eq_true rfl) hRf, Nat.le_trans (Nat.le_of_ble_eq_true rfl) hRl⟩) ⟨kP_blind, va_recv hK hP (ci := 2) (q0 := 0) rfl rfl, kP_at hPc hK hDc hN⟩ rfl rfl hl.1 rfl (lv_room (Nat.le_of_ble_eq_true rfl)) d_Bits_takeNumber_10 hRc) hS (fun q _ h => hFc q h) hFc (fun r9 u t H1 locs ht hvm hw hB hz1 hk1 hS => ?_)
      rw [hw]
      obtain ⟨hP, hD⟩ := kQ_join (wr := ([] : va_W)) (w1 := (wPb cI cZ cJ pb_a lk_w v_a pb_6 ++ wBr cI cZ cJ v_a v_b v_7)) hP hD [0, 1, 2] [] rfl rfl (by decide) (by decide) ht hk1 hFc hB
      generalize H1 = H at hP hS ⊢
      have hP : va_P (dC, dI) vwCl (wPb cI cZ cJ pb_a lk_w v_a pb_6 ++ wBr cI cZ cJ v_a v_b v_7) H := hP.sub [0, 1, 2] rfl
      have hD : va_D A (wPb cI cZ cJ pb_a lk_w v_a pb_6 ++ wBr cI cZ cJ v_a v_b v_7) := hD.sub [0, 1, 2] (by decide) rfl
      refine lv_if_ne (tgt := 22) hx hb d_Bits_takeNumber_13 (by decide) (fun c_8 => ?_) (fun c_8 => ?_)
      · rw [if_neg c_8] at hf
        exact hk22 _ _ _ pb_6 v_7 x1 hP hD hS (lv_sub hl [0, 1] rfl) hf
      · rw [if_pos c_8] at hf
        obtain ⟨x1_9, ex1_9, hf⟩ := lt_ex hf
        try dsimp only at hf
        refine lv_iinc (v := x1_9) (lv' := [(1, .int x1_9), (0, .ref (pb_a 0))]) hx hb d_Bits_takeNumber_16 hl (k := 1) rfl (by rw [ex1_9]; rfl) (by decide) rfl (fun ls hl => ?_)
        refine lv_goto (tgt := 2) hx hb d_Bits_takeNumber_19 (by decide) ?_
        exact ih _ _ _ pb_6 v_7 x1_9 hP hD hS (lv_sub hl [1, 0] rfl) hf
set_option maxHeartbeats 4000000 in
set_option maxRecDepth 100000 in
theorem B_P_Bits_takeNumber {cells slots : Nat} {dC : Nat → ClassId} {dI : Nat → Nat → Nat} {cI cZ cJ : ClassId} {pb_a : Nat → Nat} {v_a v_b : Nat} {lk_w : Nat} {pb : Pb} {v : Br} {res : Int32 × Pb × Br} (C0 : cxt p c m s args R cells slots R_Bits c_Bits_takeNumber tb 2 (dC, dI) vwCl (TYS cI cZ cJ) A 3 65)
    (hr29 : ∀ (H : Heap) (locs : List Loc) (ls : Array Slot) (v : Int32) (pb' : Pb) (v' : Br), va_P (dC, dI) vwCl (wPb cI cZ cJ pb_a lk_w v_a pb' ++ wBr cI cZ cJ v_a v_b v') H → va_D A (wPb cI cZ cJ pb_a lk_w v_a pb' ++ wBr cI cZ cJ v_a v_b v') → va_S A s.heap H locs → some (v, pb', v') = some res → W p l e R s m args below meth c H locs cells slots Q (F0 m 29 ls [.int v]))
    (hr41 : ∀ (H : Heap) (locs : List Loc) (ls : Array Slot) (v : Int32) (pb' : Pb) (v' : Br), va_P (dC, dI) vwCl (wPb cI cZ cJ pb_a lk_w v_a pb' ++ wBr cI cZ cJ v_a v_b v') H → va_D A (wPb cI cZ cJ pb_a lk_w v_a pb' ++ wBr cI cZ cJ v_a v_b v') → va_S A s.heap H locs → some (v, pb', v') = some res → W p l e R s m args below meth c H locs cells slots Q (F0 m 41 ls [.int v]))
    {H : Heap} {locs : List Loc} {ls : Array Slot} (hP : va_P (dC, dI) vwCl (wPb cI cZ cJ pb_a lk_w v_a pb ++ wBr cI cZ cJ v_a v_b v) H) (hD : va_D A (wPb cI cZ cJ pb_a lk_w v_a pb ++ wBr cI cZ cJ v_a v_b v)) (hS : va_S A s.heap H locs) (hl : lv_has ls 2 [(0, .ref (pb_a 0))]) (hf : f_P_Bits_takeNumber pb v = some res) : W p l e R s m args below meth c H locs cells slots Q (F0 m 0 ls []) := by
  obtain ⟨hx, hb, hml, hown, hts, hK, hA, hRf, hRl, hN, hRc⟩ := id C0
  rw [f_P_Bits_takeNumber] at hf
  refine lv_iconst (v := 0) hx hb d_Bits_takeNumber_0 (by decide) ?_
  refine lv_istore_n (lv' := [(1, .int 0), (0, .ref (pb_a 0))]) hx hb d_Bits_takeNumber_1 rfl hl (by decide) rfl (fun ls hl => ?_)
  refine L_P_Bits_takeNumber_2 C0 (fun H locs ls pb_10 v_11 x1_12 hP hD hS hl hf => ?_) 100000 _ _ _ pb v 0 hP hD hS (lv_sub hl [1, 0] rfl) hf
  try dsimp only at hf
  refine lv_iload_n hx hb d_Bits_takeNumber_22 rfl (lv_at hl 1 rfl) ?_
  refine lv_bipush (v := 8) hx hb d_Bits_takeNumber_23 (by decide) ?_
  refine lv_icmp_le (tgt := 30) hx hb d_Bits_takeNumber_25 (by decide) (fun c_13 => ?_) (fun c_13 => ?_)
  · rw [if_pos c_13] at hf
    refine lv_iconst (v := 1) hx hb d_Bits_takeNumber_30 (by decide) ?_
    refine lv_iload_n hx hb d_Bits_takeNumber_31 rfl (lv_at hl 1 rfl) ?_
    refine lv_ishl hx hb d_Bits_takeNumber_32 ?_
    refine lv_aload_n hx hb d_Bits_takeNumber_33 rfl (lv_at hl 0 rfl) ?_
    refine lv_iload_n hx hb d_Bits_takeNumber_34 rfl (lv_at hl 1 rfl) ?_
    obtain ⟨⟨r_14, pb_15, v_16⟩, hf1, hf⟩ := bd_ex hf
    try dsimp only at hf
    have hPc := hP.sub (ws' := (wPb cI cZ cJ pb_a lk_w v_a pb_10 ++ wBr cI cZ cJ v_a v_b v_11)) [0, 1, 2] rfl
    have hDc := hD.sub (ws' := (wPb cI cZ cJ pb_a lk_w v_a pb_10 ++ wBr cI cZ cJ v_a v_b v_11)) [0, 1, 2] (by decide) rfl
    have hFc := va_free (wc := (wPb cI cZ cJ pb_a lk_w v_a pb_10 ++ wBr cI cZ cJ v_a v_b v_11)) hD hS hA [0, 1, 2] rfl
    refine va_calli (va_runU (As := [.int x1_12]) (rest := [.int ((1 : Int32) <<< (x1_12 &&& 31))]) ⟨hx, hb, hml, hown, hts⟩ (k_P_Bits_takeBits l dC dI cI cZ cJ pb_a v_a v_b lk_w H.size hf1) (va_cwU 1 hts (gU t_479 t_481 t_483 t_480 t_57 t_484) rfl rfl rfl rfl hd_Bits_takeBits.2 ⟨Nat.le_trans (Nat.le_of_ble_eq_true rfl) hRf, Nat.le_trans (Nat.le_of_ble_eq_true rfl) hRl⟩) ⟨kP_blind, va_recv hK hP (ci := 2) (q0 := 0) rfl rfl, kP_at hPc hK hDc hN⟩ rfl rfl hl.1 rfl (lv_room (Nat.le_of_ble_eq_true rfl)) d_Bits_takeNumber_35 hRc) hS (fun q _ h => hFc q h) hFc (fun r9 u t H1 locs ht hvm hw hB hz1 hk1 hS => ?_)
    rw [hw]
    obtain ⟨hP, hD⟩ := kQ_join (wr := ([] : va_W)) (w1 := (wPb cI cZ cJ pb_a lk_w v_a pb_15 ++ wBr cI cZ cJ v_a v_b v_16)) hP hD [0, 1, 2] [] rfl rfl (by decide) (by decide) ht hk1 hFc hB
    generalize H1 = H at hP hS ⊢
    have hP : va_P (dC, dI) vwCl (wPb cI cZ cJ pb_a lk_w v_a pb_15 ++ wBr cI cZ cJ v_a v_b v_16) H := hP.sub [0, 1, 2] rfl
    have hD : va_D A (wPb cI cZ cJ pb_a lk_w v_a pb_15 ++ wBr cI cZ cJ v_a v_b v_16) := hD.sub [0, 1, 2] (by decide) rfl
    refine lv_ior hx hb d_Bits_takeNumber_38 ?_
    refine lv_iconst (v := 1) hx hb d_Bits_takeNumber_39 (by decide) ?_
    refine lv_isub hx hb d_Bits_takeNumber_40 ?_
    exact hr41 _ _ _ ((((1 : Int32) <<< (x1_12 &&& 31)) ||| r_14) - 1) pb_15 v_16 hP hD hS hf
  · rw [if_neg c_13] at hf
    refine lv_iconst (v := (-1)) hx hb d_Bits_takeNumber_28 (by decide) ?_
    exact hr29 _ _ _ (-1) pb_10 v_11 hP hD hS hf
end
set_option maxHeartbeats 4000000 in
set_option maxRecDepth 100000 in
theorem k_P_Bits_takeNumber (l : Launch) (dC : Nat → ClassId) (dI : Nat → Nat → Nat) (cI cZ cJ : ClassId) (pb_a : Nat → Nat) (v_a v_b : Nat) (lk_w : Nat) (sz : Nat) {pb : Pb} {v : Br} {r : Int32} {pb' : Pb} {v' : Br} (hf : f_P_Bits_takeNumber pb v = some (r, pb', v')) :
    Met l y_Bits_takeNumber ws_Bits_takeNumber ({ frames := 3, cells := 0, slots := 0, locals := 65 }) (va_Pc [.ref (pb_a 0)] (kP (dC, dI) vwCl (TYS cI cZ cJ) (wPb cI cZ cJ pb_a lk_w v_a pb ++ wBr cI cZ cJ v_a v_b v) sz)) (va_Qi (fun (q : Int32) (_ : Unit) => q = r) (fun _ t => kQ (dC, dI) vwCl (TYS cI cZ cJ) (wPb cI cZ cJ pb_a lk_w v_a pb ++ wBr cI cZ cJ v_a v_b v) sz (wPb cI cZ cJ pb_a lk_w v_a pb' ++ wBr cI cZ cJ v_a v_b v') t) (va_A (wPb cI cZ cJ pb_a lk_w v_a pb ++ wBr cI cZ cJ v_a v_b v) sz)) 0 0 (va_A (wPb cI cZ cJ pb_a lk_w v_a pb ++ wBr cI cZ cJ v_a v_b v) sz) := by
  refine Met.ofW (cc := c_Bits_takeNumber) (maxL := 2) (ret := (some .int)) (by decide) rfl ?_
  intro p e s m args below meth c s₁ B hml hv
  obtain ⟨rfl, hsz, hP, hK, hD0, hN⟩ := hv
  have hr := B.returns
  have hlocks := B.notSynchronized
  subst hsz
  have hD := hD0.self (sz := s.heap.size)
  have hl := lv_entry ([.ref (pb_a 0)]) (n := 2) (Nat.le_of_ble_eq_true rfl)
  rw [lg_entry_eq]
  generalize (lg_sl ([.ref (pb_a 0)]) ++ List.replicate (2 - (lg_sl ([.ref (pb_a 0)])).length) Slot.unset).toArray = ls at hl ⊢
  refine B_P_Bits_takeNumber (A := va_A (wPb cI cZ cJ pb_a lk_w v_a pb ++ wBr cI cZ cJ v_a v_b v) s.heap.size) ⟨B.exec, B.bytes, hml, findClass_of_methodNamed B.named, fun w h => atoms_spec (ws := ws_Bits_takeNumber) B.pre w (List.mem_cons_of_mem _ h), hK, fun q h => Or.inr h, Nat.le_of_ble_eq_true rfl, Nat.le_of_ble_eq_true rfl, hN, Nat.le_of_ble_eq_true rfl, Nat.le_of_ble_eq_true rfl⟩ (fun H locs ls v pb'1 v'1 hP hD hS hf => ?_) (fun H locs ls v pb'1 v'1 hP hD hS hf => ?_) hP hD va_S.rf hl hf
  · cases hf
    exact W.iret B.exec B.bytes hr (fun t ht hW => ⟨⟨_, (), rfl, rfl, ⟨by rw [ht]; exact hP, va_K.moved hW.alike hK, hD⟩⟩, hS.F ht⟩) hS.2.2 d_Bits_takeNumber_29
  · cases hf
    exact W.iret B.exec B.bytes hr (fun t ht hW => ⟨⟨_, (), rfl, rfl, ⟨by rw [ht]; exact hP, va_K.moved hW.alike hK, hD⟩⟩, hS.F ht⟩) hS.2.2 d_Bits_takeNumber_41

/-! C_Bits_takeBits -/
def l_C_Bits_takeBits_4 (x1 : Int32) (k25 : Cb → Br → Int32 → Option (Int32 × Cb × Br)) : Nat → Cb → Br → Int32 → Int32 → Option (Int32 × Cb × Br)
  | 0, _, _, _, _ => none
  | n + 1, cb, v, x2, x3 => (if x1 ≤ x3 then k25 cb v x2 else bd (f_C_ChanceBits_takeBit cb v (-1)) <| fun (r_5, cb_6, v_7) => lt' ((x2 <<< ((1 : Int32) &&& 31)) ||| r_5) <| fun x2_8 => lt' (x3 + 1) <| fun x3_9 => (l_C_Bits_takeBits_4 x1 k25 n) cb_6 v_7 x2_8 x3_9)
def f_C_Bits_takeBits (cb : Cb) (v : Br) (x1 : Int32) : Option (Int32 × Cb × Br) := l_C_Bits_takeBits_4 x1 (fun cb_10 v_11 x2_12 => some (x2_12, cb_10, v_11)) 100000 cb v 0 0
section
variable {p : Program} {l : Launch} {e : Env} {R : Room} {s : State} {m : MethodId} {args : Array Value} {below : List Frame} {meth : Method} {c : Code} {Q : State → Prop} {A : Nat → Prop}
set_option maxHeartbeats 4000000 in
set_option maxRecDepth 100000 in
theorem L_C_Bits_takeBits_4 {cells slots : Nat} {dC : Nat → ClassId} {dI : Nat → Nat → Nat} {cI cZ cJ : ClassId} {cb_a : Nat → Nat} {v_a v_b : Nat} {lk_w : Nat} {x1 : Int32} {k25 : Cb → Br → Int32 → Option (Int32 × Cb × Br)} {res : Int32 × Cb × Br} (C0 : cxt p c m s args R cells slots R_Bits c_Bits_takeBits tb 4 (dC, dI) vwCl (TYS cI cZ cJ) A 3 68)
    (hk25 : ∀ (H : Heap) (locs : List Loc) (ls : Array Slot) (cb_1 : Cb) (v_2 : Br) (x2_3 : Int32), va_P (dC, dI) vwCl (wCb cI cZ cJ cb_a lk_w v_a cb_1 ++ wBr cI cZ cJ v_a v_b v_2) H → va_D A (wCb cI cZ cJ cb_a lk_w v_a cb_1 ++ wBr cI cZ cJ v_a v_b v_2) → va_S A s.heap H locs → lv_has ls 4 [(2, .int x2_3)] → k25 cb_1 v_2 x2_3 = some res → W p l e R s m args below meth c H locs cells slots Q (F0 m 25 ls [])) :
    ∀ (n : Nat) (H : Heap) (locs : List Loc) (ls : Array Slot) (cb : Cb) (v : Br) (x2 : Int32) (x3 : Int32), va_P (dC, dI) vwCl (wCb cI cZ cJ cb_a lk_w v_a cb ++ wBr cI cZ cJ v_a v_b v) H → va_D A (wCb cI cZ cJ cb_a lk_w v_a cb ++ wBr cI cZ cJ v_a v_b v) → va_S A s.heap H locs → lv_has ls 4 [(0, .ref (cb_a 0)), (1, .int x1), (2, .int x2), (3, .int x3)] → l_C_Bits_takeBits_4 x1 k25 n cb v x2 x3 = some res → W p l e R s m args below meth c H locs cells slots Q (F0 m 4 ls []) := by
  obtain ⟨hx, hb, hml, hown, hts, hK, hA, hRf, hRl, hN, hRc⟩ := id C0
  intro n
  induction n with
  | zero =>
    intro H locs ls cb v x2 x3 hP hD hS hl hf
    exact absurd hf (by simp [l_C_Bits_takeBits_4])
  | succ n ih =>
    intro H locs ls cb v x2 x3 hP hD hS hl hf
    rw [l_C_Bits_takeBits_4] at hf
    refine lv_iload_n hx hb d_Bits_takeBits_4 rfl (lv_at hl 3 rfl) ?_
    refine lv_iload_n hx hb d_Bits_takeBits_5 rfl (lv_at hl 1 rfl) ?_
    refine lv_icmp_ge (tgt := 25) hx hb d_Bits_takeBits_6 (by decide) (fun c_4 => ?_) (fun c_4 => ?_)
    · rw [if_pos c_4] at hf
      exact hk25 _ _ _ cb v x2 hP hD hS (lv_sub hl [2] rfl) hf
    · rw [if_neg c_4] at hf
      refine lv_iload_n hx hb d_Bits_takeBits_9 rfl (lv_at hl 2 rfl) ?_
      refine lv_iconst (v := 1) hx hb d_Bits_takeBits_10 (by decide) ?_
      refine lv_ishl hx hb d_Bits_takeBits_11 ?_
      refine lv_aload_n hx hb d_Bits_takeBits_12 rfl (lv_at hl 0 rfl) ?_
      refine lv_iconst (v := (-1)) hx hb d_Bits_takeBits_13 (by decide) ?_
      obtain ⟨⟨r_5, cb_6, v_7⟩, hf1, hf⟩ := bd_ex hf
      try dsimp only at hf
      have hPc := hP.sub (ws' := (wCb cI cZ cJ cb_a lk_w v_a cb ++ wBr cI cZ cJ v_a v_b v)) [0, 1, 2, 3] rfl
      have hDc := hD.sub (ws' := (wCb cI cZ cJ cb_a lk_w v_a cb ++ wBr cI cZ cJ v_a v_b v)) [0, 1, 2, 3] (by decide) rfl
      have hFc := va_free (wc := (wCb cI cZ cJ cb_a lk_w v_a cb ++ wBr cI cZ cJ v_a v_b v)) hD hS hA [0, 1, 2, 3] rfl
      refine va_calli (va_runU (As := [.int (-1)]) (rest := [.int (x2 <<< ((1 : Int32) &&& 31))]) ⟨hx, hb, hml, hown, hts⟩ (k_C_ChanceBits_takeBit l dC dI cI cZ cJ cb_a v_a v_b lk_w H.size hf1) (va_cwA 1 hts (gU t_469 t_471 t_472 t_473 t_58 t_474) rfl rfl rfl (hN.2 _ (by decide +kernel)) hdx_Bits_takeBit ⟨Nat.le_trans (Nat.le_of_ble_eq_true rfl) hRf, Nat.le_trans (Nat.le_of_ble_eq_true rfl) hRl⟩) ⟨kP_blind, va_recv hK hP (ci := 3) (q0 := 0) rfl rfl, kP_at hPc hK hDc hN⟩ rfl rfl hl.1 rfl (lv_room (Nat.le_of_ble_eq_true rfl)) d_Bits_takeBits_14 hRc) hS (fun q _ h => hFc q h) hFc (fun r9 u t H1 locs ht hvm hw hB hz1 hk1 hS => ?_)
      rw [hw]
      obtain ⟨hP, hD⟩ := kQ_join (wr := ([] : va_W)) (w1 := (wCb cI cZ cJ cb_a lk_w v_a cb_6 ++ wBr cI cZ cJ v_a v_b v_7)) hP hD [0, 1, 2, 3] [] rfl rfl (by decide) (by decide) ht hk1 hFc hB
      generalize H1 = H at hP hS ⊢
      have hP : va_P (dC, dI) vwCl (wCb cI cZ cJ cb_a lk_w v_a cb_6 ++ wBr cI cZ cJ v_a v_b v_7) H := hP.sub [0, 1, 2, 3] rfl
      have hD : va_D A (wCb cI cZ cJ cb_a lk_w v_a cb_6 ++ wBr cI cZ cJ v_a v_b v_7) := hD.sub [0, 1, 2, 3] (by decide) rfl
      refine lv_ior hx hb d_Bits_takeBits_17 ?_
      obtain ⟨x2_8, ex2_8, hf⟩ := lt_ex hf
      try dsimp only at hf
      refine tp_i ex2_8 ?_
      refine lv_istore_n (lv' := [(2, .int x2_8), (0, .ref (cb_a 0)), (1, .int x1), (3, .int x3)]) hx hb d_Bits_takeBits_18 rfl hl (by decide) rfl (fun ls hl => ?_)
      obtain ⟨x3_9, ex3_9, hf⟩ := lt_ex hf
      try dsimp only at hf
      refine lv_iinc (v := x3_9) (lv' := [(3, .int x3_9), (2, .int x2_8), (0, .ref (cb_a 0)), (1, .int x1)]) hx hb d_Bits_takeBits_19 hl (k := 3) rfl (by rw [ex3_9]; rfl) (by decide) rfl (fun ls hl => ?_)
      refine lv_goto (tgt := 4) hx hb d_Bits_takeBits_22 (by decide) ?_
      exact ih _ _ _ cb_6 v_7 x2_8 x3_9 hP hD hS (lv_sub hl [2, 3, 1, 0] rfl) hf
set_option maxHeartbeats 4000000 in
set_option maxRecDepth 100000 in
theorem B_C_Bits_takeBits {cells slots : Nat} {dC : Nat → ClassId} {dI : Nat → Nat → Nat} {cI cZ cJ : ClassId} {cb_a : Nat → Nat} {v_a v_b : Nat} {lk_w : Nat} {cb : Cb} {v : Br} {x1 : Int32} {res : Int32 × Cb × Br} (C0 : cxt p c m s args R cells slots R_Bits c_Bits_takeBits tb 4 (dC, dI) vwCl (TYS cI cZ cJ) A 3 68)
    (hr26 : ∀ (H : Heap) (locs : List Loc) (ls : Array Slot) (v : Int32) (cb' : Cb) (v' : Br), va_P (dC, dI) vwCl (wCb cI cZ cJ cb_a lk_w v_a cb' ++ wBr cI cZ cJ v_a v_b v') H → va_D A (wCb cI cZ cJ cb_a lk_w v_a cb' ++ wBr cI cZ cJ v_a v_b v') → va_S A s.heap H locs → some (v, cb', v') = some res → W p l e R s m args below meth c H locs cells slots Q (F0 m 26 ls [.int v]))
    {H : Heap} {locs : List Loc} {ls : Array Slot} (hP : va_P (dC, dI) vwCl (wCb cI cZ cJ cb_a lk_w v_a cb ++ wBr cI cZ cJ v_a v_b v) H) (hD : va_D A (wCb cI cZ cJ cb_a lk_w v_a cb ++ wBr cI cZ cJ v_a v_b v)) (hS : va_S A s.heap H locs) (hl : lv_has ls 4 [(0, .ref (cb_a 0)), (1, .int x1)]) (hf : f_C_Bits_takeBits cb v x1 = some res) : W p l e R s m args below meth c H locs cells slots Q (F0 m 0 ls []) := by
  obtain ⟨hx, hb, hml, hown, hts, hK, hA, hRf, hRl, hN, hRc⟩ := id C0
  rw [f_C_Bits_takeBits] at hf
  refine lv_iconst (v := 0) hx hb d_Bits_takeBits_0 (by decide) ?_
  refine lv_istore_n (lv' := [(2, .int 0), (0, .ref (cb_a 0)), (1, .int x1)]) hx hb d_Bits_takeBits_1 rfl hl (by decide) rfl (fun ls hl => ?_)
  refine lv_iconst (v := 0) hx hb d_Bits_takeBits_2 (by decide) ?_
  refine lv_istore_n (lv' := [(3, .int 0), (2, .int 0), (0, .ref (cb_a 0)), (1, .int x1)]) hx hb d_Bits_takeBits_3 rfl hl (by decide) rfl (fun ls hl => ?_)
  refine L_C_Bits_takeBits_4 C0 (fun H locs ls cb_10 v_11 x2_12 hP hD hS hl hf => ?_) 100000 _ _ _ cb v 0 0 hP hD hS (lv_sub hl [2, 3, 1, 0] rfl) hf
  try dsimp only at hf
  refine lv_iload_n hx hb d_Bits_takeBits_25 rfl (lv_at hl 0 rfl) ?_
  exact hr26 _ _ _ x2_12 cb_10 v_11 hP hD hS hf
end
set_option maxHeartbeats 4000000 in
set_option maxRecDepth 100000 in
theorem k_C_Bits_takeBits (l : Launch) (dC : Nat → ClassId) (dI : Nat → Nat → Nat) (cI cZ cJ : ClassId) (cb_a : Nat → Nat) (v_a v_b : Nat) (lk_w : Nat) (sz : Nat) {cb : Cb} {v : Br} {x1 : Int32} {r : Int32} {cb' : Cb} {v' : Br} (hf : f_C_Bits_takeBits cb v x1 = some (r, cb', v')) :
    Met l y_Bits_takeBits ws_Bits_takeBits ({ frames := 3, cells := 0, slots := 0, locals := 68 }) (va_Pc [.ref (cb_a 0), .int x1] (kP (dC, dI) vwCl (TYS cI cZ cJ) (wCb cI cZ cJ cb_a lk_w v_a cb ++ wBr cI cZ cJ v_a v_b v) sz)) (va_Qi (fun (q : Int32) (_ : Unit) => q = r) (fun _ t => kQ (dC, dI) vwCl (TYS cI cZ cJ) (wCb cI cZ cJ cb_a lk_w v_a cb ++ wBr cI cZ cJ v_a v_b v) sz (wCb cI cZ cJ cb_a lk_w v_a cb' ++ wBr cI cZ cJ v_a v_b v') t) (va_A (wCb cI cZ cJ cb_a lk_w v_a cb ++ wBr cI cZ cJ v_a v_b v) sz)) 0 0 (va_A (wCb cI cZ cJ cb_a lk_w v_a cb ++ wBr cI cZ cJ v_a v_b v) sz) := by
  refine Met.ofW (cc := c_Bits_takeBits) (maxL := 4) (ret := (some .int)) (by decide) rfl ?_
  intro p e s m args below meth c s₁ B hml hv
  obtain ⟨rfl, hsz, hP, hK, hD0, hN⟩ := hv
  have hr := B.returns
  have hlocks := B.notSynchronized
  subst hsz
  have hD := hD0.self (sz := s.heap.size)
  have hl := lv_entry ([.ref (cb_a 0), .int x1]) (n := 4) (Nat.le_of_ble_eq_true rfl)
  rw [lg_entry_eq]
  generalize (lg_sl ([.ref (cb_a 0), .int x1]) ++ List.replicate (4 - (lg_sl ([.ref (cb_a 0), .int x1])).length) Slot.unset).toArray = ls at hl ⊢
  refine B_C_Bits_takeBits (A := va_A (wCb cI cZ cJ cb_a lk_w v_a cb ++ wBr cI cZ cJ v_a v_b v) s.heap.size) ⟨B.exec, B.bytes, hml, findClass_of_methodNamed B.named, fun w h => atoms_spec (ws := ws_Bits_takeBits) B.pre w (List.mem_cons_of_mem _ h), hK, fun q h => Or.inr h, Nat.le_of_ble_eq_true rfl, Nat.le_of_ble_eq_true rfl, hN, Nat.le_of_ble_eq_true rfl, Nat.le_of_ble_eq_true rfl⟩ (fun H locs ls v cb'1 v'1 hP hD hS hf => ?_) hP hD va_S.rf hl hf
  · cases hf
    exact W.iret B.exec B.bytes hr (fun t ht hW => ⟨⟨_, (), rfl, rfl, ⟨by rw [ht]; exact hP, va_K.moved hW.alike hK, hD⟩⟩, hS.F ht⟩) hS.2.2 d_Bits_takeBits_26

/-! C_Bits_takeNumber -/
def l_C_Bits_takeNumber_2 (k22 : Cb → Br → Int32 → Option (Int32 × Cb × Br)) : Nat → Cb → Br → Int32 → Option (Int32 × Cb × Br)
  | 0, _, _, _ => none
  | n + 1, cb, v, x1 => (if 8 < x1 then k22 cb v x1 else bd (f_C_ChanceBits_takeBit cb v (-1)) <| fun (r_5, cb_6, v_7) => (if r_5 = 0 then lt' (x1 + 1) <| fun x1_9 => (l_C_Bits_takeNumber_2 k22 n) cb_6 v_7 x1_9 else k22 cb_6 v_7 x1))
def f_C_Bits_takeNumber (cb : Cb) (v : Br) : Option (Int32 × Cb × Br) := l_C_Bits_takeNumber_2 (fun cb_10 v_11 x1_12 => (if x1_12 ≤ 8 then bd (f_C_Bits_takeBits cb_10 v_11 x1_12) <| fun (r_14, cb_15, v_16) => some ((((1 : Int32) <<< (x1_12 &&& 31)) ||| r_14) - 1, cb_15, v_16) else some ((-1), cb_10, v_11))) 100000 cb v 0
section
variable {p : Program} {l : Launch} {e : Env} {R : Room} {s : State} {m : MethodId} {args : Array Value} {below : List Frame} {meth : Method} {c : Code} {Q : State → Prop} {A : Nat → Prop}
set_option maxHeartbeats 4000000 in
set_option maxRecDepth 100000 in
theorem L_C_Bits_takeNumber_2 {cells slots : Nat} {dC : Nat → ClassId} {dI : Nat → Nat → Nat} {cI cZ cJ : ClassId} {cb_a : Nat → Nat} {v_a v_b : Nat} {lk_w : Nat} {k22 : Cb → Br → Int32 → Option (Int32 × Cb × Br)} {res : Int32 × Cb × Br} (C0 : cxt p c m s args R cells slots R_Bits c_Bits_takeNumber tb 2 (dC, dI) vwCl (TYS cI cZ cJ) A 4 91)
    (hk22 : ∀ (H : Heap) (locs : List Loc) (ls : Array Slot) (cb_1 : Cb) (v_2 : Br) (x1_3 : Int32), va_P (dC, dI) vwCl (wCb cI cZ cJ cb_a lk_w v_a cb_1 ++ wBr cI cZ cJ v_a v_b v_2) H → va_D A (wCb cI cZ cJ cb_a lk_w v_a cb_1 ++ wBr cI cZ cJ v_a v_b v_2) → va_S A s.heap H locs → lv_has ls 2 [(0, .ref (cb_a 0)), (1, .int x1_3)] → k22 cb_1 v_2 x1_3 = some res → W p l e R s m args below meth c H locs cells slots Q (F0 m 22 ls [])) :
    ∀ (n : Nat) (H : Heap) (locs : List Loc) (ls : Array Slot) (cb : Cb) (v : Br) (x1 : Int32), va_P (dC, dI) vwCl (wCb cI cZ cJ cb_a lk_w v_a cb ++ wBr cI cZ cJ v_a v_b v) H → va_D A (wCb cI cZ cJ cb_a lk_w v_a cb ++ wBr cI cZ cJ v_a v_b v) → va_S A s.heap H locs → lv_has ls 2 [(0, .ref (cb_a 0)), (1, .int x1)] → l_C_Bits_takeNumber_2 k22 n cb v x1 = some res → W p l e R s m args below meth c H locs cells slots Q (F0 m 2 ls []) := by
  obtain ⟨hx, hb, hml, hown, hts, hK, hA, hRf, hRl, hN, hRc⟩ := id C0
  intro n
  induction n with
  | zero =>
    intro H locs ls cb v x1 hP hD hS hl hf
    exact absurd hf (by simp [l_C_Bits_takeNumber_2])
  | succ n ih =>
    intro H locs ls cb v x1 hP hD hS hl hf
    rw [l_C_Bits_takeNumber_2] at hf
    refine lv_iload_n hx hb d_Bits_takeNumber_2 rfl (lv_at hl 1 rfl) ?_
    refine lv_bipush (v := 8) hx hb d_Bits_takeNumber_3 (by decide) ?_
    refine lv_icmp_gt (tgt := 22) hx hb d_Bits_takeNumber_5 (by decide) (fun c_4 => ?_) (fun c_4 => ?_)
    · rw [if_pos c_4] at hf
      exact hk22 _ _ _ cb v x1 hP hD hS (lv_sub hl [0, 1] rfl) hf
    · rw [if_neg c_4] at hf
      refine lv_aload_n hx hb d_Bits_takeNumber_8 rfl (lv_at hl 0 rfl) ?_
      refine lv_iconst (v := (-1)) hx hb d_Bits_takeNumber_9 (by decide) ?_
      obtain ⟨⟨r_5, cb_6, v_7⟩, hf1, hf⟩ := bd_ex hf
      try dsimp only at hf
      have hPc := hP.sub (ws' := (wCb cI cZ cJ cb_a lk_w v_a cb ++ wBr cI cZ cJ v_a v_b v)) [0, 1, 2, 3] rfl
      have hDc := hD.sub (ws' := (wCb cI cZ cJ cb_a lk_w v_a cb ++ wBr cI cZ cJ v_a v_b v)) [0, 1, 2, 3] (by decide) rfl
      have hFc := va_free (wc := (wCb cI cZ cJ cb_a lk_w v_a cb ++ wBr cI cZ cJ v_a v_b v)) hD hS hA [0, 1, 2, 3] rfl
      refine va_calli (va_runU (As := [.int (-1)]) (rest := []) ⟨hx, hb, hml, hown, hts⟩ (k_C_ChanceBits_takeBit l dC dI cI cZ cJ cb_a v_a v_b lk_w H.size hf1) (va_cwA 1 hts (gU t_469 t_471 t_472 t_473 t_58 t_474) rfl rfl rfl (hN.2 _ (by decide +kernel)) hdx_Bits_takeBit ⟨Nat.le_trans (Nat.le_of_ble_eq_true rfl) hRf, Nat.le_trans (Nat.le_of_ble_eq_true rfl) hRl⟩) ⟨kP_blind, va_recv hK hP (ci := 3) (q0 := 0) rfl rfl, kP_at hPc hK hDc hN⟩ rfl rfl hl.1 rfl (lv_room (Nat.le_of_ble_eq_true rfl)) d_Bits_takeNumber_10 hRc) hS (fun q _ h => hFc q h) hFc (fun r9 u t H1 locs ht hvm hw hB hz1 hk1 hS => ?_)
      rw [hw]
      obtain ⟨hP, hD⟩ := kQ_join (wr := ([] : va_W)) (w1 := (wCb cI cZ cJ cb_a lk_w v_a cb_6 ++ wBr cI cZ cJ v_a v_b v_7)) hP hD [0, 1, 2, 3] [] rfl rfl (by decide) (by decide) ht hk1 hFc hB
      generalize H1 = H at hP hS ⊢
      have hP : va_P (dC, dI) vwCl (wCb cI cZ cJ cb_a lk_w v_a cb_6 ++ wBr cI cZ cJ v_a v_b v_7) H := hP.sub [0, 1, 2, 3] rfl
      have hD : va_D A (wCb cI cZ cJ cb_a lk_w v_a cb_6 ++ wBr cI cZ cJ v_a v_b v_7) := hD.sub [0, 1, 2, 3] (by decide) rfl
      refine lv_if_ne (tgt := 22) hx hb d_Bits_takeNumber_13 (by decide) (fun c_8 => ?_) (fun c_8 => ?_)
      · rw [if_neg c_8] at hf
        exact hk22 _ _ _ cb_6 v_7 x1 hP hD hS (lv_sub hl [0, 1] rfl) hf
      · rw [if_pos c_8] at hf
        obtain ⟨x1_9, ex1_9, hf⟩ := lt_ex hf
        try dsimp only at hf
        refine lv_iinc (v := x1_9) (lv' := [(1, .int x1_9), (0, .ref (cb_a 0))]) hx hb d_Bits_takeNumber_16 hl (k := 1) rfl (by rw [ex1_9]; rfl) (by decide) rfl (fun ls hl => ?_)
        refine lv_goto (tgt := 2) hx hb d_Bits_takeNumber_19 (by decide) ?_
        exact ih _ _ _ cb_6 v_7 x1_9 hP hD hS (lv_sub hl [1, 0] rfl) hf
set_option maxHeartbeats 4000000 in
set_option maxRecDepth 100000 in
theorem B_C_Bits_takeNumber {cells slots : Nat} {dC : Nat → ClassId} {dI : Nat → Nat → Nat} {cI cZ cJ : ClassId} {cb_a : Nat → Nat} {v_a v_b : Nat} {lk_w : Nat} {cb : Cb} {v : Br} {res : Int32 × Cb × Br} (C0 : cxt p c m s args R cells slots R_Bits c_Bits_takeNumber tb 2 (dC, dI) vwCl (TYS cI cZ cJ) A 4 91)
    (hr29 : ∀ (H : Heap) (locs : List Loc) (ls : Array Slot) (v : Int32) (cb' : Cb) (v' : Br), va_P (dC, dI) vwCl (wCb cI cZ cJ cb_a lk_w v_a cb' ++ wBr cI cZ cJ v_a v_b v') H → va_D A (wCb cI cZ cJ cb_a lk_w v_a cb' ++ wBr cI cZ cJ v_a v_b v') → va_S A s.heap H locs → some (v, cb', v') = some res → W p l e R s m args below meth c H locs cells slots Q (F0 m 29 ls [.int v]))
    (hr41 : ∀ (H : Heap) (locs : List Loc) (ls : Array Slot) (v : Int32) (cb' : Cb) (v' : Br), va_P (dC, dI) vwCl (wCb cI cZ cJ cb_a lk_w v_a cb' ++ wBr cI cZ cJ v_a v_b v') H → va_D A (wCb cI cZ cJ cb_a lk_w v_a cb' ++ wBr cI cZ cJ v_a v_b v') → va_S A s.heap H locs → some (v, cb', v') = some res → W p l e R s m args below meth c H locs cells slots Q (F0 m 41 ls [.int v]))
    {H : Heap} {locs : List Loc} {ls : Array Slot} (hP : va_P (dC, dI) vwCl (wCb cI cZ cJ cb_a lk_w v_a cb ++ wBr cI cZ cJ v_a v_b v) H) (hD : va_D A (wCb cI cZ cJ cb_a lk_w v_a cb ++ wBr cI cZ cJ v_a v_b v)) (hS : va_S A s.heap H locs) (hl : lv_has ls 2 [(0, .ref (cb_a 0))]) (hf : f_C_Bits_takeNumber cb v = some res) : W p l e R s m args below meth c H locs cells slots Q (F0 m 0 ls []) := by
  obtain ⟨hx, hb, hml, hown, hts, hK, hA, hRf, hRl, hN, hRc⟩ := id C0
  rw [f_C_Bits_takeNumber] at hf
  refine lv_iconst (v := 0) hx hb d_Bits_takeNumber_0 (by decide) ?_
  refine lv_istore_n (lv' := [(1, .int 0), (0, .ref (cb_a 0))]) hx hb d_Bits_takeNumber_1 rfl hl (by decide) rfl (fun ls hl => ?_)
  refine L_C_Bits_takeNumber_2 C0 (fun H locs ls cb_10 v_11 x1_12 hP hD hS hl hf => ?_) 100000 _ _ _ cb v 0 hP hD hS (lv_sub hl [1, 0] rfl) hf
  try dsimp only at hf
  refine lv_iload_n hx hb d_Bits_takeNumber_22 rfl (lv_at hl 1 rfl) ?_
  refine lv_bipush (v := 8) hx hb d_Bits_takeNumber_23 (by decide) ?_
  refine lv_icmp_le (tgt := 30) hx hb d_Bits_takeNumber_25 (by decide) (fun c_13 => ?_) (fun c_13 => ?_)
  · rw [if_pos c_13] at hf
    refine lv_iconst (v := 1) hx hb d_Bits_takeNumber_30 (by decide) ?_
    refine lv_iload_n hx hb d_Bits_takeNumber_31 rfl (lv_at hl 1 rfl) ?_
    refine lv_ishl hx hb d_Bits_takeNumber_32 ?_
    refine lv_aload_n hx hb d_Bits_takeNumber_33 rfl (lv_at hl 0 rfl) ?_
    refine lv_iload_n hx hb d_Bits_takeNumber_34 rfl (lv_at hl 1 rfl) ?_
    obtain ⟨⟨r_14, cb_15, v_16⟩, hf1, hf⟩ := bd_ex hf
    try dsimp only at hf
    have hPc := hP.sub (ws' := (wCb cI cZ cJ cb_a lk_w v_a cb_10 ++ wBr cI cZ cJ v_a v_b v_11)) [0, 1, 2, 3] rfl
    have hDc := hD.sub (ws' := (wCb cI cZ cJ cb_a lk_w v_a cb_10 ++ wBr cI cZ cJ v_a v_b v_11)) [0, 1, 2, 3] (by decide) rfl
    have hFc := va_free (wc := (wCb cI cZ cJ cb_a lk_w v_a cb_10 ++ wBr cI cZ cJ v_a v_b v_11)) hD hS hA [0, 1, 2, 3] rfl
    refine va_calli (va_runU (As := [.int x1_12]) (rest := [.int ((1 : Int32) <<< (x1_12 &&& 31))]) ⟨hx, hb, hml, hown, hts⟩ (k_C_Bits_takeBits l dC dI cI cZ cJ cb_a v_a v_b lk_w H.size hf1) (va_cwU 1 hts (gU t_479 t_481 t_482 t_480 t_57 t_484) rfl rfl rfl rfl hd_Bits_takeBits.2 ⟨Nat.le_trans (Nat.le_of_ble_eq_true rfl) hRf, Nat.le_trans (Nat.le_of_ble_eq_true rfl) hRl⟩) ⟨kP_blind, va_recv hK hP (ci := 3) (q0 := 0) rfl rfl, kP_at hPc hK hDc hN⟩ rfl rfl hl.1 rfl (lv_room (Nat.le_of_ble_eq_true rfl)) d_Bits_takeNumber_35 hRc) hS (fun q _ h => hFc q h) hFc (fun r9 u t H1 locs ht hvm hw hB hz1 hk1 hS => ?_)
    rw [hw]
    obtain ⟨hP, hD⟩ := kQ_join (wr := ([] : va_W)) (w1 := (wCb cI cZ cJ cb_a lk_w v_a cb_15 ++ wBr cI cZ cJ v_a v_b v_16)) hP hD [0, 1, 2, 3] [] rfl rfl (by decide) (by decide) ht hk1 hFc hB
    generalize H1 = H at hP hS ⊢
    have hP : va_P (dC, dI) vwCl (wCb cI cZ cJ cb_a lk_w v_a cb_15 ++ wBr cI cZ cJ v_a v_b v_16) H := hP.sub [0, 1, 2, 3] rfl
    have hD : va_D A (wCb cI cZ cJ cb_a lk_w v_a cb_15 ++ wBr cI cZ cJ v_a v_b v_16) := hD.sub [0, 1, 2, 3] (by decide) rfl
    refine lv_ior hx hb d_Bits_takeNumber_38 ?_
    refine lv_iconst (v := 1) hx hb d_Bits_takeNumber_39 (by decide) ?_
    refine lv_isub hx hb d_Bits_takeNumber_40 ?_
    exact hr41 _ _ _ ((((1 : Int32) <<< (x1_12 &&& 31)) ||| r_14) - 1) cb_15 v_16 hP hD hS hf
  · rw [if_neg c_13] at hf
    refine lv_iconst (v := (-1)) hx hb d_Bits_takeNumber_28 (by decide) ?_
    exact hr29 _ _ _ (-1) cb_10 v_11 hP hD hS hf
end
set_option maxHeartbeats 4000000 in
set_option maxRecDepth 100000 in
theorem k_C_Bits_takeNumber (l : Launch) (dC : Nat → ClassId) (dI : Nat → Nat → Nat) (cI cZ cJ : ClassId) (cb_a : Nat → Nat) (v_a v_b : Nat) (lk_w : Nat) (sz : Nat) {cb : Cb} {v : Br} {r : Int32} {cb' : Cb} {v' : Br} (hf : f_C_Bits_takeNumber cb v = some (r, cb', v')) :
    Met l y_Bits_takeNumber ws_Bits_takeNumber ({ frames := 4, cells := 0, slots := 0, locals := 91 }) (va_Pc [.ref (cb_a 0)] (kP (dC, dI) vwCl (TYS cI cZ cJ) (wCb cI cZ cJ cb_a lk_w v_a cb ++ wBr cI cZ cJ v_a v_b v) sz)) (va_Qi (fun (q : Int32) (_ : Unit) => q = r) (fun _ t => kQ (dC, dI) vwCl (TYS cI cZ cJ) (wCb cI cZ cJ cb_a lk_w v_a cb ++ wBr cI cZ cJ v_a v_b v) sz (wCb cI cZ cJ cb_a lk_w v_a cb' ++ wBr cI cZ cJ v_a v_b v') t) (va_A (wCb cI cZ cJ cb_a lk_w v_a cb ++ wBr cI cZ cJ v_a v_b v) sz)) 0 0 (va_A (wCb cI cZ cJ cb_a lk_w v_a cb ++ wBr cI cZ cJ v_a v_b v) sz) := by
  refine Met.ofW (cc := c_Bits_takeNumber) (maxL := 2) (ret := (some .int)) (by decide) rfl ?_
  intro p e s m args below meth c s₁ B hml hv
  obtain ⟨rfl, hsz, hP, hK, hD0, hN⟩ := hv
  have hr := B.returns
  have hlocks := B.notSynchronized
  subst hsz
  have hD := hD0.self (sz := s.heap.size)
  have hl := lv_entry ([.ref (cb_a 0)]) (n := 2) (Nat.le_of_ble_eq_true rfl)
  rw [lg_entry_eq]
  generalize (lg_sl ([.ref (cb_a 0)]) ++ List.replicate (2 - (lg_sl ([.ref (cb_a 0)])).length) Slot.unset).toArray = ls at hl ⊢
  refine B_C_Bits_takeNumber (A := va_A (wCb cI cZ cJ cb_a lk_w v_a cb ++ wBr cI cZ cJ v_a v_b v) s.heap.size) ⟨B.exec, B.bytes, hml, findClass_of_methodNamed B.named, fun w h => atoms_spec (ws := ws_Bits_takeNumber) B.pre w (List.mem_cons_of_mem _ h), hK, fun q h => Or.inr h, Nat.le_of_ble_eq_true rfl, Nat.le_of_ble_eq_true rfl, hN, Nat.le_of_ble_eq_true rfl, Nat.le_of_ble_eq_true rfl⟩ (fun H locs ls v cb'1 v'1 hP hD hS hf => ?_) (fun H locs ls v cb'1 v'1 hP hD hS hf => ?_) hP hD va_S.rf hl hf
  · cases hf
    exact W.iret B.exec B.bytes hr (fun t ht hW => ⟨⟨_, (), rfl, rfl, ⟨by rw [ht]; exact hP, va_K.moved hW.alike hK, hD⟩⟩, hS.F ht⟩) hS.2.2 d_Bits_takeNumber_29
  · cases hf
    exact W.iret B.exec B.bytes hr (fun t ht hW => ⟨⟨_, (), rfl, rfl, ⟨by rw [ht]; exact hP, va_K.moved hW.alike hK, hD⟩⟩, hS.F ht⟩) hS.2.2 d_Bits_takeNumber_41

