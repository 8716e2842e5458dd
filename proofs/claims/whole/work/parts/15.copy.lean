theorem t_106 : (.arrayClass .int : Cond) ∈ tb := List.mem_filter.mpr ⟨List.mem_of_getElem? (i := 106) (by decide +kernel), by decide +kernel⟩
theorem t_367 : (.methodLink R_Arrays 304 y_Math_min : Cond) ∈ tb := List.mem_filter.mpr ⟨List.mem_of_getElem? (i := 367) (by decide +kernel), by decide +kernel⟩
theorem t_83 : (.static y_Math_min : Cond) ∈ tb := List.mem_filter.mpr ⟨List.mem_of_getElem? (i := 83) (by decide +kernel), by decide +kernel⟩
theorem t_55 : (.initialized R_Math : Cond) ∈ tb := List.mem_filter.mpr ⟨List.mem_of_getElem? (i := 55) (by decide +kernel), by decide +kernel⟩
theorem t_84 : (.code y_Math_min c_Math_min 2 (some .int) : Cond) ∈ tb := List.mem_filter.mpr ⟨List.mem_of_getElem? (i := 84) (by decide +kernel), by decide +kernel⟩
theorem t_368 : (.methodLink R_Arrays 150 ⟨"java/lang/System", "arraycopy", "(Ljava/lang/Object;ILjava/lang/Object;II)V"⟩ : Cond) ∈ tb := List.mem_filter.mpr ⟨List.mem_of_getElem? (i := 368) (by decide +kernel), by decide +kernel⟩
theorem t_370 : (.native ⟨"java/lang/System", "arraycopy", "(Ljava/lang/Object;ILjava/lang/Object;II)V"⟩ : Cond) ∈ tb := List.mem_filter.mpr ⟨List.mem_of_getElem? (i := 370) (by decide +kernel), by decide +kernel⟩
theorem t_369 : (.static ⟨"java/lang/System", "arraycopy", "(Ljava/lang/Object;ILjava/lang/Object;II)V"⟩ : Cond) ∈ tb := List.mem_filter.mpr ⟨List.mem_of_getElem? (i := 369) (by decide +kernel), by decide +kernel⟩
theorem t_73 : (.initialized R_System : Cond) ∈ tb := List.mem_filter.mpr ⟨List.mem_of_getElem? (i := 73) (by decide +kernel), by decide +kernel⟩
theorem t_357 : (.methodLink R_ByteRow 17 y_Arrays_copyOf : Cond) ∈ tb := List.mem_filter.mpr ⟨List.mem_of_getElem? (i := 357) (by decide +kernel), by decide +kernel⟩
theorem t_358 : (.static y_Arrays_copyOf : Cond) ∈ tb := List.mem_filter.mpr ⟨List.mem_of_getElem? (i := 358) (by decide +kernel), by decide +kernel⟩
theorem t_359 : (.code y_Arrays_copyOf c_Arrays_copyOf 3 (some (.array .int)) : Cond) ∈ tb := List.mem_filter.mpr ⟨List.mem_of_getElem? (i := 359) (by decide +kernel), by decide +kernel⟩
abbrev ws_Arrays_copyOf : List Cond := .code y_Arrays_copyOf c_Arrays_copyOf 3 (some (.array .int)) :: tb
theorem hd_Arrays_copyOf : y_Arrays_copyOf.cls = R_Arrays ∧ y_Arrays_copyOf.cls ≠ "java/lang/invoke/MethodHandle" ∧ y_Arrays_copyOf.cls ≠ "java/lang/invoke/VarHandle" ∧ (parseMethodDescriptor y_Arrays_copyOf.desc).map (fun d => d.parameters.length) = some 2 := by decide +kernel
theorem d_Arrays_copyOf_0 : decode c_Arrays_copyOf 0 = .ok (.iload_n 1, 1) := by decide +kernel
theorem d_Arrays_copyOf_1 : decode c_Arrays_copyOf 1 = .ok (.aload_n 0, 1) := by decide +kernel
theorem d_Arrays_copyOf_2 : decode c_Arrays_copyOf 2 = .ok (.arraylength, 1) := by decide +kernel
theorem d_Arrays_copyOf_3 : decode c_Arrays_copyOf 3 = .ok (.if_icmp .ne 11, 3) := by decide +kernel
theorem d_Arrays_copyOf_6 : decode c_Arrays_copyOf 6 = .ok (.aload_n 0, 1) := by decide +kernel
theorem d_Arrays_copyOf_7 : decode c_Arrays_copyOf 7 = .ok (.invokevirtual 316, 3) := by decide +kernel
theorem d_Arrays_copyOf_10 : decode c_Arrays_copyOf 10 = .ok (.checkcast 317, 3) := by decide +kernel
theorem d_Arrays_copyOf_13 : decode c_Arrays_copyOf 13 = .ok (.areturn, 1) := by decide +kernel
theorem d_Arrays_copyOf_14 : decode c_Arrays_copyOf 14 = .ok (.iload_n 1, 1) := by decide +kernel
theorem d_Arrays_copyOf_15 : decode c_Arrays_copyOf 15 = .ok (.newarray .int, 2) := by decide +kernel
theorem d_Arrays_copyOf_17 : decode c_Arrays_copyOf 17 = .ok (.astore_n 2, 1) := by decide +kernel
theorem d_Arrays_copyOf_18 : decode c_Arrays_copyOf 18 = .ok (.aload_n 0, 1) := by decide +kernel
theorem d_Arrays_copyOf_19 : decode c_Arrays_copyOf 19 = .ok (.iconst 0, 1) := by decide +kernel
theorem d_Arrays_copyOf_20 : decode c_Arrays_copyOf 20 = .ok (.aload_n 2, 1) := by decide +kernel
theorem d_Arrays_copyOf_21 : decode c_Arrays_copyOf 21 = .ok (.iconst 0, 1) := by decide +kernel
theorem d_Arrays_copyOf_22 : decode c_Arrays_copyOf 22 = .ok (.aload_n 0, 1) := by decide +kernel
theorem d_Arrays_copyOf_23 : decode c_Arrays_copyOf 23 = .ok (.arraylength, 1) := by decide +kernel
theorem d_Arrays_copyOf_24 : decode c_Arrays_copyOf 24 = .ok (.iload_n 1, 1) := by decide +kernel
theorem d_Arrays_copyOf_25 : decode c_Arrays_copyOf 25 = .ok (.invokestatic 304, 3) := by decide +kernel
theorem d_Arrays_copyOf_28 : decode c_Arrays_copyOf 28 = .ok (.invokestatic 150, 3) := by decide +kernel
theorem d_Arrays_copyOf_31 : decode c_Arrays_copyOf 31 = .ok (.aload_n 2, 1) := by decide +kernel
theorem d_Arrays_copyOf_32 : decode c_Arrays_copyOf 32 = .ok (.areturn, 1) := by decide +kernel
abbrev ws_ByteRow_add : List Cond := .code y_ByteRow_add c_ByteRow_add 2 none :: tb
theorem hd_ByteRow_add : y_ByteRow_add.cls = R_ByteRow ∧ y_ByteRow_add.cls ≠ "java/lang/invoke/MethodHandle" ∧ y_ByteRow_add.cls ≠ "java/lang/invoke/VarHandle" ∧ (parseMethodDescriptor y_ByteRow_add.desc).map (fun d => d.parameters.length) = some 1 := by decide +kernel
theorem d_ByteRow_add_0 : decode c_ByteRow_add 0 = .ok (.aload_n 0, 1) := by decide +kernel
theorem d_ByteRow_add_1 : decode c_ByteRow_add 1 = .ok (.getfield 13, 3) := by decide +kernel
theorem d_ByteRow_add_4 : decode c_ByteRow_add 4 = .ok (.aload_n 0, 1) := by decide +kernel
theorem d_ByteRow_add_5 : decode c_ByteRow_add 5 = .ok (.getfield 7, 3) := by decide +kernel
theorem d_ByteRow_add_8 : decode c_ByteRow_add 8 = .ok (.arraylength, 1) := by decide +kernel
theorem d_ByteRow_add_9 : decode c_ByteRow_add 9 = .ok (.if_icmp .lt 22, 3) := by decide +kernel
theorem d_ByteRow_add_12 : decode c_ByteRow_add 12 = .ok (.aload_n 0, 1) := by decide +kernel
theorem d_ByteRow_add_13 : decode c_ByteRow_add 13 = .ok (.aload_n 0, 1) := by decide +kernel
theorem d_ByteRow_add_14 : decode c_ByteRow_add 14 = .ok (.getfield 7, 3) := by decide +kernel
theorem d_ByteRow_add_17 : decode c_ByteRow_add 17 = .ok (.iconst 2, 1) := by decide +kernel
theorem d_ByteRow_add_18 : decode c_ByteRow_add 18 = .ok (.aload_n 0, 1) := by decide +kernel
theorem d_ByteRow_add_19 : decode c_ByteRow_add 19 = .ok (.getfield 13, 3) := by decide +kernel
theorem d_ByteRow_add_22 : decode c_ByteRow_add 22 = .ok (.imul, 1) := by decide +kernel
theorem d_ByteRow_add_23 : decode c_ByteRow_add 23 = .ok (.iconst 1, 1) := by decide +kernel
theorem d_ByteRow_add_24 : decode c_ByteRow_add 24 = .ok (.iadd, 1) := by decide +kernel
theorem d_ByteRow_add_25 : decode c_ByteRow_add 25 = .ok (.invokestatic 17, 3) := by decide +kernel
theorem d_ByteRow_add_28 : decode c_ByteRow_add 28 = .ok (.putfield 7, 3) := by decide +kernel
theorem d_ByteRow_add_31 : decode c_ByteRow_add 31 = .ok (.aload_n 0, 1) := by decide +kernel
theorem d_ByteRow_add_32 : decode c_ByteRow_add 32 = .ok (.getfield 7, 3) := by decide +kernel
theorem d_ByteRow_add_35 : decode c_ByteRow_add 35 = .ok (.aload_n 0, 1) := by decide +kernel
theorem d_ByteRow_add_36 : decode c_ByteRow_add 36 = .ok (.getfield 13, 3) := by decide +kernel
theorem d_ByteRow_add_39 : decode c_ByteRow_add 39 = .ok (.iload_n 1, 1) := by decide +kernel
theorem d_ByteRow_add_40 : decode c_ByteRow_add 40 = .ok (.iastore, 1) := by decide +kernel
theorem d_ByteRow_add_41 : decode c_ByteRow_add 41 = .ok (.aload_n 0, 1) := by decide +kernel
theorem d_ByteRow_add_42 : decode c_ByteRow_add 42 = .ok (.dup, 1) := by decide +kernel
theorem d_ByteRow_add_43 : decode c_ByteRow_add 43 = .ok (.getfield 13, 3) := by decide +kernel
theorem d_ByteRow_add_46 : decode c_ByteRow_add 46 = .ok (.iconst 1, 1) := by decide +kernel
theorem d_ByteRow_add_47 : decode c_ByteRow_add 47 = .ok (.iadd, 1) := by decide +kernel
theorem d_ByteRow_add_48 : decode c_ByteRow_add 48 = .ok (.putfield 13, 3) := by decide +kernel
theorem d_ByteRow_add_51 : decode c_ByteRow_add 51 = .ok (.return_, 1) := by decide +kernel
/-! Arrays.copyOf to a longer row, and ByteRow.add, by hand -/
theorem K_int {D : va_G} {cl : List vw_C} {cI cZ cJ cA : ClassId} {s : State} (hK : va_K D cl (TYS cI cZ cJ ++ [(cA, .int)]) s) : cA = cI := by
  have h1 : va_RA s cA .int := (hK.2 3 (cA, .int) rfl).2
  have h2 : va_RA s cI .int := (hK.2 0 (cI, .int) rfl).2
  have h3 : s.vm.findClass ("[" ++ (FieldType.int).toString) = some cA := h1
  have h4 : s.vm.findClass ("[" ++ (FieldType.int).toString) = some cI := h2
  exact Option.some.inj (h3.symm.trans h4)
set_option maxHeartbeats 4000000 in
set_option maxRecDepth 100000 in
theorem k_copyOf (l : Launch) (dC : Nat → ClassId) (dI : Nat → Nat → Nat) (cI cZ cJ : ClassId) (a sz : Nat) {L N : Nat} {f : Nat → Int32} {x1 : Int32} (hx1 : x1 = nI N) (hL : L < N) (hN9 : N ≤ 100000) :
    Met l y_Arrays_copyOf ws_Arrays_copyOf ({ frames := 1, cells := 1, slots := N, locals := 64 }) (va_Pc [.ref a, .int x1] (kP (dC, dI) vwCl (TYS cI cZ cJ) [(a, .inl (cI, L, .inl f))] sz)) (va_Qr (fun (_ : Unit) => True) (fun _ q t => kQ (dC, dI) vwCl (TYS cI cZ cJ) [(a, .inl (cI, L, .inl f))] sz [(a, .inl (cI, L, .inl f)), (q, .inl (cI, N, .inl (va_cpy f (fun _ => 0) 0 0 L)))] t) (va_A [(a, .inl (cI, L, .inl f))] sz)) 1 N (va_A [(a, .inl (cI, L, .inl f))] sz) := by
  refine Met.ofW (cc := c_Arrays_copyOf) (maxL := 3) (ret := (some (.array .int))) (by decide) rfl ?_
  intro p e s m args below meth c s₁ B hml hv
  obtain ⟨rfl, hsz, hP, hK, hD0, hN⟩ := hv
  have hx := B.exec
  have hb := B.bytes
  have hr := B.returns
  have hlocks := B.notSynchronized
  have hown : s.vm.findClass R_Arrays = some m.cls := findClass_of_methodNamed B.named
  have hts : ∀ w ∈ tb, w.before (List.toArray [Value.ref a, Value.int x1]) s = true := fun w h => atoms_spec (ws := ws_Arrays_copyOf) B.pre w (List.mem_cons_of_mem _ h)
  subst hsz
  have hD := hD0.self (sz := s.heap.size)
  have hA : ∀ q : Nat, s.heap.size ≤ q → (va_A [(a, .inl (cI, L, .inl f))] s.heap.size) q := fun q h => Or.inr h
  have hS : va_S (va_A [(a, .inl (cI, L, .inl f))] s.heap.size) s.heap s.heap [] := va_S.rf
  have hl := lv_entry ([.ref a, .int x1]) (n := 3) (Nat.le_of_ble_eq_true rfl)
  rw [lg_entry_eq]
  generalize (lg_sl ([.ref a, .int x1]) ++ List.replicate (3 - (lg_sl ([.ref a, .int x1])).length) Slot.unset).toArray = ls at hl ⊢
  have hl : lv_has ls 3 [(0, .ref a), (1, .int x1)] := hl
  refine lv_iload_n hx hb d_Arrays_copyOf_0 rfl (lv_at hl 1 rfl) ?_
  refine lv_aload_n hx hb d_Arrays_copyOf_1 rfl (lv_at hl 0 rfl) ?_
  refine va_alen (v := nI L) hx hb hK hP 0 0 rfl rfl rfl d_Arrays_copyOf_2 ?_
  refine lv_icmp_ne (tgt := 14) hx hb d_Arrays_copyOf_3 (by decide) (fun c1 => ?_) (fun c1 => absurd c1 (by rw [hx1]; intro h; have := (nI_eq (by omega) (by omega)).mp h; omega))
  refine lv_iload_n hx hb d_Arrays_copyOf_14 rfl (lv_at hl 1 rfl) ?_
  refine va_newa (atype := .int) (ty := .int) (N' := N) (a0 := (N, .inl (fun _ => 0))) hx hb (hts _ t_106) rfl hK hP hD hS hA (fun _ => rfl) (by rw [hx1]; exact nI_pos (by omega)) (by rw [hx1]; exact nI_clamp (by omega)) (by show N * 4 ≤ 536870912; omega) (Nat.le_refl 1) (by show 0 + N ≤ N; omega) d_Arrays_copyOf_15 (fun q cA H hK2 hP hD hS => ?_)
  have ecA := K_int hK2
  subst ecA
  have hP : va_P (dC, dI) vwCl [(a, .inl (cA, L, .inl f)), (q, .inl (cA, N, .inl (fun _ => 0)))] H := hP
  have hD : va_D (va_A [(a, .inl (cA, L, .inl f))] s.heap.size) [(a, .inl (cA, L, .inl f)), (q, .inl (cA, N, .inl (fun _ => 0)))] := hD
  refine lv_astore_n (lv' := [(2, .ref q), (0, .ref a), (1, .int x1)]) hx hb d_Arrays_copyOf_17 rfl hl (by decide) rfl (fun ls hl => ?_)
  refine lv_aload_n hx hb d_Arrays_copyOf_18 rfl (lv_at hl 1 rfl) ?_
  refine lv_iconst (v := 0) hx hb d_Arrays_copyOf_19 (by decide) ?_
  refine lv_aload_n hx hb d_Arrays_copyOf_20 rfl (lv_at hl 0 rfl) ?_
  refine lv_iconst (v := 0) hx hb d_Arrays_copyOf_21 (by decide) ?_
  refine lv_aload_n hx hb d_Arrays_copyOf_22 rfl (lv_at hl 1 rfl) ?_
  refine va_alen (v := nI L) hx hb hK hP 0 0 rfl rfl rfl d_Arrays_copyOf_23 ?_
  refine lv_iload_n hx hb d_Arrays_copyOf_24 rfl (lv_at hl 2 rfl) ?_
  refine va_mmin hx hb (by rw [hml]; exact hl.1.symm) hown (hts (.methodLink R_Arrays 304 Lib.Math.min.name) t_367) (hts (.static Lib.Math.min.name) t_83) (hts (.initialized "java/lang/Math") t_55) (hts (.code Lib.Math.min.name Lib.Math.min.code 2 (some .int)) t_84) (Nat.le_refl 1) (Nat.le_of_ble_eq_true rfl) (by show 0 + 1 ≤ 1; omega) (by show 0 + N ≤ N; omega) d_Arrays_copyOf_25 ?_
  have hmin : (if x1 < nI L then x1 else nI L) = nI L := by
    rw [if_neg]; rw [hx1]; exact nI_nlt (by omega) (by omega)
  rw [hmin]
  have h0c : (0 : Int32).toNatClampNeg = 0 := rfl
  have hLc : (nI L).toNatClampNeg = L := nI_clamp (by omega)
  refine va_copyi (ty := .int) hx hb (by rw [hml]; exact hl.1.symm) hown (hts (.methodLink R_Arrays 150 arraycopyName) t_368) (hts (.native arraycopyName) t_370) (hts (.static arraycopyName) t_369) (hts (.initialized "java/lang/System") t_73) hK hP hD hS 0 1 0 0 rfl rfl rfl rfl rfl (by decide) (by decide) (nI_pos (by omega)) (by rw [hLc, h0c]; omega) (by rw [hLc, h0c]; omega) (fun _ _ => rfl) (Nat.le_refl 1) (show 0 + (nativeFrameWords "java/lang/System" "arraycopy" 5 + 11) ≤ 64 by decide +kernel) d_Arrays_copyOf_28 (fun H locs hP hD hS => ?_)
  rw [hLc, h0c] at hP hD
  have hP : va_P (dC, dI) vwCl [(a, .inl (cA, L, .inl f)), (q, .inl (cA, N, .inl (va_cpy f (fun _ => 0) 0 0 L)))] H := hP
  have hD : va_D (va_A [(a, .inl (cA, L, .inl f))] s.heap.size) [(a, .inl (cA, L, .inl f)), (q, .inl (cA, N, .inl (va_cpy f (fun _ => 0) 0 0 L)))] := hD
  refine lv_aload_n hx hb d_Arrays_copyOf_31 rfl (lv_at hl 0 rfl) ?_
  refine W.widen (k := 1) (n := N) (by omega) (by omega) ?_
  exact W.aret hx hb hr (Or.inr ⟨_, rfl⟩) (Or.inr ⟨_, rfl⟩) (fun t ht hW => ⟨⟨(), q, rfl, trivial, ⟨by rw [ht]; exact hP, va_K.moved hW.alike hK, hD⟩⟩, hS.F ht⟩) hS.2.2 d_Arrays_copyOf_32
/-- where a row is full, twice as long and one more -/
def f_ByteRow_grow (br : Br) : Option Br := gd (decide (Br_n br = nI (Br_byL br) ∧ Br_byL br ≤ 40000)) <| some (2 * Br_byL br + 1, va_cpy (Br_by br) (fun _ => 0) 0 0 (Br_byL br), Br_n br, Br_tk br)
def f_ByteRow_add (br : Br) (x1 : Int32) : Option Br := bd (if Br_n br < Int32.ofNat (Br_byL br) then some br else f_ByteRow_grow br) <| fun br1 => gd (inb (Br_n br1) (Br_byL br1)) <| lt' (Br_s_by br1 (upd (Br_by br1) (Br_n br1).toNatClampNeg x1)) <| fun br2 => lt' (Br_s_n br2 (Br_n br2 + 1)) <| fun br3 => some br3
theorem mo_ByteRow_grow {br br1 : Br} (h : f_ByteRow_grow br = some br1) : Br_byL br < Br_byL br1 ∧ Br_byL br1 ≤ 2 * (Br_byL br1 - Br_byL br) ∧ br1 = (2 * Br_byL br + 1, va_cpy (Br_by br) (fun _ => 0) 0 0 (Br_byL br), Br_n br, Br_tk br) ∧ Br_n br = nI (Br_byL br) ∧ Br_byL br ≤ 40000 := by
  unfold f_ByteRow_grow at h
  obtain ⟨h1, h⟩ := gd_ex h
  have h1 := of_decide_eq_true h1
  cases h
  refine ⟨?_, ?_, rfl, h1⟩
  · show br.1 < 2 * br.1 + 1; omega
  · show 2 * br.1 + 1 ≤ 2 * (2 * br.1 + 1 - br.1); omega
theorem mo_ByteRow_add {br : Br} {x1 : Int32} : mle (f_ByteRow_add br x1) (Br_byL br) Br_byL := by
  unfold f_ByteRow_add
  refine mle_bd (fun br1 h1 => ?_)
  have h2 : Br_byL br ≤ Br_byL br1 := by
    by_cases c : Br_n br < Int32.ofNat (Br_byL br)
    · rw [if_pos c] at h1; cases h1; exact Nat.le_refl _
    · rw [if_neg c] at h1; exact Nat.le_of_lt (mo_ByteRow_grow h1).1
  refine mle_gd ?_
  refine mle_lt (fun br2 e2 => ?_)
  refine mle_lt (fun br3 e3 => ?_)
  refine mle_some ?_
  rw [e3, e2]; exact h2
set_option maxHeartbeats 4000000 in
set_option maxRecDepth 100000 in
theorem k_ByteRow_add (l : Launch) (dC : Nat → ClassId) (dI : Nat → Nat → Nat) (cI cZ cJ : ClassId) (br_a br_b : Nat) (sz : Nat) {br : Br} {x1 : Int32} {br' : Br} (hf : f_ByteRow_add br x1 = some br') :
    Met l y_ByteRow_add ws_ByteRow_add ({ frames := 2, cells := Br_byL br' - Br_byL br, slots := 2 * (Br_byL br' - Br_byL br), locals := 86 }) (va_Pc [.ref br_a, .int x1] (kP (dC, dI) vwCl (TYS cI cZ cJ) (wBr cI cZ cJ br_a br_b br) sz)) (va_Qv (fun (_ : Nat) => True) (fun q t => kQ (dC, dI) vwCl (TYS cI cZ cJ) (wBr cI cZ cJ br_a br_b br) sz (wBr cI cZ cJ br_a q br') t) (va_A (wBr cI cZ cJ br_a br_b br) sz)) (Br_byL br' - Br_byL br) (2 * (Br_byL br' - Br_byL br)) (va_A (wBr cI cZ cJ br_a br_b br) sz) := by
  refine Met.ofW (cc := c_ByteRow_add) (maxL := 2) (ret := none) (by decide) rfl ?_
  intro p e s m args below meth c s₁ B hml hv
  obtain ⟨rfl, hsz, hP, hK, hD0, hN⟩ := hv
  have hx := B.exec
  have hb := B.bytes
  have hr := B.returns
  have hlocks := B.notSynchronized
  have hown : s.vm.findClass R_ByteRow = some m.cls := findClass_of_methodNamed B.named
  have hts : ∀ w ∈ tb, w.before (List.toArray [Value.ref br_a, Value.int x1]) s = true := fun w h => atoms_spec (ws := ws_ByteRow_add) B.pre w (List.mem_cons_of_mem _ h)
  subst hsz
  have hD := hD0.self (sz := s.heap.size)
  obtain ⟨A, eA⟩ : ∃ A, A = va_A (wBr cI cZ cJ br_a br_b br) s.heap.size := ⟨_, rfl⟩
  rw [← eA] at hD
  have hA : ∀ q : Nat, s.heap.size ≤ q → A q := fun q h => by rw [eA]; exact Or.inr h
  have hS : va_S A s.heap s.heap [] := va_S.rf
  have hl := lv_entry ([.ref br_a, .int x1]) (n := 2) (Nat.le_of_ble_eq_true rfl)
  rw [lg_entry_eq]
  generalize (lg_sl ([.ref br_a, .int x1]) ++ List.replicate (2 - (lg_sl ([.ref br_a, .int x1])).length) Slot.unset).toArray = ls at hl ⊢
  have hl : lv_has ls 2 [(0, .ref br_a), (1, .int x1)] := hl
  unfold f_ByteRow_add at hf
  obtain ⟨br1, hb1, hf⟩ := bd_ex hf
  obtain ⟨h_1, hf⟩ := gd_ex hf
  obtain ⟨br2, e2, hf⟩ := lt_ex hf
  obtain ⟨br3, e3, hf⟩ := lt_ex hf
  cases hf
  have eL : Br_byL br' = Br_byL br1 := by rw [e3, e2]
  have J : ∀ (b1 : Nat) (H : Heap) (locs : List Loc) (ls : Array Slot) (cells slots : Nat), cells ≤ Br_byL br' - Br_byL br → slots ≤ 2 * (Br_byL br' - Br_byL br) → va_P (dC, dI) vwCl (wBr cI cZ cJ br_a b1 br1) H → va_D A (wBr cI cZ cJ br_a b1 br1) → va_S A s.heap H locs → lv_has ls 2 [(0, .ref br_a), (1, .int x1)] →
      W p l e (headSpec ws_ByteRow_add ({ frames := 2, cells := Br_byL br' - Br_byL br, slots := 2 * (Br_byL br' - Br_byL br), locals := 86 })).room s m (List.toArray [Value.ref br_a, Value.int x1]) below meth c H locs cells slots (MQ below (va_Qv (fun (_ : Nat) => True) (fun q t => kQ (dC, dI) vwCl (TYS cI cZ cJ) (wBr cI cZ cJ br_a br_b br) s.heap.size (wBr cI cZ cJ br_a q br') t) (va_A (wBr cI cZ cJ br_a br_b br) s.heap.size)) (List.toArray [Value.ref br_a, Value.int x1]) s (Br_byL br' - Br_byL br) (2 * (Br_byL br' - Br_byL br)) (va_A (wBr cI cZ cJ br_a br_b br) s.heap.size)) (F0 m 31 ls []) := by
    intro b1 H locs ls cells slots hc1 hs1 hP hD hS hl
    refine lv_aload_n hx hb d_ByteRow_add_31 rfl (lv_at hl 0 rfl) ?_
    refine va_get (D := (dC, dI)) (ci := 1) (v := .ref b1) (C := R_ByteRow) (T := T_ByteRow) (N := 3) hx hb hts in_ByteRow hown hK hP 0 rfl rfl 0 (by decide) (hts _ t_94) (fun _ h9 => h9) rfl d_ByteRow_add_32 ?_
    refine lv_aload_n hx hb d_ByteRow_add_35 rfl (lv_at hl 0 rfl) ?_
    refine va_get (D := (dC, dI)) (ci := 1) (v := .int (Br_n br1)) (C := R_ByteRow) (T := T_ByteRow) (N := 3) hx hb hts in_ByteRow hown hK hP 0 rfl rfl 1 (by decide) (hts _ t_96) (fun _ h9 => h9) rfl d_ByteRow_add_36 ?_
    refine lv_iload_n hx hb d_ByteRow_add_39 rfl (lv_at hl 1 rfl) ?_
    refine va_iast (f := Br_by br1) hx hb hK hP hD hS 1 0 rfl rfl (inb_in h_1) d_ByteRow_add_40 (fun H locs hP hD hS => ?_)
    have hP : va_P (dC, dI) vwCl (wBr cI cZ cJ br_a b1 br2) H := by rw [e2]; exact hP
    have hD : va_D A (wBr cI cZ cJ br_a b1 br2) := by rw [e2]; exact hD
    refine lv_aload_n hx hb d_ByteRow_add_41 rfl (lv_at hl 0 rfl) ?_
    refine lv_dup hx hb d_ByteRow_add_42 rfl ?_
    refine va_get (D := (dC, dI)) (ci := 1) (v := .int (Br_n br2)) (C := R_ByteRow) (T := T_ByteRow) (N := 3) hx hb hts in_ByteRow hown hK hP 0 rfl rfl 1 (by decide) (hts _ t_96) (fun _ h9 => h9) rfl d_ByteRow_add_43 ?_
    refine lv_iconst (v := 1) hx hb d_ByteRow_add_46 (by decide) ?_
    refine lv_iadd hx hb d_ByteRow_add_47 ?_
    refine va_put (D := (dC, dI)) (ci := 1) (v := .int (Br_n br2 + 1)) (ty := .int) (C := R_ByteRow) (T := T_ByteRow) (N := 3) hx hb hts in_ByteRow ty_ByteRow tyok_ByteRow nm_ByteRow hown hK hP hD hS 0 rfl rfl 1 (by decide) (hts _ t_96) (fun _ h9 => h9) rfl (by decide +kernel) rfl rfl (Nat.le_of_ble_eq_true rfl) d_ByteRow_add_48 (fun H locs hP hD hS => ?_)
    have hP : va_P (dC, dI) vwCl (wBr cI cZ cJ br_a b1 br') H := by rw [e3]; exact hP
    have hD : va_D A (wBr cI cZ cJ br_a b1 br') := by rw [e3]; exact hD
    refine W.widen (k := Br_byL br' - Br_byL br) (n := 2 * (Br_byL br' - Br_byL br)) hc1 hs1 ?_
    rw [eA] at hD hS
    exact W.vret hx hb hr (fun t ht hW => ⟨⟨b1, rfl, trivial, ⟨by rw [ht]; exact hP, va_K.moved hW.alike hK, hD⟩⟩, hS.F ht⟩) hS.2.2 d_ByteRow_add_51
  refine lv_aload_n hx hb d_ByteRow_add_0 rfl (lv_at hl 0 rfl) ?_
  refine va_get (D := (dC, dI)) (ci := 1) (v := .int (Br_n br)) (C := R_ByteRow) (T := T_ByteRow) (N := 3) hx hb hts in_ByteRow hown hK hP 0 rfl rfl 1 (by decide) (hts _ t_96) (fun _ h9 => h9) rfl d_ByteRow_add_1 ?_
  refine lv_aload_n hx hb d_ByteRow_add_4 rfl (lv_at hl 0 rfl) ?_
  refine va_get (D := (dC, dI)) (ci := 1) (v := .ref br_b) (C := R_ByteRow) (T := T_ByteRow) (N := 3) hx hb hts in_ByteRow hown hK hP 0 rfl rfl 0 (by decide) (hts _ t_94) (fun _ h9 => h9) rfl d_ByteRow_add_5 ?_
  refine va_alen (v := Int32.ofNat (Br_byL br)) hx hb hK hP 1 0 rfl rfl rfl d_ByteRow_add_8 ?_
  refine lv_icmp_lt (tgt := 31) hx hb d_ByteRow_add_9 (by decide) (fun c1 => ?_) (fun c1 => ?_)
  · rw [if_pos c1] at hb1
    cases hb1
    exact J br_b _ _ ls 0 0 (Nat.zero_le _) (Nat.zero_le _) hP hD hS hl
  · rw [if_neg c1] at hb1
    obtain ⟨g1, g2, g3, g4, g5⟩ := mo_ByteRow_grow hb1
    refine lv_aload_n hx hb d_ByteRow_add_12 rfl (lv_at hl 0 rfl) ?_
    refine lv_aload_n hx hb d_ByteRow_add_13 rfl (lv_at hl 0 rfl) ?_
    refine va_get (D := (dC, dI)) (ci := 1) (v := .ref br_b) (C := R_ByteRow) (T := T_ByteRow) (N := 3) hx hb hts in_ByteRow hown hK hP 0 rfl rfl 0 (by decide) (hts _ t_94) (fun _ h9 => h9) rfl d_ByteRow_add_14 ?_
    refine lv_iconst (v := 2) hx hb d_ByteRow_add_17 (by decide) ?_
    refine lv_aload_n hx hb d_ByteRow_add_18 rfl (lv_at hl 0 rfl) ?_
    refine va_get (D := (dC, dI)) (ci := 1) (v := .int (Br_n br)) (C := R_ByteRow) (T := T_ByteRow) (N := 3) hx hb hts in_ByteRow hown hK hP 0 rfl rfl 1 (by decide) (hts _ t_96) (fun _ h9 => h9) rfl d_ByteRow_add_19 ?_
    refine lv_imul hx hb d_ByteRow_add_22 ?_
    refine lv_iconst (v := 1) hx hb d_ByteRow_add_23 (by decide) ?_
    refine lv_iadd hx hb d_ByteRow_add_24 ?_
    have ex : 2 * Br_n br + 1 = nI (2 * Br_byL br + 1) := by
      rw [g4]
      exact (congrArg (· + 1) (pk_mul 2 (Br_byL br))).trans (nI_1 _)
    have hLe : Br_byL br' = 2 * Br_byL br + 1 := by rw [eL, g3]
    have hPc := hP.sub (ws' := [(br_b, .inl (cI, Br_byL br, .inl (Br_by br)))]) [1] rfl
    have hDc := hD.sub (ws' := [(br_b, .inl (cI, Br_byL br, .inl (Br_by br)))]) [1] (by decide) rfl
    have hFc := va_free (wc := [(br_b, .inl (cI, Br_byL br, .inl (Br_by br)))]) hD hS hA [1] rfl
    refine va_callr (va_runS (As := [.ref br_b, .int (2 * Br_n br + 1)]) (rest := [.ref br_a]) ⟨hx, hb, hml, hown, hts⟩ (k_copyOf l dC dI cI cZ cJ br_b s.heap.size (L := Br_byL br) (N := 2 * Br_byL br + 1) (f := Br_by br) ex (by omega) (by omega)) (va_cwS 2 hts (gSo t_357 t_358 t_72 t_359) rfl rfl rfl hd_Arrays_copyOf.2 ⟨Nat.le_refl 2, Nat.le_refl 86⟩) ⟨kP_blind, kP_at hPc hK hDc hN⟩ rfl rfl hl.1 rfl (lv_room (Nat.le_of_ble_eq_true rfl)) d_ByteRow_add_25 ⟨by show 0 + 1 ≤ Br_byL br' - Br_byL br; rw [hLe]; omega, by show 0 + (2 * Br_byL br + 1) ≤ 2 * (Br_byL br' - Br_byL br); rw [hLe]; omega⟩) hS (fun q _ h => hFc q h) hFc (fun u q t H1 locs ht hvm hw hB hz1 hk1 hS => ?_)
    obtain ⟨hP, hD⟩ := kQ_join (wr := [(br_a, .inr (1, [.ref br_b, .int (Br_n br), .int (Br_tk br)]))]) (w1 := [(br_b, .inl (cI, Br_byL br, .inl (Br_by br))), (q, .inl (cI, 2 * Br_byL br + 1, .inl (va_cpy (Br_by br) (fun _ => 0) 0 0 (Br_byL br))))]) hP hD [1] [0] rfl rfl (by decide) (by decide) ht hk1 hFc hB
    generalize H1 = H at hP hS ⊢
    have hP := hP.sub (ws' := [(br_a, .inr (1, [.ref br_b, .int (Br_n br), .int (Br_tk br)])), (q, .inl (cI, 2 * Br_byL br + 1, .inl (va_cpy (Br_by br) (fun _ => 0) 0 0 (Br_byL br))))]) [0, 2] rfl
    have hD := hD.sub (ws' := [(br_a, .inr (1, [.ref br_b, .int (Br_n br), .int (Br_tk br)])), (q, .inl (cI, 2 * Br_byL br + 1, .inl (va_cpy (Br_by br) (fun _ => 0) 0 0 (Br_byL br))))]) [0, 2] (by decide) rfl
    refine va_put (D := (dC, dI)) (ci := 1) (v := .ref q) (ty := .array .int) (C := R_ByteRow) (T := T_ByteRow) (N := 3) hx hb hts in_ByteRow ty_ByteRow tyok_ByteRow nm_ByteRow hown hK hP hD hS 0 rfl rfl 0 (by decide) (hts _ t_94) (fun _ h9 => h9) rfl (by decide +kernel) rfl rfl (Nat.le_of_ble_eq_true rfl) d_ByteRow_add_28 (fun H locs hP hD hS => ?_)
    exact J q _ _ ls _ _ (by show 0 + 1 ≤ Br_byL br' - Br_byL br; rw [hLe]; omega) (by show 0 + (2 * Br_byL br + 1) ≤ 2 * (Br_byL br' - Br_byL br); rw [hLe]; omega) (by rw [g3]; exact hP) (by rw [g3]; exact hD) hS hl
