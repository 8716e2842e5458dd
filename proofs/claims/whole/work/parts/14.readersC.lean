theorem t_466 : (.selects R_ChanceBits y_Bits_takeNumber y_Bits_takeNumber : Cond) ∈ tb := List.mem_filter.mpr ⟨List.mem_of_getElem? (i := 466) (by decide +kernel), by decide +kernel⟩
theorem t_448 : (.selects R_ChanceBits y_Bits_startReading y_ChanceBits_startReading : Cond) ∈ tb := List.mem_filter.mpr ⟨List.mem_of_getElem? (i := 448) (by decide +kernel), by decide +kernel⟩
theorem t_449 : (.instanceMethod y_ChanceBits_startReading : Cond) ∈ tb := List.mem_filter.mpr ⟨List.mem_of_getElem? (i := 449) (by decide +kernel), by decide +kernel⟩
theorem t_450 : (.code y_ChanceBits_startReading c_ChanceBits_startReading 2 none : Cond) ∈ tb := List.mem_filter.mpr ⟨List.mem_of_getElem? (i := 450) (by decide +kernel), by decide +kernel⟩
/-! C_Reader_refuse -/
def f_C_Reader_refuse (rd : Rd) (x1 : Int32) : Option (Int32 × Rd) := lt' (Rd_s_wy rd x1) <| fun rd_1 => some (0, rd_1)
section
variable {p : Program} {l : Launch} {e : Env} {R : Room} {s : State} {m : MethodId} {args : Array Value} {below : List Frame} {meth : Method} {c : Code} {Q : State → Prop} {A : Nat → Prop}
set_option maxHeartbeats 4000000 in
set_option maxRecDepth 100000 in
theorem B_C_Reader_refuse {cells slots : Nat} {dC : Nat → ClassId} {dI : Nat → Nat → Nat} {cI cZ cJ : ClassId} {rd_a : Nat → Nat} {lk_cb : Nat} {rd : Rd} {x1 : Int32} {res : Int32 × Rd} (C0 : cxt p c m s args R cells slots R_Reader c_Reader_refuse tb 2 (dC, dI) vwCl (TYS cI cZ cJ) A 0 0)
    (hr6 : ∀ (H : Heap) (locs : List Loc) (ls : Array Slot) (v : Int32) (rd' : Rd), vp_nar .boolean v = v → va_P (dC, dI) vwCl (wRd cI cZ cJ rd_a lk_cb rd') H → va_D A (wRd cI cZ cJ rd_a lk_cb rd') → va_S A s.heap H locs → some (v, rd') = some res → W p l e R s m args below meth c H locs cells slots Q (F0 m 6 ls [.int v]))
    {H : Heap} {locs : List Loc} {ls : Array Slot} (hP : va_P (dC, dI) vwCl (wRd cI cZ cJ rd_a lk_cb rd) H) (hD : va_D A (wRd cI cZ cJ rd_a lk_cb rd)) (hS : va_S A s.heap H locs) (hl : lv_has ls 2 [(0, .ref (rd_a 0)), (1, .int x1)]) (hf : f_C_Reader_refuse rd x1 = some res) : W p l e R s m args below meth c H locs cells slots Q (F0 m 0 ls []) := by
  obtain ⟨hx, hb, hml, hown, hts, hK, hA, hRf, hRl, hN, hRc⟩ := id C0
  rw [f_C_Reader_refuse] at hf
  refine lv_aload_n hx hb d_Reader_refuse_0 rfl (lv_at hl 0 rfl) ?_
  refine lv_iload_n hx hb d_Reader_refuse_1 rfl (lv_at hl 1 rfl) ?_
  refine va_put (D := (dC, dI)) (ci := 5) (v := .int x1) (ty := .int) (C := R_Reader) (T := T_Reader) (N := 5) hx hb hts in_Reader ty_Reader tyok_Reader nm_Reader hown hK hP hD hS 0 rfl rfl 0 (by decide) (hts _ t_183) (fun _ h9 => h9) rfl (by decide +kernel) rfl rfl (Nat.le_of_ble_eq_true rfl) d_Reader_refuse_2 (fun H locs hP hD hS => ?_)
  obtain ⟨rd_1, erd_1, hf⟩ := lt_ex hf
  try dsimp only at hf
  have hP : va_P (dC, dI) vwCl (wRd cI cZ cJ rd_a lk_cb rd_1) H := by rw [erd_1]; exact hP
  have hD : va_D A (wRd cI cZ cJ rd_a lk_cb rd_1) := by rw [erd_1]; exact hD
  refine lv_iconst (v := 0) hx hb d_Reader_refuse_5 (by decide) ?_
  exact hr6 _ _ _ 0 rd_1 (by decide) hP hD hS hf
end
set_option maxHeartbeats 4000000 in
set_option maxRecDepth 100000 in
theorem k_C_Reader_refuse (l : Launch) (dC : Nat → ClassId) (dI : Nat → Nat → Nat) (cI cZ cJ : ClassId) (rd_a : Nat → Nat) (lk_cb : Nat) (sz : Nat) {rd : Rd} {x1 : Int32} {r : Int32} {rd' : Rd} (hf : f_C_Reader_refuse rd x1 = some (r, rd')) :
    Met l y_Reader_refuse ws_Reader_refuse ({ frames := 0, cells := 0, slots := 0, locals := 0 }) (va_Pc [.ref (rd_a 0), .int x1] (kP (dC, dI) vwCl (TYS cI cZ cJ) (wRd cI cZ cJ rd_a lk_cb rd) sz)) (va_Qi (fun (q : Int32) (_ : Unit) => q = r ∧ vp_nar .boolean r = r) (fun _ t => kQ (dC, dI) vwCl (TYS cI cZ cJ) (wRd cI cZ cJ rd_a lk_cb rd) sz (wRd cI cZ cJ rd_a lk_cb rd') t) (va_A (wRd cI cZ cJ rd_a lk_cb rd) sz)) 0 0 (va_A (wRd cI cZ cJ rd_a lk_cb rd) sz) := by
  refine Met.ofW (cc := c_Reader_refuse) (maxL := 2) (ret := (some .boolean)) (by decide) rfl ?_
  intro p e s m args below meth c s₁ B hml hv
  obtain ⟨rfl, hsz, hP, hK, hD0, hN⟩ := hv
  have hr := B.returns
  have hlocks := B.notSynchronized
  subst hsz
  have hD := hD0.self (sz := s.heap.size)
  have hl := lv_entry ([.ref (rd_a 0), .int x1]) (n := 2) (Nat.le_of_ble_eq_true rfl)
  rw [lg_entry_eq]
  generalize (lg_sl ([.ref (rd_a 0), .int x1]) ++ List.replicate (2 - (lg_sl ([.ref (rd_a 0), .int x1])).length) Slot.unset).toArray = ls at hl ⊢
  refine B_C_Reader_refuse (A := va_A (wRd cI cZ cJ rd_a lk_cb rd) s.heap.size) ⟨B.exec, B.bytes, hml, findClass_of_methodNamed B.named, fun w h => atoms_spec (ws := ws_Reader_refuse) B.pre w (List.mem_cons_of_mem _ h), hK, fun q h => Or.inr h, Nat.le_of_ble_eq_true rfl, Nat.le_of_ble_eq_true rfl, hN, Nat.le_of_ble_eq_true rfl, Nat.le_of_ble_eq_true rfl⟩ (fun H locs ls v rd'1 hz hP hD hS hf => ?_) hP hD va_S.rf hl hf
  · cases hf
    exact W.zret B.exec B.bytes hr (nz_n hz) (fun t ht hW => ⟨⟨_, (), rfl, ⟨rfl, hz⟩, ⟨by rw [ht]; exact hP, va_K.moved hW.alike hK, hD⟩⟩, hS.F ht⟩) hS.2.2 d_Reader_refuse_6

/-! C_Reader_takeHeight -/
def f_C_Reader_takeHeight (rd : Rd) (cb : Cb) (v : Br) : Option (Int32 × Rd × Cb × Br) := bd (f_C_Bits_takeNumber cb v) <| fun (r_1, cb_2, v_3) => (if r_1 = (-1) then bd (f_C_Reader_refuse rd 7) <| fun (r_19, rd_20) => gd (decide (vp_nar .boolean r_19 = r_19)) <| some (r_19, rd_20, cb_2, v_3) else lt' (Rd_s_h rd ((Rd_h rd) + (r_1 + 1))) <| fun rd_5 => (if (Rd_h rd_5) ≤ 16 then lt' (Rd_s_w rd_5 0) <| fun rd_8 => bd (f_C_ChanceBits_takeBit cb_2 v_3 (-1)) <| fun (r_10, cb_11, v_12) => (if r_10 = 1 then some (1, rd_8, cb_11, v_12) else bd (f_C_Reader_refuse rd_8 1) <| fun (r_14, rd_15) => (if r_14 = 0 then some (0, rd_15, cb_11, v_12) else some (1, rd_15, cb_11, v_12))) else bd (f_C_Reader_refuse rd_5 1) <| fun (r_17, rd_18) => gd (decide (vp_nar .boolean r_17 = r_17)) <| some (r_17, rd_18, cb_2, v_3)))
section
variable {p : Program} {l : Launch} {e : Env} {R : Room} {s : State} {m : MethodId} {args : Array Value} {below : List Frame} {meth : Method} {c : Code} {Q : State → Prop} {A : Nat → Prop}
set_option maxHeartbeats 4000000 in
set_option maxRecDepth 100000 in
theorem B_C_Reader_takeHeight {cells slots : Nat} {dC : Nat → ClassId} {dI : Nat → Nat → Nat} {cI cZ cJ : ClassId} {rd_a : Nat → Nat} {cb_a : Nat → Nat} {v_a v_b : Nat} {lk_w : Nat} {rd : Rd} {cb : Cb} {v : Br} {res : Int32 × Rd × Cb × Br} (C0 : cxt p c m s args R cells slots R_Reader c_Reader_takeHeight tb 2 (dC, dI) vwCl (TYS cI cZ cJ) A 5 112)
    (hr19 : ∀ (H : Heap) (locs : List Loc) (ls : Array Slot) (v : Int32) (rd' : Rd) (cb' : Cb) (v' : Br), vp_nar .boolean v = v → va_P (dC, dI) vwCl (wRd cI cZ cJ rd_a (cb_a 0) rd' ++ wCb cI cZ cJ cb_a lk_w v_a cb' ++ wBr cI cZ cJ v_a v_b v') H → va_D A (wRd cI cZ cJ rd_a (cb_a 0) rd' ++ wCb cI cZ cJ cb_a lk_w v_a cb' ++ wBr cI cZ cJ v_a v_b v') → va_S A s.heap H locs → some (v, rd', cb', v') = some res → W p l e R s m args below meth c H locs cells slots Q (F0 m 19 ls [.int v]))
    (hr46 : ∀ (H : Heap) (locs : List Loc) (ls : Array Slot) (v : Int32) (rd' : Rd) (cb' : Cb) (v' : Br), vp_nar .boolean v = v → va_P (dC, dI) vwCl (wRd cI cZ cJ rd_a (cb_a 0) rd' ++ wCb cI cZ cJ cb_a lk_w v_a cb' ++ wBr cI cZ cJ v_a v_b v') H → va_D A (wRd cI cZ cJ rd_a (cb_a 0) rd' ++ wCb cI cZ cJ cb_a lk_w v_a cb' ++ wBr cI cZ cJ v_a v_b v') → va_S A s.heap H locs → some (v, rd', cb', v') = some res → W p l e R s m args below meth c H locs cells slots Q (F0 m 46 ls [.int v]))
    (hr77 : ∀ (H : Heap) (locs : List Loc) (ls : Array Slot) (v : Int32) (rd' : Rd) (cb' : Cb) (v' : Br), vp_nar .boolean v = v → va_P (dC, dI) vwCl (wRd cI cZ cJ rd_a (cb_a 0) rd' ++ wCb cI cZ cJ cb_a lk_w v_a cb' ++ wBr cI cZ cJ v_a v_b v') H → va_D A (wRd cI cZ cJ rd_a (cb_a 0) rd' ++ wCb cI cZ cJ cb_a lk_w v_a cb' ++ wBr cI cZ cJ v_a v_b v') → va_S A s.heap H locs → some (v, rd', cb', v') = some res → W p l e R s m args below meth c H locs cells slots Q (F0 m 77 ls [.int v]))
    {H : Heap} {locs : List Loc} {ls : Array Slot} (hP : va_P (dC, dI) vwCl (wRd cI cZ cJ rd_a (cb_a 0) rd ++ wCb cI cZ cJ cb_a lk_w v_a cb ++ wBr cI cZ cJ v_a v_b v) H) (hD : va_D A (wRd cI cZ cJ rd_a (cb_a 0) rd ++ wCb cI cZ cJ cb_a lk_w v_a cb ++ wBr cI cZ cJ v_a v_b v)) (hS : va_S A s.heap H locs) (hl : lv_has ls 2 [(0, .ref (rd_a 0))]) (hf : f_C_Reader_takeHeight rd cb v = some res) : W p l e R s m args below meth c H locs cells slots Q (F0 m 0 ls []) := by
  obtain ⟨hx, hb, hml, hown, hts, hK, hA, hRf, hRl, hN, hRc⟩ := id C0
  rw [f_C_Reader_takeHeight] at hf
  refine lv_aload_n hx hb d_Reader_takeHeight_0 rfl (lv_at hl 0 rfl) ?_
  refine va_get (D := (dC, dI)) (ci := 5) (v := .ref (cb_a 0)) (C := R_Reader) (T := T_Reader) (N := 5) hx hb hts in_Reader hown hK hP 0 rfl rfl 1 (by decide) (hts _ t_185) (fun _ h9 => h9) rfl d_Reader_takeHeight_1 ?_
  obtain ⟨⟨r_1, cb_2, v_3⟩, hf1, hf⟩ := bd_ex hf
  try dsimp only at hf
  have hPc := hP.sub (ws' := (wCb cI cZ cJ cb_a lk_w v_a cb ++ wBr cI cZ cJ v_a v_b v)) [1, 2, 3, 4] rfl
  have hDc := hD.sub (ws' := (wCb cI cZ cJ cb_a lk_w v_a cb ++ wBr cI cZ cJ v_a v_b v)) [1, 2, 3, 4] (by decide) rfl
  have hFc := va_free (wc := (wCb cI cZ cJ cb_a lk_w v_a cb ++ wBr cI cZ cJ v_a v_b v)) hD hS hA [1, 2, 3, 4] rfl
  refine va_calli (va_runU (As := []) (rest := []) ⟨hx, hb, hml, hown, hts⟩ (k_C_Bits_takeNumber l dC dI cI cZ cJ cb_a v_a v_b lk_w H.size hf1) (va_cwU 0 hts (gU t_463 t_465 t_466 t_464 t_57 t_468) rfl rfl rfl rfl hd_Bits_takeNumber.2 ⟨Nat.le_trans (Nat.le_of_ble_eq_true rfl) hRf, Nat.le_trans (Nat.le_of_ble_eq_true rfl) hRl⟩) ⟨kP_blind, va_recv hK hP (ci := 3) (q0 := 1) rfl rfl, kP_at hPc hK hDc hN⟩ rfl rfl hl.1 rfl (lv_room (Nat.le_of_ble_eq_true rfl)) d_Reader_takeHeight_4 hRc) hS (fun q _ h => hFc q h) hFc (fun r9 u t H1 locs ht hvm hw hB hz1 hk1 hS => ?_)
  rw [hw]
  obtain ⟨hP, hD⟩ := kQ_join (wr := (wRd cI cZ cJ rd_a (cb_a 0) rd)) (w1 := (wCb cI cZ cJ cb_a lk_w v_a cb_2 ++ wBr cI cZ cJ v_a v_b v_3)) hP hD [1, 2, 3, 4] [0] rfl rfl (by decide) (by decide) ht hk1 hFc hB
  generalize H1 = H at hP hS ⊢
  have hP : va_P (dC, dI) vwCl (wRd cI cZ cJ rd_a (cb_a 0) rd ++ wCb cI cZ cJ cb_a lk_w v_a cb_2 ++ wBr cI cZ cJ v_a v_b v_3) H := hP.sub [0, 1, 2, 3, 4] rfl
  have hD : va_D A (wRd cI cZ cJ rd_a (cb_a 0) rd ++ wCb cI cZ cJ cb_a lk_w v_a cb_2 ++ wBr cI cZ cJ v_a v_b v_3) := hD.sub [0, 1, 2, 3, 4] (by decide) rfl
  refine lv_istore_n (lv' := [(1, .int r_1), (0, .ref (rd_a 0))]) hx hb d_Reader_takeHeight_7 rfl hl (by decide) rfl (fun ls hl => ?_)
  refine lv_iload_n hx hb d_Reader_takeHeight_8 rfl (lv_at hl 0 rfl) ?_
  refine lv_iconst (v := (-1)) hx hb d_Reader_takeHeight_9 (by decide) ?_
  refine lv_icmp_ne (tgt := 20) hx hb d_Reader_takeHeight_10 (by decide) (fun c_4 => ?_) (fun c_4 => ?_)
  · rw [if_neg c_4] at hf
    refine lv_aload_n hx hb d_Reader_takeHeight_20 rfl (lv_at hl 1 rfl) ?_
    refine lv_dup hx hb d_Reader_takeHeight_21 rfl ?_
    refine va_get (D := (dC, dI)) (ci := 5) (v := .int (Rd_h rd)) (C := R_Reader) (T := T_Reader) (N := 5) hx hb hts in_Reader hown hK hP 0 rfl rfl 3 (by decide) (hts _ t_187) (fun _ h9 => h9) rfl d_Reader_takeHeight_22 ?_
    refine lv_iload_n hx hb d_Reader_takeHeight_25 rfl (lv_at hl 0 rfl) ?_
    refine lv_iconst (v := 1) hx hb d_Reader_takeHeight_26 (by decide) ?_
    refine lv_iadd hx hb d_Reader_takeHeight_27 ?_
    refine lv_iadd hx hb d_Reader_takeHeight_28 ?_
    refine va_put (D := (dC, dI)) (ci := 5) (v := .int ((Rd_h rd) + (r_1 + 1))) (ty := .int) (C := R_Reader) (T := T_Reader) (N := 5) hx hb hts in_Reader ty_Reader tyok_Reader nm_Reader hown hK hP hD hS 0 rfl rfl 3 (by decide) (hts _ t_187) (fun _ h9 => h9) rfl (by decide +kernel) rfl rfl (Nat.le_of_ble_eq_true rfl) d_Reader_takeHeight_29 (fun H locs hP hD hS => ?_)
    obtain ⟨rd_5, erd_5, hf⟩ := lt_ex hf
    try dsimp only at hf
    have hP : va_P (dC, dI) vwCl (wRd cI cZ cJ rd_a (cb_a 0) rd_5 ++ wCb cI cZ cJ cb_a lk_w v_a cb_2 ++ wBr cI cZ cJ v_a v_b v_3) H := by rw [erd_5]; exact hP
    have hD : va_D A (wRd cI cZ cJ rd_a (cb_a 0) rd_5 ++ wCb cI cZ cJ cb_a lk_w v_a cb_2 ++ wBr cI cZ cJ v_a v_b v_3) := by rw [erd_5]; exact hD
    refine lv_aload_n hx hb d_Reader_takeHeight_32 rfl (lv_at hl 1 rfl) ?_
    refine va_get (D := (dC, dI)) (ci := 5) (v := .int (Rd_h rd_5)) (C := R_Reader) (T := T_Reader) (N := 5) hx hb hts in_Reader hown hK hP 0 rfl rfl 3 (by decide) (hts _ t_187) (fun _ h9 => h9) rfl d_Reader_takeHeight_33 ?_
    refine lv_bipush (v := 16) hx hb d_Reader_takeHeight_36 (by decide) ?_
    refine lv_icmp_le (tgt := 47) hx hb d_Reader_takeHeight_38 (by decide) (fun c_7 => ?_) (fun c_7 => ?_)
    · rw [if_pos c_7] at hf
      refine lv_aload_n hx hb d_Reader_takeHeight_47 rfl (lv_at hl 1 rfl) ?_
      refine lv_iconst (v := 0) hx hb d_Reader_takeHeight_48 (by decide) ?_
      refine va_put (D := (dC, dI)) (ci := 5) (v := .int 0) (ty := .int) (C := R_Reader) (T := T_Reader) (N := 5) hx hb hts in_Reader ty_Reader tyok_Reader nm_Reader hown hK hP hD hS 0 rfl rfl 4 (by decide) (hts _ t_188) (fun _ h9 => h9) rfl (by decide +kernel) rfl rfl (Nat.le_of_ble_eq_true rfl) d_Reader_takeHeight_49 (fun H locs hP hD hS => ?_)
      obtain ⟨rd_8, erd_8, hf⟩ := lt_ex hf
      try dsimp only at hf
      have hP : va_P (dC, dI) vwCl (wRd cI cZ cJ rd_a (cb_a 0) rd_8 ++ wCb cI cZ cJ cb_a lk_w v_a cb_2 ++ wBr cI cZ cJ v_a v_b v_3) H := by rw [erd_8]; exact hP
      have hD : va_D A (wRd cI cZ cJ rd_a (cb_a 0) rd_8 ++ wCb cI cZ cJ cb_a lk_w v_a cb_2 ++ wBr cI cZ cJ v_a v_b v_3) := by rw [erd_8]; exact hD
      refine lv_aload_n hx hb d_Reader_takeHeight_52 rfl (lv_at hl 1 rfl) ?_
      refine va_get (D := (dC, dI)) (ci := 5) (v := .ref (cb_a 0)) (C := R_Reader) (T := T_Reader) (N := 5) hx hb hts in_Reader hown hK hP 0 rfl rfl 1 (by decide) (hts _ t_185) (fun _ h9 => h9) rfl d_Reader_takeHeight_53 ?_
      refine lv_iconst (v := (-1)) hx hb d_Reader_takeHeight_56 (by decide) ?_
      obtain ⟨⟨r_10, cb_11, v_12⟩, hf1, hf⟩ := bd_ex hf
      try dsimp only at hf
      have hPc := hP.sub (ws' := (wCb cI cZ cJ cb_a lk_w v_a cb_2 ++ wBr cI cZ cJ v_a v_b v_3)) [1, 2, 3, 4] rfl
      have hDc := hD.sub (ws' := (wCb cI cZ cJ cb_a lk_w v_a cb_2 ++ wBr cI cZ cJ v_a v_b v_3)) [1, 2, 3, 4] (by decide) rfl
      have hFc := va_free (wc := (wCb cI cZ cJ cb_a lk_w v_a cb_2 ++ wBr cI cZ cJ v_a v_b v_3)) hD hS hA [1, 2, 3, 4] rfl
      refine va_calli (va_runU (As := [.int (-1)]) (rest := []) ⟨hx, hb, hml, hown, hts⟩ (k_C_ChanceBits_takeBit l dC dI cI cZ cJ cb_a v_a v_b lk_w H.size hf1) (va_cwA 1 hts (gU t_493 t_471 t_472 t_473 t_58 t_474) rfl rfl rfl (hN.2 _ (by decide +kernel)) hdx_Bits_takeBit ⟨Nat.le_trans (Nat.le_of_ble_eq_true rfl) hRf, Nat.le_trans (Nat.le_of_ble_eq_true rfl) hRl⟩) ⟨kP_blind, va_recv hK hP (ci := 3) (q0 := 1) rfl rfl, kP_at hPc hK hDc hN⟩ rfl rfl hl.1 rfl (lv_room (Nat.le_of_ble_eq_true rfl)) d_Reader_takeHeight_57 hRc) hS (fun q _ h => hFc q h) hFc (fun r9 u t H1 locs ht hvm hw hB hz1 hk1 hS => ?_)
      rw [hw]
      obtain ⟨hP, hD⟩ := kQ_join (wr := (wRd cI cZ cJ rd_a (cb_a 0) rd_8)) (w1 := (wCb cI cZ cJ cb_a lk_w v_a cb_11 ++ wBr cI cZ cJ v_a v_b v_12)) hP hD [1, 2, 3, 4] [0] rfl rfl (by decide) (by decide) ht hk1 hFc hB
      generalize H1 = H at hP hS ⊢
      have hP : va_P (dC, dI) vwCl (wRd cI cZ cJ rd_a (cb_a 0) rd_8 ++ wCb cI cZ cJ cb_a lk_w v_a cb_11 ++ wBr cI cZ cJ v_a v_b v_12) H := hP.sub [0, 1, 2, 3, 4] rfl
      have hD : va_D A (wRd cI cZ cJ rd_a (cb_a 0) rd_8 ++ wCb cI cZ cJ cb_a lk_w v_a cb_11 ++ wBr cI cZ cJ v_a v_b v_12) := hD.sub [0, 1, 2, 3, 4] (by decide) rfl
      refine lv_iconst (v := 1) hx hb d_Reader_takeHeight_60 (by decide) ?_
      refine lv_icmp_eq (tgt := 72) hx hb d_Reader_takeHeight_61 (by decide) (fun c_13 => ?_) (fun c_13 => ?_)
      · rw [if_pos c_13] at hf
        refine lv_iconst (v := 1) hx hb d_Reader_takeHeight_72 (by decide) ?_
        refine lv_goto (tgt := 77) hx hb d_Reader_takeHeight_73 (by decide) ?_
        exact hr77 _ _ _ 1 rd_8 cb_11 v_12 (by decide) hP hD hS hf
      · rw [if_neg c_13] at hf
        refine lv_aload_n hx hb d_Reader_takeHeight_64 rfl (lv_at hl 1 rfl) ?_
        refine lv_iconst (v := 1) hx hb d_Reader_takeHeight_65 (by decide) ?_
        obtain ⟨⟨r_14, rd_15⟩, hf1, hf⟩ := bd_ex hf
        try dsimp only at hf
        have hPc := hP.sub (ws' := (wRd cI cZ cJ rd_a (cb_a 0) rd_8)) [0] rfl
        have hDc := hD.sub (ws' := (wRd cI cZ cJ rd_a (cb_a 0) rd_8)) [0] (by decide) rfl
        have hFc := va_free (wc := (wRd cI cZ cJ rd_a (cb_a 0) rd_8)) hD hS hA [0] rfl
        refine va_calli (va_runV (As := [.int 1]) (rest := []) ⟨hx, hb, hml, hown, hts⟩ (k_C_Reader_refuse l dC dI cI cZ cJ rd_a (cb_a 0) H.size hf1) (cwV 1 hts (gV t_485 t_487 t_12 t_61 t_488) rfl rfl rfl hd_Reader_refuse ⟨Nat.le_trans (Nat.le_of_ble_eq_true rfl) hRf, Nat.le_trans (Nat.le_of_ble_eq_true rfl) hRl⟩) ⟨kP_blind, va_recv hK hP (ci := 5) (q0 := 0) rfl rfl, kP_at hPc hK hDc hN⟩ rfl rfl hl.1 rfl (lv_room (Nat.le_of_ble_eq_true rfl)) d_Reader_takeHeight_66 hRc) hS (fun q _ h => hFc q h) hFc (fun r9 u t H1 locs ht hvm hw hB hz1 hk1 hS => ?_)
        rw [hw.1]
        obtain ⟨hP, hD⟩ := kQ_join (wr := (wCb cI cZ cJ cb_a lk_w v_a cb_11 ++ wBr cI cZ cJ v_a v_b v_12)) (w1 := (wRd cI cZ cJ rd_a (cb_a 0) rd_15)) hP hD [0] [1, 2, 3, 4] rfl rfl (by decide) (by decide) ht hk1 hFc hB
        generalize H1 = H at hP hS ⊢
        have hP : va_P (dC, dI) vwCl (wRd cI cZ cJ rd_a (cb_a 0) rd_15 ++ wCb cI cZ cJ cb_a lk_w v_a cb_11 ++ wBr cI cZ cJ v_a v_b v_12) H := hP.sub [4, 0, 1, 2, 3] rfl
        have hD : va_D A (wRd cI cZ cJ rd_a (cb_a 0) rd_15 ++ wCb cI cZ cJ cb_a lk_w v_a cb_11 ++ wBr cI cZ cJ v_a v_b v_12) := hD.sub [4, 0, 1, 2, 3] (by decide) rfl
        refine lv_if_eq (tgt := 76) hx hb d_Reader_takeHeight_69 (by decide) (fun c_16 => ?_) (fun c_16 => ?_)
        · rw [if_pos c_16] at hf
          refine lv_iconst (v := 0) hx hb d_Reader_takeHeight_76 (by decide) ?_
          exact hr77 _ _ _ 0 rd_15 cb_11 v_12 (by decide) hP hD hS hf
        · rw [if_neg c_16] at hf
          refine lv_iconst (v := 1) hx hb d_Reader_takeHeight_72 (by decide) ?_
          refine lv_goto (tgt := 77) hx hb d_Reader_takeHeight_73 (by decide) ?_
          exact hr77 _ _ _ 1 rd_15 cb_11 v_12 (by decide) hP hD hS hf
    · rw [if_neg c_7] at hf
      refine lv_aload_n hx hb d_Reader_takeHeight_41 rfl (lv_at hl 1 rfl) ?_
      refine lv_iconst (v := 1) hx hb d_Reader_takeHeight_42 (by decide) ?_
      obtain ⟨⟨r_17, rd_18⟩, hf1, hf⟩ := bd_ex hf
      try dsimp only at hf
      have hPc := hP.sub (ws' := (wRd cI cZ cJ rd_a (cb_a 0) rd_5)) [0] rfl
      have hDc := hD.sub (ws' := (wRd cI cZ cJ rd_a (cb_a 0) rd_5)) [0] (by decide) rfl
      have hFc := va_free (wc := (wRd cI cZ cJ rd_a (cb_a 0) rd_5)) hD hS hA [0] rfl
      refine va_calli (va_runV (As := [.int 1]) (rest := []) ⟨hx, hb, hml, hown, hts⟩ (k_C_Reader_refuse l dC dI cI cZ cJ rd_a (cb_a 0) H.size hf1) (cwV 1 hts (gV t_485 t_487 t_12 t_61 t_488) rfl rfl rfl hd_Reader_refuse ⟨Nat.le_trans (Nat.le_of_ble_eq_true rfl) hRf, Nat.le_trans (Nat.le_of_ble_eq_true rfl) hRl⟩) ⟨kP_blind, va_recv hK hP (ci := 5) (q0 := 0) rfl rfl, kP_at hPc hK hDc hN⟩ rfl rfl hl.1 rfl (lv_room (Nat.le_of_ble_eq_true rfl)) d_Reader_takeHeight_43 hRc) hS (fun q _ h => hFc q h) hFc (fun r9 u t H1 locs ht hvm hw hB hz1 hk1 hS => ?_)
      rw [hw.1]
      obtain ⟨hP, hD⟩ := kQ_join (wr := (wCb cI cZ cJ cb_a lk_w v_a cb_2 ++ wBr cI cZ cJ v_a v_b v_3)) (w1 := (wRd cI cZ cJ rd_a (cb_a 0) rd_18)) hP hD [0] [1, 2, 3, 4] rfl rfl (by decide) (by decide) ht hk1 hFc hB
      generalize H1 = H at hP hS ⊢
      have hP : va_P (dC, dI) vwCl (wRd cI cZ cJ rd_a (cb_a 0) rd_18 ++ wCb cI cZ cJ cb_a lk_w v_a cb_2 ++ wBr cI cZ cJ v_a v_b v_3) H := hP.sub [4, 0, 1, 2, 3] rfl
      have hD : va_D A (wRd cI cZ cJ rd_a (cb_a 0) rd_18 ++ wCb cI cZ cJ cb_a lk_w v_a cb_2 ++ wBr cI cZ cJ v_a v_b v_3) := hD.sub [4, 0, 1, 2, 3] (by decide) rfl
      obtain ⟨h_z, hf⟩ := gd_ex hf
      exact hr46 _ _ _ r_17  rd_18 cb_2 v_3 (of_decide_eq_true h_z) hP hD hS hf
  · rw [if_pos c_4] at hf
    refine lv_aload_n hx hb d_Reader_takeHeight_13 rfl (lv_at hl 1 rfl) ?_
    refine lv_bipush (v := 7) hx hb d_Reader_takeHeight_14 (by decide) ?_
    obtain ⟨⟨r_19, rd_20⟩, hf1, hf⟩ := bd_ex hf
    try dsimp only at hf
    have hPc := hP.sub (ws' := (wRd cI cZ cJ rd_a (cb_a 0) rd)) [0] rfl
    have hDc := hD.sub (ws' := (wRd cI cZ cJ rd_a (cb_a 0) rd)) [0] (by decide) rfl
    have hFc := va_free (wc := (wRd cI cZ cJ rd_a (cb_a 0) rd)) hD hS hA [0] rfl
    refine va_calli (va_runV (As := [.int 7]) (rest := []) ⟨hx, hb, hml, hown, hts⟩ (k_C_Reader_refuse l dC dI cI cZ cJ rd_a (cb_a 0) H.size hf1) (cwV 1 hts (gV t_485 t_487 t_12 t_61 t_488) rfl rfl rfl hd_Reader_refuse ⟨Nat.le_trans (Nat.le_of_ble_eq_true rfl) hRf, Nat.le_trans (Nat.le_of_ble_eq_true rfl) hRl⟩) ⟨kP_blind, va_recv hK hP (ci := 5) (q0 := 0) rfl rfl, kP_at hPc hK hDc hN⟩ rfl rfl hl.1 rfl (lv_room (Nat.le_of_ble_eq_true rfl)) d_Reader_takeHeight_16 hRc) hS (fun q _ h => hFc q h) hFc (fun r9 u t H1 locs ht hvm hw hB hz1 hk1 hS => ?_)
    rw [hw.1]
    obtain ⟨hP, hD⟩ := kQ_join (wr := (wCb cI cZ cJ cb_a lk_w v_a cb_2 ++ wBr cI cZ cJ v_a v_b v_3)) (w1 := (wRd cI cZ cJ rd_a (cb_a 0) rd_20)) hP hD [0] [1, 2, 3, 4] rfl rfl (by decide) (by decide) ht hk1 hFc hB
    generalize H1 = H at hP hS ⊢
    have hP : va_P (dC, dI) vwCl (wRd cI cZ cJ rd_a (cb_a 0) rd_20 ++ wCb cI cZ cJ cb_a lk_w v_a cb_2 ++ wBr cI cZ cJ v_a v_b v_3) H := hP.sub [4, 0, 1, 2, 3] rfl
    have hD : va_D A (wRd cI cZ cJ rd_a (cb_a 0) rd_20 ++ wCb cI cZ cJ cb_a lk_w v_a cb_2 ++ wBr cI cZ cJ v_a v_b v_3) := hD.sub [4, 0, 1, 2, 3] (by decide) rfl
    obtain ⟨h_z, hf⟩ := gd_ex hf
    exact hr19 _ _ _ r_19  rd_20 cb_2 v_3 (of_decide_eq_true h_z) hP hD hS hf
end
set_option maxHeartbeats 4000000 in
set_option maxRecDepth 100000 in
theorem k_C_Reader_takeHeight (l : Launch) (dC : Nat → ClassId) (dI : Nat → Nat → Nat) (cI cZ cJ : ClassId) (rd_a : Nat → Nat) (cb_a : Nat → Nat) (v_a v_b : Nat) (lk_w : Nat) (sz : Nat) {rd : Rd} {cb : Cb} {v : Br} {r : Int32} {rd' : Rd} {cb' : Cb} {v' : Br} (hf : f_C_Reader_takeHeight rd cb v = some (r, rd', cb', v')) :
    Met l y_Reader_takeHeight ws_Reader_takeHeight ({ frames := 5, cells := 0, slots := 0, locals := 112 }) (va_Pc [.ref (rd_a 0)] (kP (dC, dI) vwCl (TYS cI cZ cJ) (wRd cI cZ cJ rd_a (cb_a 0) rd ++ wCb cI cZ cJ cb_a lk_w v_a cb ++ wBr cI cZ cJ v_a v_b v) sz)) (va_Qi (fun (q : Int32) (_ : Unit) => q = r ∧ vp_nar .boolean r = r) (fun _ t => kQ (dC, dI) vwCl (TYS cI cZ cJ) (wRd cI cZ cJ rd_a (cb_a 0) rd ++ wCb cI cZ cJ cb_a lk_w v_a cb ++ wBr cI cZ cJ v_a v_b v) sz (wRd cI cZ cJ rd_a (cb_a 0) rd' ++ wCb cI cZ cJ cb_a lk_w v_a cb' ++ wBr cI cZ cJ v_a v_b v') t) (va_A (wRd cI cZ cJ rd_a (cb_a 0) rd ++ wCb cI cZ cJ cb_a lk_w v_a cb ++ wBr cI cZ cJ v_a v_b v) sz)) 0 0 (va_A (wRd cI cZ cJ rd_a (cb_a 0) rd ++ wCb cI cZ cJ cb_a lk_w v_a cb ++ wBr cI cZ cJ v_a v_b v) sz) := by
  refine Met.ofW (cc := c_Reader_takeHeight) (maxL := 2) (ret := (some .boolean)) (by decide) rfl ?_
  intro p e s m args below meth c s₁ B hml hv
  obtain ⟨rfl, hsz, hP, hK, hD0, hN⟩ := hv
  have hr := B.returns
  have hlocks := B.notSynchronized
  subst hsz
  have hD := hD0.self (sz := s.heap.size)
  have hl := lv_entry ([.ref (rd_a 0)]) (n := 2) (Nat.le_of_ble_eq_true rfl)
  rw [lg_entry_eq]
  generalize (lg_sl ([.ref (rd_a 0)]) ++ List.replicate (2 - (lg_sl ([.ref (rd_a 0)])).length) Slot.unset).toArray = ls at hl ⊢
  refine B_C_Reader_takeHeight (A := va_A (wRd cI cZ cJ rd_a (cb_a 0) rd ++ wCb cI cZ cJ cb_a lk_w v_a cb ++ wBr cI cZ cJ v_a v_b v) s.heap.size) ⟨B.exec, B.bytes, hml, findClass_of_methodNamed B.named, fun w h => atoms_spec (ws := ws_Reader_takeHeight) B.pre w (List.mem_cons_of_mem _ h), hK, fun q h => Or.inr h, Nat.le_of_ble_eq_true rfl, Nat.le_of_ble_eq_true rfl, hN, Nat.le_of_ble_eq_true rfl, Nat.le_of_ble_eq_true rfl⟩ (fun H locs ls v rd'1 cb'1 v'1 hz hP hD hS hf => ?_) (fun H locs ls v rd'1 cb'1 v'1 hz hP hD hS hf => ?_) (fun H locs ls v rd'1 cb'1 v'1 hz hP hD hS hf => ?_) hP hD va_S.rf hl hf
  · cases hf
    exact W.zret B.exec B.bytes hr (nz_n hz) (fun t ht hW => ⟨⟨_, (), rfl, ⟨rfl, hz⟩, ⟨by rw [ht]; exact hP, va_K.moved hW.alike hK, hD⟩⟩, hS.F ht⟩) hS.2.2 d_Reader_takeHeight_19
  · cases hf
    exact W.zret B.exec B.bytes hr (nz_n hz) (fun t ht hW => ⟨⟨_, (), rfl, ⟨rfl, hz⟩, ⟨by rw [ht]; exact hP, va_K.moved hW.alike hK, hD⟩⟩, hS.F ht⟩) hS.2.2 d_Reader_takeHeight_46
  · cases hf
    exact W.zret B.exec B.bytes hr (nz_n hz) (fun t ht hW => ⟨⟨_, (), rfl, ⟨rfl, hz⟩, ⟨by rw [ht]; exact hP, va_K.moved hW.alike hK, hD⟩⟩, hS.F ht⟩) hS.2.2 d_Reader_takeHeight_77

/-! C_Reader_takeSize -/
def j_C_Reader_takeSize_83_15 (sy : Sy) (cb_10 : Cb) (v_11 : Br) (rd_13 : Rd) : Option (Int32 × Rd × Cb × Br × Sy) := bd (f_C_Reader_refuse rd_13 2) <| fun (r_16, rd_17) => gd (decide (vp_nar .boolean r_16 = r_16)) <| some (r_16, rd_17, cb_10, v_11, sy)
def j_C_Reader_takeSize_37_8 (sy : Sy) (rd_5 : Rd) (cb_6 : Cb) (v_7 : Br) : Option (Int32 × Rd × Cb × Br × Sy) := bd (f_C_Bits_takeNumber cb_6 v_7) <| fun (r_9, cb_10, v_11) => (if r_9 = (-1) then bd (f_C_Reader_refuse rd_5 7) <| fun (r_22, rd_23) => gd (decide (vp_nar .boolean r_22 = r_22)) <| some (r_22, rd_23, cb_10, v_11, sy) else lt' (Rd_s_w rd_5 ((Rd_w rd_5) + r_9)) <| fun rd_13 => (if (Rd_w rd_13) = 0 then j_C_Reader_takeSize_83_15 sy cb_10 v_11 rd_13 else (if (Rd_w rd_13) ≤ 16 then bd (f_Symbols_add sy (Rd_w rd_13) (Rd_h rd_13)) <| fun (r_20, sy_21) => some (1, rd_13, cb_10, v_11, sy_21) else j_C_Reader_takeSize_83_15 sy cb_10 v_11 rd_13)))
def j_C_Reader_takeSize_23_4 (rd : Rd) (sy : Sy) (cb_1 : Cb) (v_2 : Br) (z0_3 : Int32) : Option (Int32 × Rd × Cb × Br × Sy) := (if z0_3 = 0 then j_C_Reader_takeSize_37_8 sy rd cb_1 v_2 else bd (f_C_Reader_takeHeight rd cb_1 v_2) <| fun (r_25, rd_26, cb_27, v_28) => (if r_25 = 0 then some (0, rd_26, cb_27, v_28, sy) else j_C_Reader_takeSize_37_8 sy rd_26 cb_27 v_28))
def f_C_Reader_takeSize (rd : Rd) (cb : Cb) (v : Br) (sy : Sy) : Option (Int32 × Rd × Cb × Br × Sy) := (if (Sy_n sy) = 0 then j_C_Reader_takeSize_23_4 rd sy cb v 1 else bd (f_C_ChanceBits_takeBit cb v (-1)) <| fun (r_31, cb_32, v_33) => (if r_31 = 0 then j_C_Reader_takeSize_23_4 rd sy cb_32 v_33 1 else j_C_Reader_takeSize_23_4 rd sy cb_32 v_33 0))
section
variable {p : Program} {l : Launch} {e : Env} {R : Room} {s : State} {m : MethodId} {args : Array Value} {below : List Frame} {meth : Method} {c : Code} {Q : State → Prop} {A : Nat → Prop}
set_option maxHeartbeats 4000000 in
set_option maxRecDepth 100000 in
theorem B_C_Reader_takeSize {cells slots : Nat} {dC : Nat → ClassId} {dI : Nat → Nat → Nat} {cI cZ cJ : ClassId} {rd_a : Nat → Nat} {cb_a : Nat → Nat} {v_a v_b : Nat} {sy_a : Nat → Nat} {lk_w : Nat} {rd : Rd} {cb : Cb} {v : Br} {sy : Sy} {res : Int32 × Rd × Cb × Br × Sy} (C0 : cxt p c m s args R cells slots R_Reader c_Reader_takeSize tb 4 (dC, dI) vwCl (TYS cI cZ cJ) A 6 133)
    (hr36 : ∀ (H : Heap) (locs : List Loc) (ls : Array Slot) (v : Int32) (rd' : Rd) (cb' : Cb) (v' : Br) (sy' : Sy), vp_nar .boolean v = v → va_P (dC, dI) vwCl (wRd cI cZ cJ rd_a (cb_a 0) rd' ++ wCb cI cZ cJ cb_a lk_w v_a cb' ++ wBr cI cZ cJ v_a v_b v' ++ wSy cI cZ cJ sy_a sy') H → va_D A (wRd cI cZ cJ rd_a (cb_a 0) rd' ++ wCb cI cZ cJ cb_a lk_w v_a cb' ++ wBr cI cZ cJ v_a v_b v' ++ wSy cI cZ cJ sy_a sy') → va_S A s.heap H locs → some (v, rd', cb', v', sy') = some res → W p l e R s m args below meth c H locs cells slots Q (F0 m 36 ls [.int v]))
    (hr56 : ∀ (H : Heap) (locs : List Loc) (ls : Array Slot) (v : Int32) (rd' : Rd) (cb' : Cb) (v' : Br) (sy' : Sy), vp_nar .boolean v = v → va_P (dC, dI) vwCl (wRd cI cZ cJ rd_a (cb_a 0) rd' ++ wCb cI cZ cJ cb_a lk_w v_a cb' ++ wBr cI cZ cJ v_a v_b v' ++ wSy cI cZ cJ sy_a sy') H → va_D A (wRd cI cZ cJ rd_a (cb_a 0) rd' ++ wCb cI cZ cJ cb_a lk_w v_a cb' ++ wBr cI cZ cJ v_a v_b v' ++ wSy cI cZ cJ sy_a sy') → va_S A s.heap H locs → some (v, rd', cb', v', sy') = some res → W p l e R s m args below meth c H locs cells slots Q (F0 m 56 ls [.int v]))
    (hr88 : ∀ (H : Heap) (locs : List Loc) (ls : Array Slot) (v : Int32) (rd' : Rd) (cb' : Cb) (v' : Br) (sy' : Sy), vp_nar .boolean v = v → va_P (dC, dI) vwCl (wRd cI cZ cJ rd_a (cb_a 0) rd' ++ wCb cI cZ cJ cb_a lk_w v_a cb' ++ wBr cI cZ cJ v_a v_b v' ++ wSy cI cZ cJ sy_a sy') H → va_D A (wRd cI cZ cJ rd_a (cb_a 0) rd' ++ wCb cI cZ cJ cb_a lk_w v_a cb' ++ wBr cI cZ cJ v_a v_b v' ++ wSy cI cZ cJ sy_a sy') → va_S A s.heap H locs → some (v, rd', cb', v', sy') = some res → W p l e R s m args below meth c H locs cells slots Q (F0 m 88 ls [.int v]))
    (hr103 : ∀ (H : Heap) (locs : List Loc) (ls : Array Slot) (v : Int32) (rd' : Rd) (cb' : Cb) (v' : Br) (sy' : Sy), vp_nar .boolean v = v → va_P (dC, dI) vwCl (wRd cI cZ cJ rd_a (cb_a 0) rd' ++ wCb cI cZ cJ cb_a lk_w v_a cb' ++ wBr cI cZ cJ v_a v_b v' ++ wSy cI cZ cJ sy_a sy') H → va_D A (wRd cI cZ cJ rd_a (cb_a 0) rd' ++ wCb cI cZ cJ cb_a lk_w v_a cb' ++ wBr cI cZ cJ v_a v_b v' ++ wSy cI cZ cJ sy_a sy') → va_S A s.heap H locs → some (v, rd', cb', v', sy') = some res → W p l e R s m args below meth c H locs cells slots Q (F0 m 103 ls [.int v]))
    {H : Heap} {locs : List Loc} {ls : Array Slot} (hP : va_P (dC, dI) vwCl (wRd cI cZ cJ rd_a (cb_a 0) rd ++ wCb cI cZ cJ cb_a lk_w v_a cb ++ wBr cI cZ cJ v_a v_b v ++ wSy cI cZ cJ sy_a sy) H) (hD : va_D A (wRd cI cZ cJ rd_a (cb_a 0) rd ++ wCb cI cZ cJ cb_a lk_w v_a cb ++ wBr cI cZ cJ v_a v_b v ++ wSy cI cZ cJ sy_a sy)) (hS : va_S A s.heap H locs) (hl : lv_has ls 4 [(0, .ref (rd_a 0)), (1, .ref (sy_a 0))]) (hf : f_C_Reader_takeSize rd cb v sy = some res) : W p l e R s m args below meth c H locs cells slots Q (F0 m 0 ls []) := by
  obtain ⟨hx, hb, hml, hown, hts, hK, hA, hRf, hRl, hN, hRc⟩ := id C0
  rw [f_C_Reader_takeSize] at hf
  refine lv_aload_n hx hb d_Reader_takeSize_0 rfl (lv_at hl 1 rfl) ?_
  refine va_get (D := (dC, dI)) (ci := 0) (v := .int (Sy_n sy)) (C := R_Symbols) (T := T_Symbols) (N := 10) hx hb hts in_Symbols hown hK hP 5 rfl rfl 7 (by decide) (hts _ t_233) (fun _ h9 => h9) rfl d_Reader_takeSize_1 ?_
  have J23_3 : ∀ (H : Heap) (locs : List Loc) (ls : Array Slot) (cb_1 : Cb) (v_2 : Br) (z0_3 : Int32), va_P (dC, dI) vwCl (wRd cI cZ cJ rd_a (cb_a 0) rd ++ wCb cI cZ cJ cb_a lk_w v_a cb_1 ++ wBr cI cZ cJ v_a v_b v_2 ++ wSy cI cZ cJ sy_a sy) H → va_D A (wRd cI cZ cJ rd_a (cb_a 0) rd ++ wCb cI cZ cJ cb_a lk_w v_a cb_1 ++ wBr cI cZ cJ v_a v_b v_2 ++ wSy cI cZ cJ sy_a sy) → va_S A s.heap H locs → lv_has ls 4 [(0, .ref (rd_a 0)), (1, .ref (sy_a 0))] → j_C_Reader_takeSize_23_4 rd sy cb_1 v_2 z0_3 = some res → W p l e R s m args below meth c H locs cells slots Q (F0 m 23 ls [.int z0_3]) := by
    intro H locs ls cb_1 v_2 z0_3 hP hD hS hl hf
    rw [j_C_Reader_takeSize_23_4] at hf
    refine lv_istore_n (lv' := [(2, .int z0_3), (0, .ref (rd_a 0)), (1, .ref (sy_a 0))]) hx hb d_Reader_takeSize_23 rfl hl (by decide) rfl (fun ls hl => ?_)
    refine lv_iload_n hx hb d_Reader_takeSize_24 rfl (lv_at hl 0 rfl) ?_
    have J37_7 : ∀ (H : Heap) (locs : List Loc) (ls : Array Slot) (rd_5 : Rd) (cb_6 : Cb) (v_7 : Br), va_P (dC, dI) vwCl (wRd cI cZ cJ rd_a (cb_a 0) rd_5 ++ wCb cI cZ cJ cb_a lk_w v_a cb_6 ++ wBr cI cZ cJ v_a v_b v_7 ++ wSy cI cZ cJ sy_a sy) H → va_D A (wRd cI cZ cJ rd_a (cb_a 0) rd_5 ++ wCb cI cZ cJ cb_a lk_w v_a cb_6 ++ wBr cI cZ cJ v_a v_b v_7 ++ wSy cI cZ cJ sy_a sy) → va_S A s.heap H locs → lv_has ls 4 [(0, .ref (rd_a 0)), (1, .ref (sy_a 0))] → j_C_Reader_takeSize_37_8 sy rd_5 cb_6 v_7 = some res → W p l e R s m args below meth c H locs cells slots Q (F0 m 37 ls []) := by
      intro H locs ls rd_5 cb_6 v_7 hP hD hS hl hf
      rw [j_C_Reader_takeSize_37_8] at hf
      refine lv_aload_n hx hb d_Reader_takeSize_37 rfl (lv_at hl 0 rfl) ?_
      refine va_get (D := (dC, dI)) (ci := 5) (v := .ref (cb_a 0)) (C := R_Reader) (T := T_Reader) (N := 5) hx hb hts in_Reader hown hK hP 0 rfl rfl 1 (by decide) (hts _ t_185) (fun _ h9 => h9) rfl d_Reader_takeSize_38 ?_
      obtain ⟨⟨r_9, cb_10, v_11⟩, hf1, hf⟩ := bd_ex hf
      try dsimp only at hf
      have hPc := hP.sub (ws' := (wCb cI cZ cJ cb_a lk_w v_a cb_6 ++ wBr cI cZ cJ v_a v_b v_7)) [1, 2, 3, 4] rfl
      have hDc := hD.sub (ws' := (wCb cI cZ cJ cb_a lk_w v_a cb_6 ++ wBr cI cZ cJ v_a v_b v_7)) [1, 2, 3, 4] (by decide) rfl
      have hFc := va_free (wc := (wCb cI cZ cJ cb_a lk_w v_a cb_6 ++ wBr cI cZ cJ v_a v_b v_7)) hD hS hA [1, 2, 3, 4] rfl
      refine va_calli (va_runU (As := []) (rest := []) ⟨hx, hb, hml, hown, hts⟩ (k_C_Bits_takeNumber l dC dI cI cZ cJ cb_a v_a v_b lk_w H.size hf1) (va_cwU 0 hts (gU t_463 t_465 t_466 t_464 t_57 t_468) rfl rfl rfl rfl hd_Bits_takeNumber.2 ⟨Nat.le_trans (Nat.le_of_ble_eq_true rfl) hRf, Nat.le_trans (Nat.le_of_ble_eq_true rfl) hRl⟩) ⟨kP_blind, va_recv hK hP (ci := 3) (q0 := 1) rfl rfl, kP_at hPc hK hDc hN⟩ rfl rfl hl.1 rfl (lv_room (Nat.le_of_ble_eq_true rfl)) d_Reader_takeSize_41 hRc) hS (fun q _ h => hFc q h) hFc (fun r9 u t H1 locs ht hvm hw hB hz1 hk1 hS => ?_)
      rw [hw]
      obtain ⟨hP, hD⟩ := kQ_join (wr := (wRd cI cZ cJ rd_a (cb_a 0) rd_5 ++ wSy cI cZ cJ sy_a sy)) (w1 := (wCb cI cZ cJ cb_a lk_w v_a cb_10 ++ wBr cI cZ cJ v_a v_b v_11)) hP hD [1, 2, 3, 4] [0, 5, 6, 7, 8, 9, 10, 11, 12, 13, 14] rfl rfl (by decide) (by decide) ht hk1 hFc hB
      generalize H1 = H at hP hS ⊢
      have hP : va_P (dC, dI) vwCl (wRd cI cZ cJ rd_a (cb_a 0) rd_5 ++ wCb cI cZ cJ cb_a lk_w v_a cb_10 ++ wBr cI cZ cJ v_a v_b v_11 ++ wSy cI cZ cJ sy_a sy) H := hP.sub [0, 11, 12, 13, 14, 1, 2, 3, 4, 5, 6, 7, 8, 9, 10] rfl
      have hD : va_D A (wRd cI cZ cJ rd_a (cb_a 0) rd_5 ++ wCb cI cZ cJ cb_a lk_w v_a cb_10 ++ wBr cI cZ cJ v_a v_b v_11 ++ wSy cI cZ cJ sy_a sy) := hD.sub [0, 11, 12, 13, 14, 1, 2, 3, 4, 5, 6, 7, 8, 9, 10] (by decide) rfl
      refine lv_istore_n (lv' := [(3, .int r_9), (0, .ref (rd_a 0)), (1, .ref (sy_a 0))]) hx hb d_Reader_takeSize_44 rfl hl (by decide) rfl (fun ls hl => ?_)
      refine lv_iload_n hx hb d_Reader_takeSize_45 rfl (lv_at hl 0 rfl) ?_
      refine lv_iconst (v := (-1)) hx hb d_Reader_takeSize_46 (by decide) ?_
      refine lv_icmp_ne (tgt := 57) hx hb d_Reader_takeSize_47 (by decide) (fun c_12 => ?_) (fun c_12 => ?_)
      · rw [if_neg c_12] at hf
        refine lv_aload_n hx hb d_Reader_takeSize_57 rfl (lv_at hl 1 rfl) ?_
        refine lv_dup hx hb d_Reader_takeSize_58 rfl ?_
        refine va_get (D := (dC, dI)) (ci := 5) (v := .int (Rd_w rd_5)) (C := R_Reader) (T := T_Reader) (N := 5) hx hb hts in_Reader hown hK hP 0 rfl rfl 4 (by decide) (hts _ t_188) (fun _ h9 => h9) rfl d_Reader_takeSize_59 ?_
        refine lv_iload_n hx hb d_Reader_takeSize_62 rfl (lv_at hl 0 rfl) ?_
        refine lv_iadd hx hb d_Reader_takeSize_63 ?_
        refine va_put (D := (dC, dI)) (ci := 5) (v := .int ((Rd_w rd_5) + r_9)) (ty := .int) (C := R_Reader) (T := T_Reader) (N := 5) hx hb hts in_Reader ty_Reader tyok_Reader nm_Reader hown hK hP hD hS 0 rfl rfl 4 (by decide) (hts _ t_188) (fun _ h9 => h9) rfl (by decide +kernel) rfl rfl (Nat.le_of_ble_eq_true rfl) d_Reader_takeSize_64 (fun H locs hP hD hS => ?_)
        obtain ⟨rd_13, erd_13, hf⟩ := lt_ex hf
        try dsimp only at hf
        have hP : va_P (dC, dI) vwCl (wRd cI cZ cJ rd_a (cb_a 0) rd_13 ++ wCb cI cZ cJ cb_a lk_w v_a cb_10 ++ wBr cI cZ cJ v_a v_b v_11 ++ wSy cI cZ cJ sy_a sy) H := by rw [erd_13]; exact hP
        have hD : va_D A (wRd cI cZ cJ rd_a (cb_a 0) rd_13 ++ wCb cI cZ cJ cb_a lk_w v_a cb_10 ++ wBr cI cZ cJ v_a v_b v_11 ++ wSy cI cZ cJ sy_a sy) := by rw [erd_13]; exact hD
        refine lv_aload_n hx hb d_Reader_takeSize_67 rfl (lv_at hl 1 rfl) ?_
        refine va_get (D := (dC, dI)) (ci := 5) (v := .int (Rd_w rd_13)) (C := R_Reader) (T := T_Reader) (N := 5) hx hb hts in_Reader hown hK hP 0 rfl rfl 4 (by decide) (hts _ t_188) (fun _ h9 => h9) rfl d_Reader_takeSize_68 ?_
        have J83_14 : ∀ (H : Heap) (locs : List Loc) (ls : Array Slot), va_P (dC, dI) vwCl (wRd cI cZ cJ rd_a (cb_a 0) rd_13 ++ wCb cI cZ cJ cb_a lk_w v_a cb_10 ++ wBr cI cZ cJ v_a v_b v_11 ++ wSy cI cZ cJ sy_a sy) H → va_D A (wRd cI cZ cJ rd_a (cb_a 0) rd_13 ++ wCb cI cZ cJ cb_a lk_w v_a cb_10 ++ wBr cI cZ cJ v_a v_b v_11 ++ wSy cI cZ cJ sy_a sy) → va_S A s.heap H locs → lv_has ls 4 [(0, .ref (rd_a 0))] → j_C_Reader_takeSize_83_15 sy cb_10 v_11 rd_13 = some res → W p l e R s m args below meth c H locs cells slots Q (F0 m 83 ls []) := by
          intro H locs ls hP hD hS hl hf
          rw [j_C_Reader_takeSize_83_15] at hf
          refine lv_aload_n hx hb d_Reader_takeSize_83 rfl (lv_at hl 0 rfl) ?_
          refine lv_iconst (v := 2) hx hb d_Reader_takeSize_84 (by decide) ?_
          obtain ⟨⟨r_16, rd_17⟩, hf1, hf⟩ := bd_ex hf
          try dsimp only at hf
          have hPc := hP.sub (ws' := (wRd cI cZ cJ rd_a (cb_a 0) rd_13)) [0] rfl
          have hDc := hD.sub (ws' := (wRd cI cZ cJ rd_a (cb_a 0) rd_13)) [0] (by decide) rfl
          have hFc := va_free (wc := (wRd cI cZ cJ rd_a (cb_a 0) rd_13)) hD hS hA [0] rfl
          refine va_calli (va_runV (As := [.int 2]) (rest := []) ⟨hx, hb, hml, hown, hts⟩ (k_C_Reader_refuse l dC dI cI cZ cJ rd_a (cb_a 0) H.size hf1) (cwV 1 hts (gV t_485 t_487 t_12 t_61 t_488) rfl rfl rfl hd_Reader_refuse ⟨Nat.le_trans (Nat.le_of_ble_eq_true rfl) hRf, Nat.le_trans (Nat.le_of_ble_eq_true rfl) hRl⟩) ⟨kP_blind, va_recv hK hP (ci := 5) (q0 := 0) rfl rfl, kP_at hPc hK hDc hN⟩ rfl rfl hl.1 rfl (lv_room (Nat.le_of_ble_eq_true rfl)) d_Reader_takeSize_85 hRc) hS (fun q _ h => hFc q h) hFc (fun r9 u t H1 locs ht hvm hw hB hz1 hk1 hS => ?_)
          rw [hw.1]
          obtain ⟨hP, hD⟩ := kQ_join (wr := (wCb cI cZ cJ cb_a lk_w v_a cb_10 ++ wBr cI cZ cJ v_a v_b v_11 ++ wSy cI cZ cJ sy_a sy)) (w1 := (wRd cI cZ cJ rd_a (cb_a 0) rd_17)) hP hD [0] [1, 2, 3, 4, 5, 6, 7, 8, 9, 10, 11, 12, 13, 14] rfl rfl (by decide) (by decide) ht hk1 hFc hB
          generalize H1 = H at hP hS ⊢
          have hP : va_P (dC, dI) vwCl (wRd cI cZ cJ rd_a (cb_a 0) rd_17 ++ wCb cI cZ cJ cb_a lk_w v_a cb_10 ++ wBr cI cZ cJ v_a v_b v_11 ++ wSy cI cZ cJ sy_a sy) H := hP.sub [14, 0, 1, 2, 3, 4, 5, 6, 7, 8, 9, 10, 11, 12, 13] rfl
          have hD : va_D A (wRd cI cZ cJ rd_a (cb_a 0) rd_17 ++ wCb cI cZ cJ cb_a lk_w v_a cb_10 ++ wBr cI cZ cJ v_a v_b v_11 ++ wSy cI cZ cJ sy_a sy) := hD.sub [14, 0, 1, 2, 3, 4, 5, 6, 7, 8, 9, 10, 11, 12, 13] (by decide) rfl
          obtain ⟨h_z, hf⟩ := gd_ex hf
          exact hr88 _ _ _ r_16  rd_17 cb_10 v_11 sy (of_decide_eq_true h_z) hP hD hS hf
        refine lv_if_eq (tgt := 83) hx hb d_Reader_takeSize_71 (by decide) (fun c_18 => ?_) (fun c_18 => ?_)
        · rw [if_pos c_18] at hf
          exact J83_14 _ _ _  hP hD hS (lv_sub hl [1] rfl) hf
        · rw [if_neg c_18] at hf
          refine lv_aload_n hx hb d_Reader_takeSize_74 rfl (lv_at hl 1 rfl) ?_
          refine va_get (D := (dC, dI)) (ci := 5) (v := .int (Rd_w rd_13)) (C := R_Reader) (T := T_Reader) (N := 5) hx hb hts in_Reader hown hK hP 0 rfl rfl 4 (by decide) (hts _ t_188) (fun _ h9 => h9) rfl d_Reader_takeSize_75 ?_
          refine lv_bipush (v := 16) hx hb d_Reader_takeSize_78 (by decide) ?_
          refine lv_icmp_le (tgt := 89) hx hb d_Reader_takeSize_80 (by decide) (fun c_19 => ?_) (fun c_19 => ?_)
          · rw [if_pos c_19] at hf
            refine lv_aload_n hx hb d_Reader_takeSize_89 rfl (lv_at hl 2 rfl) ?_
            refine lv_aload_n hx hb d_Reader_takeSize_90 rfl (lv_at hl 1 rfl) ?_
            refine va_get (D := (dC, dI)) (ci := 5) (v := .int (Rd_w rd_13)) (C := R_Reader) (T := T_Reader) (N := 5) hx hb hts in_Reader hown hK hP 0 rfl rfl 4 (by decide) (hts _ t_188) (fun _ h9 => h9) rfl d_Reader_takeSize_91 ?_
            refine lv_aload_n hx hb d_Reader_takeSize_94 rfl (lv_at hl 1 rfl) ?_
            refine va_get (D := (dC, dI)) (ci := 5) (v := .int (Rd_h rd_13)) (C := R_Reader) (T := T_Reader) (N := 5) hx hb hts in_Reader hown hK hP 0 rfl rfl 3 (by decide) (hts _ t_187) (fun _ h9 => h9) rfl d_Reader_takeSize_95 ?_
            obtain ⟨⟨r_20, sy_21⟩, hf1, hf⟩ := bd_ex hf
            try dsimp only at hf
            have hPc := hP.sub (ws' := (wSy cI cZ cJ sy_a sy)) [5, 6, 7, 8, 9, 10, 11, 12, 13, 14] rfl
            have hDc := hD.sub (ws' := (wSy cI cZ cJ sy_a sy)) [5, 6, 7, 8, 9, 10, 11, 12, 13, 14] (by decide) rfl
            have hFc := va_free (wc := (wSy cI cZ cJ sy_a sy)) hD hS hA [5, 6, 7, 8, 9, 10, 11, 12, 13, 14] rfl
            refine va_calli (va_runV (As := [.int (Rd_w rd_13), .int (Rd_h rd_13)]) (rest := []) ⟨hx, hb, hml, hown, hts⟩ (k_Symbols_add l dC dI cI cZ cJ sy_a H.size hf1) (cwV 2 hts (gV t_498 t_499 t_500 t_62 t_501) rfl rfl rfl hd_Symbols_add ⟨Nat.le_trans (Nat.le_of_ble_eq_true rfl) hRf, Nat.le_trans (Nat.le_of_ble_eq_true rfl) hRl⟩) ⟨kP_blind, va_recv hK hP (ci := 0) (q0 := 5) rfl rfl, kP_at hPc hK hDc hN⟩ rfl rfl hl.1 rfl (lv_room (Nat.le_of_ble_eq_true rfl)) d_Reader_takeSize_98 hRc) hS (fun q _ h => hFc q h) hFc (fun r9 u t H1 locs ht hvm hw hB hz1 hk1 hS => ?_)
            rw [hw]
            obtain ⟨hP, hD⟩ := kQ_join (wr := (wRd cI cZ cJ rd_a (cb_a 0) rd_13 ++ wCb cI cZ cJ cb_a lk_w v_a cb_10 ++ wBr cI cZ cJ v_a v_b v_11)) (w1 := (wSy cI cZ cJ sy_a sy_21)) hP hD [5, 6, 7, 8, 9, 10, 11, 12, 13, 14] [0, 1, 2, 3, 4] rfl rfl (by decide) (by decide) ht hk1 hFc hB
            generalize H1 = H at hP hS ⊢
            have hP : va_P (dC, dI) vwCl (wRd cI cZ cJ rd_a (cb_a 0) rd_13 ++ wCb cI cZ cJ cb_a lk_w v_a cb_10 ++ wBr cI cZ cJ v_a v_b v_11 ++ wSy cI cZ cJ sy_a sy_21) H := hP.sub [0, 1, 2, 3, 4, 5, 6, 7, 8, 9, 10, 11, 12, 13, 14] rfl
            have hD : va_D A (wRd cI cZ cJ rd_a (cb_a 0) rd_13 ++ wCb cI cZ cJ cb_a lk_w v_a cb_10 ++ wBr cI cZ cJ v_a v_b v_11 ++ wSy cI cZ cJ sy_a sy_21) := hD.sub [0, 1, 2, 3, 4, 5, 6, 7, 8, 9, 10, 11, 12, 13, 14] (by decide) rfl
            refine lv_pop hx hb d_Reader_takeSize_101 rfl ?_
            refine lv_iconst (v := 1) hx hb d_Reader_takeSize_102 (by decide) ?_
            exact hr103 _ _ _ 1 rd_13 cb_10 v_11 sy_21 (by decide) hP hD hS hf
          · rw [if_neg c_19] at hf
            exact J83_14 _ _ _  hP hD hS (lv_sub hl [1] rfl) hf
      · rw [if_pos c_12] at hf
        refine lv_aload_n hx hb d_Reader_takeSize_50 rfl (lv_at hl 1 rfl) ?_
        refine lv_bipush (v := 7) hx hb d_Reader_takeSize_51 (by decide) ?_
        obtain ⟨⟨r_22, rd_23⟩, hf1, hf⟩ := bd_ex hf
        try dsimp only at hf
        have hPc := hP.sub (ws' := (wRd cI cZ cJ rd_a (cb_a 0) rd_5)) [0] rfl
        have hDc := hD.sub (ws' := (wRd cI cZ cJ rd_a (cb_a 0) rd_5)) [0] (by decide) rfl
        have hFc := va_free (wc := (wRd cI cZ cJ rd_a (cb_a 0) rd_5)) hD hS hA [0] rfl
        refine va_calli (va_runV (As := [.int 7]) (rest := []) ⟨hx, hb, hml, hown, hts⟩ (k_C_Reader_refuse l dC dI cI cZ cJ rd_a (cb_a 0) H.size hf1) (cwV 1 hts (gV t_485 t_487 t_12 t_61 t_488) rfl rfl rfl hd_Reader_refuse ⟨Nat.le_trans (Nat.le_of_ble_eq_true rfl) hRf, Nat.le_trans (Nat.le_of_ble_eq_true rfl) hRl⟩) ⟨kP_blind, va_recv hK hP (ci := 5) (q0 := 0) rfl rfl, kP_at hPc hK hDc hN⟩ rfl rfl hl.1 rfl (lv_room (Nat.le_of_ble_eq_true rfl)) d_Reader_takeSize_53 hRc) hS (fun q _ h => hFc q h) hFc (fun r9 u t H1 locs ht hvm hw hB hz1 hk1 hS => ?_)
        rw [hw.1]
        obtain ⟨hP, hD⟩ := kQ_join (wr := (wCb cI cZ cJ cb_a lk_w v_a cb_10 ++ wBr cI cZ cJ v_a v_b v_11 ++ wSy cI cZ cJ sy_a sy)) (w1 := (wRd cI cZ cJ rd_a (cb_a 0) rd_23)) hP hD [0] [1, 2, 3, 4, 5, 6, 7, 8, 9, 10, 11, 12, 13, 14] rfl rfl (by decide) (by decide) ht hk1 hFc hB
        generalize H1 = H at hP hS ⊢
        have hP : va_P (dC, dI) vwCl (wRd cI cZ cJ rd_a (cb_a 0) rd_23 ++ wCb cI cZ cJ cb_a lk_w v_a cb_10 ++ wBr cI cZ cJ v_a v_b v_11 ++ wSy cI cZ cJ sy_a sy) H := hP.sub [14, 0, 1, 2, 3, 4, 5, 6, 7, 8, 9, 10, 11, 12, 13] rfl
        have hD : va_D A (wRd cI cZ cJ rd_a (cb_a 0) rd_23 ++ wCb cI cZ cJ cb_a lk_w v_a cb_10 ++ wBr cI cZ cJ v_a v_b v_11 ++ wSy cI cZ cJ sy_a sy) := hD.sub [14, 0, 1, 2, 3, 4, 5, 6, 7, 8, 9, 10, 11, 12, 13] (by decide) rfl
        obtain ⟨h_z, hf⟩ := gd_ex hf
        exact hr56 _ _ _ r_22  rd_23 cb_10 v_11 sy (of_decide_eq_true h_z) hP hD hS hf
    refine lv_if_eq (tgt := 37) hx hb d_Reader_takeSize_25 (by decide) (fun c_24 => ?_) (fun c_24 => ?_)
    · rw [if_pos c_24] at hf
      exact J37_7 _ _ _ rd cb_1 v_2 hP hD hS (lv_sub hl [1, 2] rfl) hf
    · rw [if_neg c_24] at hf
      refine lv_aload_n hx hb d_Reader_takeSize_28 rfl (lv_at hl 1 rfl) ?_
      obtain ⟨⟨r_25, rd_26, cb_27, v_28⟩, hf1, hf⟩ := bd_ex hf
      try dsimp only at hf
      have hPc := hP.sub (ws' := (wRd cI cZ cJ rd_a (cb_a 0) rd ++ wCb cI cZ cJ cb_a lk_w v_a cb_1 ++ wBr cI cZ cJ v_a v_b v_2)) [0, 1, 2, 3, 4] rfl
      have hDc := hD.sub (ws' := (wRd cI cZ cJ rd_a (cb_a 0) rd ++ wCb cI cZ cJ cb_a lk_w v_a cb_1 ++ wBr cI cZ cJ v_a v_b v_2)) [0, 1, 2, 3, 4] (by decide) rfl
      have hFc := va_free (wc := (wRd cI cZ cJ rd_a (cb_a 0) rd ++ wCb cI cZ cJ cb_a lk_w v_a cb_1 ++ wBr cI cZ cJ v_a v_b v_2)) hD hS hA [0, 1, 2, 3, 4] rfl
      refine va_calli (va_runV (As := []) (rest := []) ⟨hx, hb, hml, hown, hts⟩ (k_C_Reader_takeHeight l dC dI cI cZ cJ rd_a cb_a v_a v_b lk_w H.size hf1) (cwV 0 hts (gV t_494 t_496 t_14 t_61 t_497) rfl rfl rfl hd_Reader_takeHeight ⟨Nat.le_trans (Nat.le_of_ble_eq_true rfl) hRf, Nat.le_trans (Nat.le_of_ble_eq_true rfl) hRl⟩) ⟨kP_blind, va_recv hK hP (ci := 5) (q0 := 0) rfl rfl, kP_at hPc hK hDc hN⟩ rfl rfl hl.1 rfl (lv_room (Nat.le_of_ble_eq_true rfl)) d_Reader_takeSize_29 hRc) hS (fun q _ h => hFc q h) hFc (fun r9 u t H1 locs ht hvm hw hB hz1 hk1 hS => ?_)
      rw [hw.1]
      obtain ⟨hP, hD⟩ := kQ_join (wr := (wSy cI cZ cJ sy_a sy)) (w1 := (wRd cI cZ cJ rd_a (cb_a 0) rd_26 ++ wCb cI cZ cJ cb_a lk_w v_a cb_27 ++ wBr cI cZ cJ v_a v_b v_28)) hP hD [0, 1, 2, 3, 4] [5, 6, 7, 8, 9, 10, 11, 12, 13, 14] rfl rfl (by decide) (by decide) ht hk1 hFc hB
      generalize H1 = H at hP hS ⊢
      have hP : va_P (dC, dI) vwCl (wRd cI cZ cJ rd_a (cb_a 0) rd_26 ++ wCb cI cZ cJ cb_a lk_w v_a cb_27 ++ wBr cI cZ cJ v_a v_b v_28 ++ wSy cI cZ cJ sy_a sy) H := hP.sub [10, 11, 12, 13, 14, 0, 1, 2, 3, 4, 5, 6, 7, 8, 9] rfl
      have hD : va_D A (wRd cI cZ cJ rd_a (cb_a 0) rd_26 ++ wCb cI cZ cJ cb_a lk_w v_a cb_27 ++ wBr cI cZ cJ v_a v_b v_28 ++ wSy cI cZ cJ sy_a sy) := hD.sub [10, 11, 12, 13, 14, 0, 1, 2, 3, 4, 5, 6, 7, 8, 9] (by decide) rfl
      refine lv_if_ne (tgt := 37) hx hb d_Reader_takeSize_32 (by decide) (fun c_29 => ?_) (fun c_29 => ?_)
      · rw [if_neg c_29] at hf
        exact J37_7 _ _ _ rd_26 cb_27 v_28 hP hD hS (lv_sub hl [1, 2] rfl) hf
      · rw [if_pos c_29] at hf
        refine lv_iconst (v := 0) hx hb d_Reader_takeSize_35 (by decide) ?_
        exact hr36 _ _ _ 0 rd_26 cb_27 v_28 sy (by decide) hP hD hS hf
  refine lv_if_eq (tgt := 18) hx hb d_Reader_takeSize_4 (by decide) (fun c_30 => ?_) (fun c_30 => ?_)
  · rw [if_pos c_30] at hf
    refine lv_iconst (v := 1) hx hb d_Reader_takeSize_18 (by decide) ?_
    refine lv_goto (tgt := 23) hx hb d_Reader_takeSize_19 (by decide) ?_
    exact J23_3 _ _ _ cb v 1 hP hD hS (lv_sub hl [0, 1] rfl) hf
  · rw [if_neg c_30] at hf
    refine lv_aload_n hx hb d_Reader_takeSize_7 rfl (lv_at hl 0 rfl) ?_
    refine va_get (D := (dC, dI)) (ci := 5) (v := .ref (cb_a 0)) (C := R_Reader) (T := T_Reader) (N := 5) hx hb hts in_Reader hown hK hP 0 rfl rfl 1 (by decide) (hts _ t_185) (fun _ h9 => h9) rfl d_Reader_takeSize_8 ?_
    refine lv_iconst (v := (-1)) hx hb d_Reader_takeSize_11 (by decide) ?_
    obtain ⟨⟨r_31, cb_32, v_33⟩, hf1, hf⟩ := bd_ex hf
    try dsimp only at hf
    have hPc := hP.sub (ws' := (wCb cI cZ cJ cb_a lk_w v_a cb ++ wBr cI cZ cJ v_a v_b v)) [1, 2, 3, 4] rfl
    have hDc := hD.sub (ws' := (wCb cI cZ cJ cb_a lk_w v_a cb ++ wBr cI cZ cJ v_a v_b v)) [1, 2, 3, 4] (by decide) rfl
    have hFc := va_free (wc := (wCb cI cZ cJ cb_a lk_w v_a cb ++ wBr cI cZ cJ v_a v_b v)) hD hS hA [1, 2, 3, 4] rfl
    refine va_calli (va_runU (As := [.int (-1)]) (rest := []) ⟨hx, hb, hml, hown, hts⟩ (k_C_ChanceBits_takeBit l dC dI cI cZ cJ cb_a v_a v_b lk_w H.size hf1) (va_cwA 1 hts (gU t_493 t_471 t_472 t_473 t_58 t_474) rfl rfl rfl (hN.2 _ (by decide +kernel)) hdx_Bits_takeBit ⟨Nat.le_trans (Nat.le_of_ble_eq_true rfl) hRf, Nat.le_trans (Nat.le_of_ble_eq_true rfl) hRl⟩) ⟨kP_blind, va_recv hK hP (ci := 3) (q0 := 1) rfl rfl, kP_at hPc hK hDc hN⟩ rfl rfl hl.1 rfl (lv_room (Nat.le_of_ble_eq_true rfl)) d_Reader_takeSize_12 hRc) hS (fun q _ h => hFc q h) hFc (fun r9 u t H1 locs ht hvm hw hB hz1 hk1 hS => ?_)
    rw [hw]
    obtain ⟨hP, hD⟩ := kQ_join (wr := (wRd cI cZ cJ rd_a (cb_a 0) rd ++ wSy cI cZ cJ sy_a sy)) (w1 := (wCb cI cZ cJ cb_a lk_w v_a cb_32 ++ wBr cI cZ cJ v_a v_b v_33)) hP hD [1, 2, 3, 4] [0, 5, 6, 7, 8, 9, 10, 11, 12, 13, 14] rfl rfl (by decide) (by decide) ht hk1 hFc hB
    generalize H1 = H at hP hS ⊢
    have hP : va_P (dC, dI) vwCl (wRd cI cZ cJ rd_a (cb_a 0) rd ++ wCb cI cZ cJ cb_a lk_w v_a cb_32 ++ wBr cI cZ cJ v_a v_b v_33 ++ wSy cI cZ cJ sy_a sy) H := hP.sub [0, 11, 12, 13, 14, 1, 2, 3, 4, 5, 6, 7, 8, 9, 10] rfl
    have hD : va_D A (wRd cI cZ cJ rd_a (cb_a 0) rd ++ wCb cI cZ cJ cb_a lk_w v_a cb_32 ++ wBr cI cZ cJ v_a v_b v_33 ++ wSy cI cZ cJ sy_a sy) := hD.sub [0, 11, 12, 13, 14, 1, 2, 3, 4, 5, 6, 7, 8, 9, 10] (by decide) rfl
    refine lv_if_ne (tgt := 22) hx hb d_Reader_takeSize_15 (by decide) (fun c_34 => ?_) (fun c_34 => ?_)
    · rw [if_neg c_34] at hf
      refine lv_iconst (v := 0) hx hb d_Reader_takeSize_22 (by decide) ?_
      exact J23_3 _ _ _ cb_32 v_33 0 hP hD hS (lv_sub hl [0, 1] rfl) hf
    · rw [if_pos c_34] at hf
      refine lv_iconst (v := 1) hx hb d_Reader_takeSize_18 (by decide) ?_
      refine lv_goto (tgt := 23) hx hb d_Reader_takeSize_19 (by decide) ?_
      exact J23_3 _ _ _ cb_32 v_33 1 hP hD hS (lv_sub hl [0, 1] rfl) hf
end
set_option maxHeartbeats 4000000 in
set_option maxRecDepth 100000 in
theorem k_C_Reader_takeSize (l : Launch) (dC : Nat → ClassId) (dI : Nat → Nat → Nat) (cI cZ cJ : ClassId) (rd_a : Nat → Nat) (cb_a : Nat → Nat) (v_a v_b : Nat) (sy_a : Nat → Nat) (lk_w : Nat) (sz : Nat) {rd : Rd} {cb : Cb} {v : Br} {sy : Sy} {r : Int32} {rd' : Rd} {cb' : Cb} {v' : Br} {sy' : Sy} (hf : f_C_Reader_takeSize rd cb v sy = some (r, rd', cb', v', sy')) :
    Met l y_Reader_takeSize ws_Reader_takeSize ({ frames := 6, cells := 0, slots := 0, locals := 133 }) (va_Pc [.ref (rd_a 0), .ref (sy_a 0)] (kP (dC, dI) vwCl (TYS cI cZ cJ) (wRd cI cZ cJ rd_a (cb_a 0) rd ++ wCb cI cZ cJ cb_a lk_w v_a cb ++ wBr cI cZ cJ v_a v_b v ++ wSy cI cZ cJ sy_a sy) sz)) (va_Qi (fun (q : Int32) (_ : Unit) => q = r ∧ vp_nar .boolean r = r) (fun _ t => kQ (dC, dI) vwCl (TYS cI cZ cJ) (wRd cI cZ cJ rd_a (cb_a 0) rd ++ wCb cI cZ cJ cb_a lk_w v_a cb ++ wBr cI cZ cJ v_a v_b v ++ wSy cI cZ cJ sy_a sy) sz (wRd cI cZ cJ rd_a (cb_a 0) rd' ++ wCb cI cZ cJ cb_a lk_w v_a cb' ++ wBr cI cZ cJ v_a v_b v' ++ wSy cI cZ cJ sy_a sy') t) (va_A (wRd cI cZ cJ rd_a (cb_a 0) rd ++ wCb cI cZ cJ cb_a lk_w v_a cb ++ wBr cI cZ cJ v_a v_b v ++ wSy cI cZ cJ sy_a sy) sz)) 0 0 (va_A (wRd cI cZ cJ rd_a (cb_a 0) rd ++ wCb cI cZ cJ cb_a lk_w v_a cb ++ wBr cI cZ cJ v_a v_b v ++ wSy cI cZ cJ sy_a sy) sz) := by
  refine Met.ofW (cc := c_Reader_takeSize) (maxL := 4) (ret := (some .boolean)) (by decide) rfl ?_
  intro p e s m args below meth c s₁ B hml hv
  obtain ⟨rfl, hsz, hP, hK, hD0, hN⟩ := hv
  have hr := B.returns
  have hlocks := B.notSynchronized
  subst hsz
  have hD := hD0.self (sz := s.heap.size)
  have hl := lv_entry ([.ref (rd_a 0), .ref (sy_a 0)]) (n := 4) (Nat.le_of_ble_eq_true rfl)
  rw [lg_entry_eq]
  generalize (lg_sl ([.ref (rd_a 0), .ref (sy_a 0)]) ++ List.replicate (4 - (lg_sl ([.ref (rd_a 0), .ref (sy_a 0)])).length) Slot.unset).toArray = ls at hl ⊢
  refine B_C_Reader_takeSize (A := va_A (wRd cI cZ cJ rd_a (cb_a 0) rd ++ wCb cI cZ cJ cb_a lk_w v_a cb ++ wBr cI cZ cJ v_a v_b v ++ wSy cI cZ cJ sy_a sy) s.heap.size) ⟨B.exec, B.bytes, hml, findClass_of_methodNamed B.named, fun w h => atoms_spec (ws := ws_Reader_takeSize) B.pre w (List.mem_cons_of_mem _ h), hK, fun q h => Or.inr h, Nat.le_of_ble_eq_true rfl, Nat.le_of_ble_eq_true rfl, hN, Nat.le_of_ble_eq_true rfl, Nat.le_of_ble_eq_true rfl⟩ (fun H locs ls v rd'1 cb'1 v'1 sy'1 hz hP hD hS hf => ?_) (fun H locs ls v rd'1 cb'1 v'1 sy'1 hz hP hD hS hf => ?_) (fun H locs ls v rd'1 cb'1 v'1 sy'1 hz hP hD hS hf => ?_) (fun H locs ls v rd'1 cb'1 v'1 sy'1 hz hP hD hS hf => ?_) hP hD va_S.rf hl hf
  · cases hf
    exact W.zret B.exec B.bytes hr (nz_n hz) (fun t ht hW => ⟨⟨_, (), rfl, ⟨rfl, hz⟩, ⟨by rw [ht]; exact hP, va_K.moved hW.alike hK, hD⟩⟩, hS.F ht⟩) hS.2.2 d_Reader_takeSize_36
  · cases hf
    exact W.zret B.exec B.bytes hr (nz_n hz) (fun t ht hW => ⟨⟨_, (), rfl, ⟨rfl, hz⟩, ⟨by rw [ht]; exact hP, va_K.moved hW.alike hK, hD⟩⟩, hS.F ht⟩) hS.2.2 d_Reader_takeSize_56
  · cases hf
    exact W.zret B.exec B.bytes hr (nz_n hz) (fun t ht hW => ⟨⟨_, (), rfl, ⟨rfl, hz⟩, ⟨by rw [ht]; exact hP, va_K.moved hW.alike hK, hD⟩⟩, hS.F ht⟩) hS.2.2 d_Reader_takeSize_88
  · cases hf
    exact W.zret B.exec B.bytes hr (nz_n hz) (fun t ht hW => ⟨⟨_, (), rfl, ⟨rfl, hz⟩, ⟨by rw [ht]; exact hP, va_K.moved hW.alike hK, hD⟩⟩, hS.F ht⟩) hS.2.2 d_Reader_takeSize_103

/-! C_Reader_takeBase -/
def j_C_Reader_takeBase_87_19 (rd : Rd) (sy : Sy) (cb_16 : Cb) (v_17 : Br) : Option (Int32 × Rd × Cb × Br × Sy) := bd (f_C_Reader_refuse rd 4) <| fun (r_20, rd_21) => gd (decide (vp_nar .boolean r_20 = r_20)) <| some (r_20, rd_21, cb_16, v_17, sy)
def f_C_Reader_takeBase (rd : Rd) (cb : Cb) (v : Br) (sy : Sy) (x2 : Int32) : Option (Int32 × Rd × Cb × Br × Sy) := bd (f_C_ChanceBits_takeBit cb v (-1)) <| fun (r_1, cb_2, v_3) => (if r_1 = 0 then some (1, rd, cb_2, v_3, sy) else bd (f_C_Bits_takeNumber cb_2 v_3) <| fun (r_5, cb_6, v_7) => (if r_5 = (-1) then bd (f_C_Reader_refuse rd 7) <| fun (r_27, rd_28) => gd (decide (vp_nar .boolean r_27 = r_27)) <| some (r_27, rd_28, cb_6, v_7, sy) else lt' ((x2 - 1) - r_5) <| fun x4_9 => (if 0 ≤ x4_9 then bd (f_C_Bits_takeBits cb_6 v_7 4) <| fun (r_11, cb_12, v_13) => lt' (r_11 - 4) <| fun x5_14 => bd (f_C_Bits_takeBits cb_12 v_13 4) <| fun (r_15, cb_16, v_17) => lt' (r_15 - 4) <| fun x6_18 => (if 4 < x5_14 then j_C_Reader_takeBase_87_19 rd sy cb_16 v_17 else (if x6_18 ≤ 4 then bd (f_Symbols_refine sy x2 x4_9 x5_14 x6_18) <| fun sy_24 => some (1, rd, cb_16, v_17, sy_24) else j_C_Reader_takeBase_87_19 rd sy cb_16 v_17)) else bd (f_C_Reader_refuse rd 3) <| fun (r_25, rd_26) => gd (decide (vp_nar .boolean r_25 = r_25)) <| some (r_25, rd_26, cb_6, v_7, sy))))
section
variable {p : Program} {l : Launch} {e : Env} {R : Room} {s : State} {m : MethodId} {args : Array Value} {below : List Frame} {meth : Method} {c : Code} {Q : State → Prop} {A : Nat → Prop}
set_option maxHeartbeats 4000000 in
set_option maxRecDepth 100000 in
theorem B_C_Reader_takeBase {cells slots : Nat} {dC : Nat → ClassId} {dI : Nat → Nat → Nat} {cI cZ cJ : ClassId} {rd_a : Nat → Nat} {cb_a : Nat → Nat} {v_a v_b : Nat} {sy_a : Nat → Nat} {lk_w : Nat} {rd : Rd} {cb : Cb} {v : Br} {sy : Sy} {x2 : Int32} {res : Int32 × Rd × Cb × Br × Sy} (C0 : cxt p c m s args R cells slots R_Reader c_Reader_takeBase tb 7 (dC, dI) vwCl (TYS cI cZ cJ) A 5 112)
    (hr12 : ∀ (H : Heap) (locs : List Loc) (ls : Array Slot) (v : Int32) (rd' : Rd) (cb' : Cb) (v' : Br) (sy' : Sy), vp_nar .boolean v = v → va_P (dC, dI) vwCl (wRd cI cZ cJ rd_a (cb_a 0) rd' ++ wCb cI cZ cJ cb_a lk_w v_a cb' ++ wBr cI cZ cJ v_a v_b v' ++ wSy cI cZ cJ sy_a sy') H → va_D A (wRd cI cZ cJ rd_a (cb_a 0) rd' ++ wCb cI cZ cJ cb_a lk_w v_a cb' ++ wBr cI cZ cJ v_a v_b v' ++ wSy cI cZ cJ sy_a sy') → va_S A s.heap H locs → some (v, rd', cb', v', sy') = some res → W p l e R s m args below meth c H locs cells slots Q (F0 m 12 ls [.int v]))
    (hr32 : ∀ (H : Heap) (locs : List Loc) (ls : Array Slot) (v : Int32) (rd' : Rd) (cb' : Cb) (v' : Br) (sy' : Sy), vp_nar .boolean v = v → va_P (dC, dI) vwCl (wRd cI cZ cJ rd_a (cb_a 0) rd' ++ wCb cI cZ cJ cb_a lk_w v_a cb' ++ wBr cI cZ cJ v_a v_b v' ++ wSy cI cZ cJ sy_a sy') H → va_D A (wRd cI cZ cJ rd_a (cb_a 0) rd' ++ wCb cI cZ cJ cb_a lk_w v_a cb' ++ wBr cI cZ cJ v_a v_b v' ++ wSy cI cZ cJ sy_a sy') → va_S A s.heap H locs → some (v, rd', cb', v', sy') = some res → W p l e R s m args below meth c H locs cells slots Q (F0 m 32 ls [.int v]))
    (hr50 : ∀ (H : Heap) (locs : List Loc) (ls : Array Slot) (v : Int32) (rd' : Rd) (cb' : Cb) (v' : Br) (sy' : Sy), vp_nar .boolean v = v → va_P (dC, dI) vwCl (wRd cI cZ cJ rd_a (cb_a 0) rd' ++ wCb cI cZ cJ cb_a lk_w v_a cb' ++ wBr cI cZ cJ v_a v_b v' ++ wSy cI cZ cJ sy_a sy') H → va_D A (wRd cI cZ cJ rd_a (cb_a 0) rd' ++ wCb cI cZ cJ cb_a lk_w v_a cb' ++ wBr cI cZ cJ v_a v_b v' ++ wSy cI cZ cJ sy_a sy') → va_S A s.heap H locs → some (v, rd', cb', v', sy') = some res → W p l e R s m args below meth c H locs cells slots Q (F0 m 50 ls [.int v]))
    (hr92 : ∀ (H : Heap) (locs : List Loc) (ls : Array Slot) (v : Int32) (rd' : Rd) (cb' : Cb) (v' : Br) (sy' : Sy), vp_nar .boolean v = v → va_P (dC, dI) vwCl (wRd cI cZ cJ rd_a (cb_a 0) rd' ++ wCb cI cZ cJ cb_a lk_w v_a cb' ++ wBr cI cZ cJ v_a v_b v' ++ wSy cI cZ cJ sy_a sy') H → va_D A (wRd cI cZ cJ rd_a (cb_a 0) rd' ++ wCb cI cZ cJ cb_a lk_w v_a cb' ++ wBr cI cZ cJ v_a v_b v' ++ wSy cI cZ cJ sy_a sy') → va_S A s.heap H locs → some (v, rd', cb', v', sy') = some res → W p l e R s m args below meth c H locs cells slots Q (F0 m 92 ls [.int v]))
    (hr105 : ∀ (H : Heap) (locs : List Loc) (ls : Array Slot) (v : Int32) (rd' : Rd) (cb' : Cb) (v' : Br) (sy' : Sy), vp_nar .boolean v = v → va_P (dC, dI) vwCl (wRd cI cZ cJ rd_a (cb_a 0) rd' ++ wCb cI cZ cJ cb_a lk_w v_a cb' ++ wBr cI cZ cJ v_a v_b v' ++ wSy cI cZ cJ sy_a sy') H → va_D A (wRd cI cZ cJ rd_a (cb_a 0) rd' ++ wCb cI cZ cJ cb_a lk_w v_a cb' ++ wBr cI cZ cJ v_a v_b v' ++ wSy cI cZ cJ sy_a sy') → va_S A s.heap H locs → some (v, rd', cb', v', sy') = some res → W p l e R s m args below meth c H locs cells slots Q (F0 m 105 ls [.int v]))
    {H : Heap} {locs : List Loc} {ls : Array Slot} (hP : va_P (dC, dI) vwCl (wRd cI cZ cJ rd_a (cb_a 0) rd ++ wCb cI cZ cJ cb_a lk_w v_a cb ++ wBr cI cZ cJ v_a v_b v ++ wSy cI cZ cJ sy_a sy) H) (hD : va_D A (wRd cI cZ cJ rd_a (cb_a 0) rd ++ wCb cI cZ cJ cb_a lk_w v_a cb ++ wBr cI cZ cJ v_a v_b v ++ wSy cI cZ cJ sy_a sy)) (hS : va_S A s.heap H locs) (hl : lv_has ls 7 [(0, .ref (rd_a 0)), (1, .ref (sy_a 0)), (2, .int x2)]) (hf : f_C_Reader_takeBase rd cb v sy x2 = some res) : W p l e R s m args below meth c H locs cells slots Q (F0 m 0 ls []) := by
  obtain ⟨hx, hb, hml, hown, hts, hK, hA, hRf, hRl, hN, hRc⟩ := id C0
  rw [f_C_Reader_takeBase] at hf
  refine lv_aload_n hx hb d_Reader_takeBase_0 rfl (lv_at hl 0 rfl) ?_
  refine va_get (D := (dC, dI)) (ci := 5) (v := .ref (cb_a 0)) (C := R_Reader) (T := T_Reader) (N := 5) hx hb hts in_Reader hown hK hP 0 rfl rfl 1 (by decide) (hts _ t_185) (fun _ h9 => h9) rfl d_Reader_takeBase_1 ?_
  refine lv_iconst (v := (-1)) hx hb d_Reader_takeBase_4 (by decide) ?_
  obtain ⟨⟨r_1, cb_2, v_3⟩, hf1, hf⟩ := bd_ex hf
  try dsimp only at hf
  have hPc := hP.sub (ws' := (wCb cI cZ cJ cb_a lk_w v_a cb ++ wBr cI cZ cJ v_a v_b v)) [1, 2, 3, 4] rfl
  have hDc := hD.sub (ws' := (wCb cI cZ cJ cb_a lk_w v_a cb ++ wBr cI cZ cJ v_a v_b v)) [1, 2, 3, 4] (by decide) rfl
  have hFc := va_free (wc := (wCb cI cZ cJ cb_a lk_w v_a cb ++ wBr cI cZ cJ v_a v_b v)) hD hS hA [1, 2, 3, 4] rfl
  refine va_calli (va_runU (As := [.int (-1)]) (rest := []) ⟨hx, hb, hml, hown, hts⟩ (k_C_ChanceBits_takeBit l dC dI cI cZ cJ cb_a v_a v_b lk_w H.size hf1) (va_cwA 1 hts (gU t_493 t_471 t_472 t_473 t_58 t_474) rfl rfl rfl (hN.2 _ (by decide +kernel)) hdx_Bits_takeBit ⟨Nat.le_trans (Nat.le_of_ble_eq_true rfl) hRf, Nat.le_trans (Nat.le_of_ble_eq_true rfl) hRl⟩) ⟨kP_blind, va_recv hK hP (ci := 3) (q0 := 1) rfl rfl, kP_at hPc hK hDc hN⟩ rfl rfl hl.1 rfl (lv_room (Nat.le_of_ble_eq_true rfl)) d_Reader_takeBase_5 hRc) hS (fun q _ h => hFc q h) hFc (fun r9 u t H1 locs ht hvm hw hB hz1 hk1 hS => ?_)
  rw [hw]
  obtain ⟨hP, hD⟩ := kQ_join (wr := (wRd cI cZ cJ rd_a (cb_a 0) rd ++ wSy cI cZ cJ sy_a sy)) (w1 := (wCb cI cZ cJ cb_a lk_w v_a cb_2 ++ wBr cI cZ cJ v_a v_b v_3)) hP hD [1, 2, 3, 4] [0, 5, 6, 7, 8, 9, 10, 11, 12, 13, 14] rfl rfl (by decide) (by decide) ht hk1 hFc hB
  generalize H1 = H at hP hS ⊢
  have hP : va_P (dC, dI) vwCl (wRd cI cZ cJ rd_a (cb_a 0) rd ++ wCb cI cZ cJ cb_a lk_w v_a cb_2 ++ wBr cI cZ cJ v_a v_b v_3 ++ wSy cI cZ cJ sy_a sy) H := hP.sub [0, 11, 12, 13, 14, 1, 2, 3, 4, 5, 6, 7, 8, 9, 10] rfl
  have hD : va_D A (wRd cI cZ cJ rd_a (cb_a 0) rd ++ wCb cI cZ cJ cb_a lk_w v_a cb_2 ++ wBr cI cZ cJ v_a v_b v_3 ++ wSy cI cZ cJ sy_a sy) := hD.sub [0, 11, 12, 13, 14, 1, 2, 3, 4, 5, 6, 7, 8, 9, 10] (by decide) rfl
  refine lv_if_ne (tgt := 13) hx hb d_Reader_takeBase_8 (by decide) (fun c_4 => ?_) (fun c_4 => ?_)
  · rw [if_neg c_4] at hf
    refine lv_aload_n hx hb d_Reader_takeBase_13 rfl (lv_at hl 0 rfl) ?_
    refine va_get (D := (dC, dI)) (ci := 5) (v := .ref (cb_a 0)) (C := R_Reader) (T := T_Reader) (N := 5) hx hb hts in_Reader hown hK hP 0 rfl rfl 1 (by decide) (hts _ t_185) (fun _ h9 => h9) rfl d_Reader_takeBase_14 ?_
    obtain ⟨⟨r_5, cb_6, v_7⟩, hf1, hf⟩ := bd_ex hf
    try dsimp only at hf
    have hPc := hP.sub (ws' := (wCb cI cZ cJ cb_a lk_w v_a cb_2 ++ wBr cI cZ cJ v_a v_b v_3)) [1, 2, 3, 4] rfl
    have hDc := hD.sub (ws' := (wCb cI cZ cJ cb_a lk_w v_a cb_2 ++ wBr cI cZ cJ v_a v_b v_3)) [1, 2, 3, 4] (by decide) rfl
    have hFc := va_free (wc := (wCb cI cZ cJ cb_a lk_w v_a cb_2 ++ wBr cI cZ cJ v_a v_b v_3)) hD hS hA [1, 2, 3, 4] rfl
    refine va_calli (va_runU (As := []) (rest := []) ⟨hx, hb, hml, hown, hts⟩ (k_C_Bits_takeNumber l dC dI cI cZ cJ cb_a v_a v_b lk_w H.size hf1) (va_cwU 0 hts (gU t_463 t_465 t_466 t_464 t_57 t_468) rfl rfl rfl rfl hd_Bits_takeNumber.2 ⟨Nat.le_trans (Nat.le_of_ble_eq_true rfl) hRf, Nat.le_trans (Nat.le_of_ble_eq_true rfl) hRl⟩) ⟨kP_blind, va_recv hK hP (ci := 3) (q0 := 1) rfl rfl, kP_at hPc hK hDc hN⟩ rfl rfl hl.1 rfl (lv_room (Nat.le_of_ble_eq_true rfl)) d_Reader_takeBase_17 hRc) hS (fun q _ h => hFc q h) hFc (fun r9 u t H1 locs ht hvm hw hB hz1 hk1 hS => ?_)
    rw [hw]
    obtain ⟨hP, hD⟩ := kQ_join (wr := (wRd cI cZ cJ rd_a (cb_a 0) rd ++ wSy cI cZ cJ sy_a sy)) (w1 := (wCb cI cZ cJ cb_a lk_w v_a cb_6 ++ wBr cI cZ cJ v_a v_b v_7)) hP hD [1, 2, 3, 4] [0, 5, 6, 7, 8, 9, 10, 11, 12, 13, 14] rfl rfl (by decide) (by decide) ht hk1 hFc hB
    generalize H1 = H at hP hS ⊢
    have hP : va_P (dC, dI) vwCl (wRd cI cZ cJ rd_a (cb_a 0) rd ++ wCb cI cZ cJ cb_a lk_w v_a cb_6 ++ wBr cI cZ cJ v_a v_b v_7 ++ wSy cI cZ cJ sy_a sy) H := hP.sub [0, 11, 12, 13, 14, 1, 2, 3, 4, 5, 6, 7, 8, 9, 10] rfl
    have hD : va_D A (wRd cI cZ cJ rd_a (cb_a 0) rd ++ wCb cI cZ cJ cb_a lk_w v_a cb_6 ++ wBr cI cZ cJ v_a v_b v_7 ++ wSy cI cZ cJ sy_a sy) := hD.sub [0, 11, 12, 13, 14, 1, 2, 3, 4, 5, 6, 7, 8, 9, 10] (by decide) rfl
    refine lv_istore_n (lv' := [(3, .int r_5), (0, .ref (rd_a 0)), (1, .ref (sy_a 0)), (2, .int x2)]) hx hb d_Reader_takeBase_20 rfl hl (by decide) rfl (fun ls hl => ?_)
    refine lv_iload_n hx hb d_Reader_takeBase_21 rfl (lv_at hl 0 rfl) ?_
    refine lv_iconst (v := (-1)) hx hb d_Reader_takeBase_22 (by decide) ?_
    refine lv_icmp_ne (tgt := 33) hx hb d_Reader_takeBase_23 (by decide) (fun c_8 => ?_) (fun c_8 => ?_)
    · rw [if_neg c_8] at hf
      refine lv_iload_n hx hb d_Reader_takeBase_33 rfl (lv_at hl 3 rfl) ?_
      refine lv_iconst (v := 1) hx hb d_Reader_takeBase_34 (by decide) ?_
      refine lv_isub hx hb d_Reader_takeBase_35 ?_
      refine lv_iload_n hx hb d_Reader_takeBase_36 rfl (lv_at hl 0 rfl) ?_
      refine lv_isub hx hb d_Reader_takeBase_37 ?_
      obtain ⟨x4_9, ex4_9, hf⟩ := lt_ex hf
      try dsimp only at hf
      refine tp_i ex4_9 ?_
      refine lv_istore (lv' := [(4, .int x4_9), (3, .int r_5), (0, .ref (rd_a 0)), (1, .ref (sy_a 0)), (2, .int x2)]) hx hb d_Reader_takeBase_38 hl (by decide) rfl (fun ls hl => ?_)
      refine lv_iload hx hb d_Reader_takeBase_40 (lv_at hl 0 rfl) ?_
      refine lv_if_ge (tgt := 51) hx hb d_Reader_takeBase_42 (by decide) (fun c_10 => ?_) (fun c_10 => ?_)
      · rw [if_pos c_10] at hf
        refine lv_aload_n hx hb d_Reader_takeBase_51 rfl (lv_at hl 2 rfl) ?_
        refine va_get (D := (dC, dI)) (ci := 5) (v := .ref (cb_a 0)) (C := R_Reader) (T := T_Reader) (N := 5) hx hb hts in_Reader hown hK hP 0 rfl rfl 1 (by decide) (hts _ t_185) (fun _ h9 => h9) rfl d_Reader_takeBase_52 ?_
        refine lv_iconst (v := 4) hx hb d_Reader_takeBase_55 (by decide) ?_
        obtain ⟨⟨r_11, cb_12, v_13⟩, hf1, hf⟩ := bd_ex hf
        try dsimp only at hf
        have hPc := hP.sub (ws' := (wCb cI cZ cJ cb_a lk_w v_a cb_6 ++ wBr cI cZ cJ v_a v_b v_7)) [1, 2, 3, 4] rfl
        have hDc := hD.sub (ws' := (wCb cI cZ cJ cb_a lk_w v_a cb_6 ++ wBr cI cZ cJ v_a v_b v_7)) [1, 2, 3, 4] (by decide) rfl
        have hFc := va_free (wc := (wCb cI cZ cJ cb_a lk_w v_a cb_6 ++ wBr cI cZ cJ v_a v_b v_7)) hD hS hA [1, 2, 3, 4] rfl
        refine va_calli (va_runU (As := [.int 4]) (rest := []) ⟨hx, hb, hml, hown, hts⟩ (k_C_Bits_takeBits l dC dI cI cZ cJ cb_a v_a v_b lk_w H.size hf1) (va_cwU 1 hts (gU t_520 t_481 t_482 t_480 t_57 t_484) rfl rfl rfl rfl hd_Bits_takeBits.2 ⟨Nat.le_trans (Nat.le_of_ble_eq_true rfl) hRf, Nat.le_trans (Nat.le_of_ble_eq_true rfl) hRl⟩) ⟨kP_blind, va_recv hK hP (ci := 3) (q0 := 1) rfl rfl, kP_at hPc hK hDc hN⟩ rfl rfl hl.1 rfl (lv_room (Nat.le_of_ble_eq_true rfl)) d_Reader_takeBase_56 hRc) hS (fun q _ h => hFc q h) hFc (fun r9 u t H1 locs ht hvm hw hB hz1 hk1 hS => ?_)
        rw [hw]
        obtain ⟨hP, hD⟩ := kQ_join (wr := (wRd cI cZ cJ rd_a (cb_a 0) rd ++ wSy cI cZ cJ sy_a sy)) (w1 := (wCb cI cZ cJ cb_a lk_w v_a cb_12 ++ wBr cI cZ cJ v_a v_b v_13)) hP hD [1, 2, 3, 4] [0, 5, 6, 7, 8, 9, 10, 11, 12, 13, 14] rfl rfl (by decide) (by decide) ht hk1 hFc hB
        generalize H1 = H at hP hS ⊢
        have hP : va_P (dC, dI) vwCl (wRd cI cZ cJ rd_a (cb_a 0) rd ++ wCb cI cZ cJ cb_a lk_w v_a cb_12 ++ wBr cI cZ cJ v_a v_b v_13 ++ wSy cI cZ cJ sy_a sy) H := hP.sub [0, 11, 12, 13, 14, 1, 2, 3, 4, 5, 6, 7, 8, 9, 10] rfl
        have hD : va_D A (wRd cI cZ cJ rd_a (cb_a 0) rd ++ wCb cI cZ cJ cb_a lk_w v_a cb_12 ++ wBr cI cZ cJ v_a v_b v_13 ++ wSy cI cZ cJ sy_a sy) := hD.sub [0, 11, 12, 13, 14, 1, 2, 3, 4, 5, 6, 7, 8, 9, 10] (by decide) rfl
        refine lv_iconst (v := 4) hx hb d_Reader_takeBase_59 (by decide) ?_
        refine lv_isub hx hb d_Reader_takeBase_60 ?_
        obtain ⟨x5_14, ex5_14, hf⟩ := lt_ex hf
        try dsimp only at hf
        refine tp_i ex5_14 ?_
        refine lv_istore (lv' := [(5, .int x5_14), (4, .int x4_9), (3, .int r_5), (0, .ref (rd_a 0)), (1, .ref (sy_a 0)), (2, .int x2)]) hx hb d_Reader_takeBase_61 hl (by decide) rfl (fun ls hl => ?_)
        refine lv_aload_n hx hb d_Reader_takeBase_63 rfl (lv_at hl 3 rfl) ?_
        refine va_get (D := (dC, dI)) (ci := 5) (v := .ref (cb_a 0)) (C := R_Reader) (T := T_Reader) (N := 5) hx hb hts in_Reader hown hK hP 0 rfl rfl 1 (by decide) (hts _ t_185) (fun _ h9 => h9) rfl d_Reader_takeBase_64 ?_
        refine lv_iconst (v := 4) hx hb d_Reader_takeBase_67 (by decide) ?_
        obtain ⟨⟨r_15, cb_16, v_17⟩, hf1, hf⟩ := bd_ex hf
        try dsimp only at hf
        have hPc := hP.sub (ws' := (wCb cI cZ cJ cb_a lk_w v_a cb_12 ++ wBr cI cZ cJ v_a v_b v_13)) [1, 2, 3, 4] rfl
        have hDc := hD.sub (ws' := (wCb cI cZ cJ cb_a lk_w v_a cb_12 ++ wBr cI cZ cJ v_a v_b v_13)) [1, 2, 3, 4] (by decide) rfl
        have hFc := va_free (wc := (wCb cI cZ cJ cb_a lk_w v_a cb_12 ++ wBr cI cZ cJ v_a v_b v_13)) hD hS hA [1, 2, 3, 4] rfl
        refine va_calli (va_runU (As := [.int 4]) (rest := []) ⟨hx, hb, hml, hown, hts⟩ (k_C_Bits_takeBits l dC dI cI cZ cJ cb_a v_a v_b lk_w H.size hf1) (va_cwU 1 hts (gU t_520 t_481 t_482 t_480 t_57 t_484) rfl rfl rfl rfl hd_Bits_takeBits.2 ⟨Nat.le_trans (Nat.le_of_ble_eq_true rfl) hRf, Nat.le_trans (Nat.le_of_ble_eq_true rfl) hRl⟩) ⟨kP_blind, va_recv hK hP (ci := 3) (q0 := 1) rfl rfl, kP_at hPc hK hDc hN⟩ rfl rfl hl.1 rfl (lv_room (Nat.le_of_ble_eq_true rfl)) d_Reader_takeBase_68 hRc) hS (fun q _ h => hFc q h) hFc (fun r9 u t H1 locs ht hvm hw hB hz1 hk1 hS => ?_)
        rw [hw]
        obtain ⟨hP, hD⟩ := kQ_join (wr := (wRd cI cZ cJ rd_a (cb_a 0) rd ++ wSy cI cZ cJ sy_a sy)) (w1 := (wCb cI cZ cJ cb_a lk_w v_a cb_16 ++ wBr cI cZ cJ v_a v_b v_17)) hP hD [1, 2, 3, 4] [0, 5, 6, 7, 8, 9, 10, 11, 12, 13, 14] rfl rfl (by decide) (by decide) ht hk1 hFc hB
        generalize H1 = H at hP hS ⊢
        have hP : va_P (dC, dI) vwCl (wRd cI cZ cJ rd_a (cb_a 0) rd ++ wCb cI cZ cJ cb_a lk_w v_a cb_16 ++ wBr cI cZ cJ v_a v_b v_17 ++ wSy cI cZ cJ sy_a sy) H := hP.sub [0, 11, 12, 13, 14, 1, 2, 3, 4, 5, 6, 7, 8, 9, 10] rfl
        have hD : va_D A (wRd cI cZ cJ rd_a (cb_a 0) rd ++ wCb cI cZ cJ cb_a lk_w v_a cb_16 ++ wBr cI cZ cJ v_a v_b v_17 ++ wSy cI cZ cJ sy_a sy) := hD.sub [0, 11, 12, 13, 14, 1, 2, 3, 4, 5, 6, 7, 8, 9, 10] (by decide) rfl
        refine lv_iconst (v := 4) hx hb d_Reader_takeBase_71 (by decide) ?_
        refine lv_isub hx hb d_Reader_takeBase_72 ?_
        obtain ⟨x6_18, ex6_18, hf⟩ := lt_ex hf
        try dsimp only at hf
        refine tp_i ex6_18 ?_
        refine lv_istore (lv' := [(6, .int x6_18), (5, .int x5_14), (4, .int x4_9), (3, .int r_5), (0, .ref (rd_a 0)), (1, .ref (sy_a 0)), (2, .int x2)]) hx hb d_Reader_takeBase_73 hl (by decide) rfl (fun ls hl => ?_)
        refine lv_iload hx hb d_Reader_takeBase_75 (lv_at hl 1 rfl) ?_
        refine lv_iconst (v := 4) hx hb d_Reader_takeBase_77 (by decide) ?_
        have J87_18 : ∀ (H : Heap) (locs : List Loc) (ls : Array Slot), va_P (dC, dI) vwCl (wRd cI cZ cJ rd_a (cb_a 0) rd ++ wCb cI cZ cJ cb_a lk_w v_a cb_16 ++ wBr cI cZ cJ v_a v_b v_17 ++ wSy cI cZ cJ sy_a sy) H → va_D A (wRd cI cZ cJ rd_a (cb_a 0) rd ++ wCb cI cZ cJ cb_a lk_w v_a cb_16 ++ wBr cI cZ cJ v_a v_b v_17 ++ wSy cI cZ cJ sy_a sy) → va_S A s.heap H locs → lv_has ls 7 [(0, .ref (rd_a 0))] → j_C_Reader_takeBase_87_19 rd sy cb_16 v_17 = some res → W p l e R s m args below meth c H locs cells slots Q (F0 m 87 ls []) := by
          intro H locs ls hP hD hS hl hf
          rw [j_C_Reader_takeBase_87_19] at hf
          refine lv_aload_n hx hb d_Reader_takeBase_87 rfl (lv_at hl 0 rfl) ?_
          refine lv_iconst (v := 4) hx hb d_Reader_takeBase_88 (by decide) ?_
          obtain ⟨⟨r_20, rd_21⟩, hf1, hf⟩ := bd_ex hf
          try dsimp only at hf
          have hPc := hP.sub (ws' := (wRd cI cZ cJ rd_a (cb_a 0) rd)) [0] rfl
          have hDc := hD.sub (ws' := (wRd cI cZ cJ rd_a (cb_a 0) rd)) [0] (by decide) rfl
          have hFc := va_free (wc := (wRd cI cZ cJ rd_a (cb_a 0) rd)) hD hS hA [0] rfl
          refine va_calli (va_runV (As := [.int 4]) (rest := []) ⟨hx, hb, hml, hown, hts⟩ (k_C_Reader_refuse l dC dI cI cZ cJ rd_a (cb_a 0) H.size hf1) (cwV 1 hts (gV t_485 t_487 t_12 t_61 t_488) rfl rfl rfl hd_Reader_refuse ⟨Nat.le_trans (Nat.le_of_ble_eq_true rfl) hRf, Nat.le_trans (Nat.le_of_ble_eq_true rfl) hRl⟩) ⟨kP_blind, va_recv hK hP (ci := 5) (q0 := 0) rfl rfl, kP_at hPc hK hDc hN⟩ rfl rfl hl.1 rfl (lv_room (Nat.le_of_ble_eq_true rfl)) d_Reader_takeBase_89 hRc) hS (fun q _ h => hFc q h) hFc (fun r9 u t H1 locs ht hvm hw hB hz1 hk1 hS => ?_)
          rw [hw.1]
          obtain ⟨hP, hD⟩ := kQ_join (wr := (wCb cI cZ cJ cb_a lk_w v_a cb_16 ++ wBr cI cZ cJ v_a v_b v_17 ++ wSy cI cZ cJ sy_a sy)) (w1 := (wRd cI cZ cJ rd_a (cb_a 0) rd_21)) hP hD [0] [1, 2, 3, 4, 5, 6, 7, 8, 9, 10, 11, 12, 13, 14] rfl rfl (by decide) (by decide) ht hk1 hFc hB
          generalize H1 = H at hP hS ⊢
          have hP : va_P (dC, dI) vwCl (wRd cI cZ cJ rd_a (cb_a 0) rd_21 ++ wCb cI cZ cJ cb_a lk_w v_a cb_16 ++ wBr cI cZ cJ v_a v_b v_17 ++ wSy cI cZ cJ sy_a sy) H := hP.sub [14, 0, 1, 2, 3, 4, 5, 6, 7, 8, 9, 10, 11, 12, 13] rfl
          have hD : va_D A (wRd cI cZ cJ rd_a (cb_a 0) rd_21 ++ wCb cI cZ cJ cb_a lk_w v_a cb_16 ++ wBr cI cZ cJ v_a v_b v_17 ++ wSy cI cZ cJ sy_a sy) := hD.sub [14, 0, 1, 2, 3, 4, 5, 6, 7, 8, 9, 10, 11, 12, 13] (by decide) rfl
          obtain ⟨h_z, hf⟩ := gd_ex hf
          exact hr92 _ _ _ r_20  rd_21 cb_16 v_17 sy (of_decide_eq_true h_z) hP hD hS hf
        refine lv_icmp_gt (tgt := 87) hx hb d_Reader_takeBase_78 (by decide) (fun c_22 => ?_) (fun c_22 => ?_)
        · rw [if_pos c_22] at hf
          exact J87_18 _ _ _  hP hD hS (lv_sub hl [4] rfl) hf
        · rw [if_neg c_22] at hf
          refine lv_iload hx hb d_Reader_takeBase_81 (lv_at hl 0 rfl) ?_
          refine lv_iconst (v := 4) hx hb d_Reader_takeBase_83 (by decide) ?_
          refine lv_icmp_le (tgt := 93) hx hb d_Reader_takeBase_84 (by decide) (fun c_23 => ?_) (fun c_23 => ?_)
          · rw [if_pos c_23] at hf
            refine lv_aload_n hx hb d_Reader_takeBase_93 rfl (lv_at hl 5 rfl) ?_
            refine lv_iload_n hx hb d_Reader_takeBase_94 rfl (lv_at hl 6 rfl) ?_
            refine lv_iload hx hb d_Reader_takeBase_95 (lv_at hl 2 rfl) ?_
            refine lv_iload hx hb d_Reader_takeBase_97 (lv_at hl 1 rfl) ?_
            refine lv_iload hx hb d_Reader_takeBase_99 (lv_at hl 0 rfl) ?_
            obtain ⟨sy_24, hf1, hf⟩ := bd_ex hf
            try dsimp only at hf
            have hPc := hP.sub (ws' := (wSy cI cZ cJ sy_a sy)) [5, 6, 7, 8, 9, 10, 11, 12, 13, 14] rfl
            have hDc := hD.sub (ws' := (wSy cI cZ cJ sy_a sy)) [5, 6, 7, 8, 9, 10, 11, 12, 13, 14] (by decide) rfl
            have hFc := va_free (wc := (wSy cI cZ cJ sy_a sy)) hD hS hA [5, 6, 7, 8, 9, 10, 11, 12, 13, 14] rfl
            refine va_callv (va_runV (As := [.int x2, .int x4_9, .int x5_14, .int x6_18]) (rest := []) ⟨hx, hb, hml, hown, hts⟩ (k_Symbols_refine l dC dI cI cZ cJ sy_a H.size hf1) (cwV 4 hts (gV t_521 t_503 t_504 t_62 t_505) rfl rfl rfl hd_Symbols_refine ⟨Nat.le_trans (Nat.le_of_ble_eq_true rfl) hRf, Nat.le_trans (Nat.le_of_ble_eq_true rfl) hRl⟩) ⟨kP_blind, va_recv hK hP (ci := 0) (q0 := 5) rfl rfl, kP_at hPc hK hDc hN⟩ rfl rfl hl.1 rfl (lv_room (Nat.le_of_ble_eq_true rfl)) d_Reader_takeBase_101 hRc) hS (fun q _ h => hFc q h) hFc (fun u t H1 locs ht hvm hw hB hz1 hk1 hS => ?_)
            obtain ⟨hP, hD⟩ := kQ_join (wr := (wRd cI cZ cJ rd_a (cb_a 0) rd ++ wCb cI cZ cJ cb_a lk_w v_a cb_16 ++ wBr cI cZ cJ v_a v_b v_17)) (w1 := (wSy cI cZ cJ sy_a sy_24)) hP hD [5, 6, 7, 8, 9, 10, 11, 12, 13, 14] [0, 1, 2, 3, 4] rfl rfl (by decide) (by decide) ht hk1 hFc hB
            generalize H1 = H at hP hS ⊢
            have hP : va_P (dC, dI) vwCl (wRd cI cZ cJ rd_a (cb_a 0) rd ++ wCb cI cZ cJ cb_a lk_w v_a cb_16 ++ wBr cI cZ cJ v_a v_b v_17 ++ wSy cI cZ cJ sy_a sy_24) H := hP.sub [0, 1, 2, 3, 4, 5, 6, 7, 8, 9, 10, 11, 12, 13, 14] rfl
            have hD : va_D A (wRd cI cZ cJ rd_a (cb_a 0) rd ++ wCb cI cZ cJ cb_a lk_w v_a cb_16 ++ wBr cI cZ cJ v_a v_b v_17 ++ wSy cI cZ cJ sy_a sy_24) := hD.sub [0, 1, 2, 3, 4, 5, 6, 7, 8, 9, 10, 11, 12, 13, 14] (by decide) rfl
            refine lv_iconst (v := 1) hx hb d_Reader_takeBase_104 (by decide) ?_
            exact hr105 _ _ _ 1 rd cb_16 v_17 sy_24 (by decide) hP hD hS hf
          · rw [if_neg c_23] at hf
            exact J87_18 _ _ _  hP hD hS (lv_sub hl [4] rfl) hf
      · rw [if_neg c_10] at hf
        refine lv_aload_n hx hb d_Reader_takeBase_45 rfl (lv_at hl 2 rfl) ?_
        refine lv_iconst (v := 3) hx hb d_Reader_takeBase_46 (by decide) ?_
        obtain ⟨⟨r_25, rd_26⟩, hf1, hf⟩ := bd_ex hf
        try dsimp only at hf
        have hPc := hP.sub (ws' := (wRd cI cZ cJ rd_a (cb_a 0) rd)) [0] rfl
        have hDc := hD.sub (ws' := (wRd cI cZ cJ rd_a (cb_a 0) rd)) [0] (by decide) rfl
        have hFc := va_free (wc := (wRd cI cZ cJ rd_a (cb_a 0) rd)) hD hS hA [0] rfl
        refine va_calli (va_runV (As := [.int 3]) (rest := []) ⟨hx, hb, hml, hown, hts⟩ (k_C_Reader_refuse l dC dI cI cZ cJ rd_a (cb_a 0) H.size hf1) (cwV 1 hts (gV t_485 t_487 t_12 t_61 t_488) rfl rfl rfl hd_Reader_refuse ⟨Nat.le_trans (Nat.le_of_ble_eq_true rfl) hRf, Nat.le_trans (Nat.le_of_ble_eq_true rfl) hRl⟩) ⟨kP_blind, va_recv hK hP (ci := 5) (q0 := 0) rfl rfl, kP_at hPc hK hDc hN⟩ rfl rfl hl.1 rfl (lv_room (Nat.le_of_ble_eq_true rfl)) d_Reader_takeBase_47 hRc) hS (fun q _ h => hFc q h) hFc (fun r9 u t H1 locs ht hvm hw hB hz1 hk1 hS => ?_)
        rw [hw.1]
        obtain ⟨hP, hD⟩ := kQ_join (wr := (wCb cI cZ cJ cb_a lk_w v_a cb_6 ++ wBr cI cZ cJ v_a v_b v_7 ++ wSy cI cZ cJ sy_a sy)) (w1 := (wRd cI cZ cJ rd_a (cb_a 0) rd_26)) hP hD [0] [1, 2, 3, 4, 5, 6, 7, 8, 9, 10, 11, 12, 13, 14] rfl rfl (by decide) (by decide) ht hk1 hFc hB
        generalize H1 = H at hP hS ⊢
        have hP : va_P (dC, dI) vwCl (wRd cI cZ cJ rd_a (cb_a 0) rd_26 ++ wCb cI cZ cJ cb_a lk_w v_a cb_6 ++ wBr cI cZ cJ v_a v_b v_7 ++ wSy cI cZ cJ sy_a sy) H := hP.sub [14, 0, 1, 2, 3, 4, 5, 6, 7, 8, 9, 10, 11, 12, 13] rfl
        have hD : va_D A (wRd cI cZ cJ rd_a (cb_a 0) rd_26 ++ wCb cI cZ cJ cb_a lk_w v_a cb_6 ++ wBr cI cZ cJ v_a v_b v_7 ++ wSy cI cZ cJ sy_a sy) := hD.sub [14, 0, 1, 2, 3, 4, 5, 6, 7, 8, 9, 10, 11, 12, 13] (by decide) rfl
        obtain ⟨h_z, hf⟩ := gd_ex hf
        exact hr50 _ _ _ r_25  rd_26 cb_6 v_7 sy (of_decide_eq_true h_z) hP hD hS hf
    · rw [if_pos c_8] at hf
      refine lv_aload_n hx hb d_Reader_takeBase_26 rfl (lv_at hl 1 rfl) ?_
      refine lv_bipush (v := 7) hx hb d_Reader_takeBase_27 (by decide) ?_
      obtain ⟨⟨r_27, rd_28⟩, hf1, hf⟩ := bd_ex hf
      try dsimp only at hf
      have hPc := hP.sub (ws' := (wRd cI cZ cJ rd_a (cb_a 0) rd)) [0] rfl
      have hDc := hD.sub (ws' := (wRd cI cZ cJ rd_a (cb_a 0) rd)) [0] (by decide) rfl
      have hFc := va_free (wc := (wRd cI cZ cJ rd_a (cb_a 0) rd)) hD hS hA [0] rfl
      refine va_calli (va_runV (As := [.int 7]) (rest := []) ⟨hx, hb, hml, hown, hts⟩ (k_C_Reader_refuse l dC dI cI cZ cJ rd_a (cb_a 0) H.size hf1) (cwV 1 hts (gV t_485 t_487 t_12 t_61 t_488) rfl rfl rfl hd_Reader_refuse ⟨Nat.le_trans (Nat.le_of_ble_eq_true rfl) hRf, Nat.le_trans (Nat.le_of_ble_eq_true rfl) hRl⟩) ⟨kP_blind, va_recv hK hP (ci := 5) (q0 := 0) rfl rfl, kP_at hPc hK hDc hN⟩ rfl rfl hl.1 rfl (lv_room (Nat.le_of_ble_eq_true rfl)) d_Reader_takeBase_29 hRc) hS (fun q _ h => hFc q h) hFc (fun r9 u t H1 locs ht hvm hw hB hz1 hk1 hS => ?_)
      rw [hw.1]
      obtain ⟨hP, hD⟩ := kQ_join (wr := (wCb cI cZ cJ cb_a lk_w v_a cb_6 ++ wBr cI cZ cJ v_a v_b v_7 ++ wSy cI cZ cJ sy_a sy)) (w1 := (wRd cI cZ cJ rd_a (cb_a 0) rd_28)) hP hD [0] [1, 2, 3, 4, 5, 6, 7, 8, 9, 10, 11, 12, 13, 14] rfl rfl (by decide) (by decide) ht hk1 hFc hB
      generalize H1 = H at hP hS ⊢
      have hP : va_P (dC, dI) vwCl (wRd cI cZ cJ rd_a (cb_a 0) rd_28 ++ wCb cI cZ cJ cb_a lk_w v_a cb_6 ++ wBr cI cZ cJ v_a v_b v_7 ++ wSy cI cZ cJ sy_a sy) H := hP.sub [14, 0, 1, 2, 3, 4, 5, 6, 7, 8, 9, 10, 11, 12, 13] rfl
      have hD : va_D A (wRd cI cZ cJ rd_a (cb_a 0) rd_28 ++ wCb cI cZ cJ cb_a lk_w v_a cb_6 ++ wBr cI cZ cJ v_a v_b v_7 ++ wSy cI cZ cJ sy_a sy) := hD.sub [14, 0, 1, 2, 3, 4, 5, 6, 7, 8, 9, 10, 11, 12, 13] (by decide) rfl
      obtain ⟨h_z, hf⟩ := gd_ex hf
      exact hr32 _ _ _ r_27  rd_28 cb_6 v_7 sy (of_decide_eq_true h_z) hP hD hS hf
  · rw [if_pos c_4] at hf
    refine lv_iconst (v := 1) hx hb d_Reader_takeBase_11 (by decide) ?_
    exact hr12 _ _ _ 1 rd cb_2 v_3 sy (by decide) hP hD hS hf
end
set_option maxHeartbeats 4000000 in
set_option maxRecDepth 100000 in
theorem k_C_Reader_takeBase (l : Launch) (dC : Nat → ClassId) (dI : Nat → Nat → Nat) (cI cZ cJ : ClassId) (rd_a : Nat → Nat) (cb_a : Nat → Nat) (v_a v_b : Nat) (sy_a : Nat → Nat) (lk_w : Nat) (sz : Nat) {rd : Rd} {cb : Cb} {v : Br} {sy : Sy} {x2 : Int32} {r : Int32} {rd' : Rd} {cb' : Cb} {v' : Br} {sy' : Sy} (hf : f_C_Reader_takeBase rd cb v sy x2 = some (r, rd', cb', v', sy')) :
    Met l y_Reader_takeBase ws_Reader_takeBase ({ frames := 5, cells := 0, slots := 0, locals := 112 }) (va_Pc [.ref (rd_a 0), .ref (sy_a 0), .int x2] (kP (dC, dI) vwCl (TYS cI cZ cJ) (wRd cI cZ cJ rd_a (cb_a 0) rd ++ wCb cI cZ cJ cb_a lk_w v_a cb ++ wBr cI cZ cJ v_a v_b v ++ wSy cI cZ cJ sy_a sy) sz)) (va_Qi (fun (q : Int32) (_ : Unit) => q = r ∧ vp_nar .boolean r = r) (fun _ t => kQ (dC, dI) vwCl (TYS cI cZ cJ) (wRd cI cZ cJ rd_a (cb_a 0) rd ++ wCb cI cZ cJ cb_a lk_w v_a cb ++ wBr cI cZ cJ v_a v_b v ++ wSy cI cZ cJ sy_a sy) sz (wRd cI cZ cJ rd_a (cb_a 0) rd' ++ wCb cI cZ cJ cb_a lk_w v_a cb' ++ wBr cI cZ cJ v_a v_b v' ++ wSy cI cZ cJ sy_a sy') t) (va_A (wRd cI cZ cJ rd_a (cb_a 0) rd ++ wCb cI cZ cJ cb_a lk_w v_a cb ++ wBr cI cZ cJ v_a v_b v ++ wSy cI cZ cJ sy_a sy) sz)) 0 0 (va_A (wRd cI cZ cJ rd_a (cb_a 0) rd ++ wCb cI cZ cJ cb_a lk_w v_a cb ++ wBr cI cZ cJ v_a v_b v ++ wSy cI cZ cJ sy_a sy) sz) := by
  refine Met.ofW (cc := c_Reader_takeBase) (maxL := 7) (ret := (some .boolean)) (by decide) rfl ?_
  intro p e s m args below meth c s₁ B hml hv
  obtain ⟨rfl, hsz, hP, hK, hD0, hN⟩ := hv
  have hr := B.returns
  have hlocks := B.notSynchronized
  subst hsz
  have hD := hD0.self (sz := s.heap.size)
  have hl := lv_entry ([.ref (rd_a 0), .ref (sy_a 0), .int x2]) (n := 7) (Nat.le_of_ble_eq_true rfl)
  rw [lg_entry_eq]
  generalize (lg_sl ([.ref (rd_a 0), .ref (sy_a 0), .int x2]) ++ List.replicate (7 - (lg_sl ([.ref (rd_a 0), .ref (sy_a 0), .int x2])).length) Slot.unset).toArray = ls at hl ⊢
  refine B_C_Reader_takeBase (A := va_A (wRd cI cZ cJ rd_a (cb_a 0) rd ++ wCb cI cZ cJ cb_a lk_w v_a cb ++ wBr cI cZ cJ v_a v_b v ++ wSy cI cZ cJ sy_a sy) s.heap.size) ⟨B.exec, B.bytes, hml, findClass_of_methodNamed B.named, fun w h => atoms_spec (ws := ws_Reader_takeBase) B.pre w (List.mem_cons_of_mem _ h), hK, fun q h => Or.inr h, Nat.le_of_ble_eq_true rfl, Nat.le_of_ble_eq_true rfl, hN, Nat.le_of_ble_eq_true rfl, Nat.le_of_ble_eq_true rfl⟩ (fun H locs ls v rd'1 cb'1 v'1 sy'1 hz hP hD hS hf => ?_) (fun H locs ls v rd'1 cb'1 v'1 sy'1 hz hP hD hS hf => ?_) (fun H locs ls v rd'1 cb'1 v'1 sy'1 hz hP hD hS hf => ?_) (fun H locs ls v rd'1 cb'1 v'1 sy'1 hz hP hD hS hf => ?_) (fun H locs ls v rd'1 cb'1 v'1 sy'1 hz hP hD hS hf => ?_) hP hD va_S.rf hl hf
  · cases hf
    exact W.zret B.exec B.bytes hr (nz_n hz) (fun t ht hW => ⟨⟨_, (), rfl, ⟨rfl, hz⟩, ⟨by rw [ht]; exact hP, va_K.moved hW.alike hK, hD⟩⟩, hS.F ht⟩) hS.2.2 d_Reader_takeBase_12
  · cases hf
    exact W.zret B.exec B.bytes hr (nz_n hz) (fun t ht hW => ⟨⟨_, (), rfl, ⟨rfl, hz⟩, ⟨by rw [ht]; exact hP, va_K.moved hW.alike hK, hD⟩⟩, hS.F ht⟩) hS.2.2 d_Reader_takeBase_32
  · cases hf
    exact W.zret B.exec B.bytes hr (nz_n hz) (fun t ht hW => ⟨⟨_, (), rfl, ⟨rfl, hz⟩, ⟨by rw [ht]; exact hP, va_K.moved hW.alike hK, hD⟩⟩, hS.F ht⟩) hS.2.2 d_Reader_takeBase_50
  · cases hf
    exact W.zret B.exec B.bytes hr (nz_n hz) (fun t ht hW => ⟨⟨_, (), rfl, ⟨rfl, hz⟩, ⟨by rw [ht]; exact hP, va_K.moved hW.alike hK, hD⟩⟩, hS.F ht⟩) hS.2.2 d_Reader_takeBase_92
  · cases hf
    exact W.zret B.exec B.bytes hr (nz_n hz) (fun t ht hW => ⟨⟨_, (), rfl, ⟨rfl, hz⟩, ⟨by rw [ht]; exact hP, va_K.moved hW.alike hK, hD⟩⟩, hS.F ht⟩) hS.2.2 d_Reader_takeBase_105

/-! C_Reader_takeSamples -/
def l_C_Reader_takeSamples_40 (rd : Rd) (sy : Sy) (x2 : Int32) (x3 : Int32) (x4 : Int32) (x5 : Int32) (k82 : Cb → Br → Int32 → Option (Cb × Br × Sy)) : Nat → Cb → Br → Int32 → Int32 → Option (Cb × Br × Sy)
  | 0, _, _, _, _ => none
  | n + 1, cb, v, x6, x7 => gd (inb x2 40) <| (if (Sy_wd sy x2.toNatClampNeg) ≤ x7 then k82 cb v x6 else bd (f_SD_contextAt x6 x4 x7 x3) <| fun r_14 => bd (f_C_ChanceBits_takeBit cb v r_14) <| fun (r_15, cb_16, v_17) => lt' (x6 ||| (r_15 <<< (x7 &&& 31))) <| fun x6_18 => lt' (x7 + 1) <| fun x7_19 => (l_C_Reader_takeSamples_40 rd sy x2 x3 x4 x5 k82 n) cb_16 v_17 x6_18 x7_19)
def l_C_Reader_takeSamples_23 (rd : Rd) (x2 : Int32) (x3 : Int32) (k110 : Cb → Br → Sy → Option (Cb × Br × Sy)) : Nat → Cb → Br → Sy → Int32 → Int32 → Option (Cb × Br × Sy)
  | 0, _, _, _, _, _ => none
  | n + 1, cb, v, sy, x4, x5 => gd (inb x2 40) <| (if (Sy_ht sy x2.toNatClampNeg) ≤ x5 then k110 cb v sy else l_C_Reader_takeSamples_40 rd sy x2 x3 x4 x5 (fun cb_20 v_21 x6_22 => bd (f_Symbols_foretoldRow sy x2 x5) <| fun r_23 => bd (f_Symbols_setRow sy x2 x5 (x6_22 ^^^ r_23)) <| fun (r_24, sy_25) => lt' (x5 + 1) <| fun x5_26 => (l_C_Reader_takeSamples_23 rd x2 x3 k110 n) cb_20 v_21 sy_25 x6_22 x5_26) 100000 cb v 0 0)
def j_C_Reader_takeSamples_16_3 (rd : Rd) (cb : Cb) (v : Br) (sy : Sy) (x2 : Int32) (z0_2 : Int32) : Option (Cb × Br × Sy) := l_C_Reader_takeSamples_23 rd x2 z0_2 (fun cb_27 v_28 sy_29 => some (cb_27, v_28, sy_29)) 100000 cb v sy 0 0
def f_C_Reader_takeSamples (rd : Rd) (cb : Cb) (v : Br) (sy : Sy) (x2 : Int32) : Option (Cb × Br × Sy) := gd (inb x2 40) <| (if (Sy_bs sy x2.toNatClampNeg) = (-1) then j_C_Reader_takeSamples_16_3 rd cb v sy x2 0 else j_C_Reader_takeSamples_16_3 rd cb v sy x2 16)
section
variable {p : Program} {l : Launch} {e : Env} {R : Room} {s : State} {m : MethodId} {args : Array Value} {below : List Frame} {meth : Method} {c : Code} {Q : State → Prop} {A : Nat → Prop}
set_option maxHeartbeats 4000000 in
set_option maxRecDepth 100000 in
theorem L_C_Reader_takeSamples_40 {cells slots : Nat} {dC : Nat → ClassId} {dI : Nat → Nat → Nat} {cI cZ cJ : ClassId} {rd_a : Nat → Nat} {cb_a : Nat → Nat} {v_a v_b : Nat} {sy_a : Nat → Nat} {lk_w : Nat} {rd : Rd} {sy : Sy} {x2 : Int32} {x3 : Int32} {x4 : Int32} {x5 : Int32} {k82 : Cb → Br → Int32 → Option (Cb × Br × Sy)} {res : Cb × Br × Sy} (C0 : cxt p c m s args R cells slots R_Reader c_Reader_takeSamples tb 8 (dC, dI) vwCl (TYS cI cZ cJ) A 3 68)
    (hk82 : ∀ (H : Heap) (locs : List Loc) (ls : Array Slot) (cb_9 : Cb) (v_10 : Br) (x6_11 : Int32), va_P (dC, dI) vwCl (wRd cI cZ cJ rd_a (cb_a 0) rd ++ wCb cI cZ cJ cb_a lk_w v_a cb_9 ++ wBr cI cZ cJ v_a v_b v_10 ++ wSy cI cZ cJ sy_a sy) H → va_D A (wRd cI cZ cJ rd_a (cb_a 0) rd ++ wCb cI cZ cJ cb_a lk_w v_a cb_9 ++ wBr cI cZ cJ v_a v_b v_10 ++ wSy cI cZ cJ sy_a sy) → va_S A s.heap H locs → lv_has ls 8 [(0, .ref (rd_a 0)), (1, .ref (sy_a 0)), (2, .int x2), (3, .int x3), (5, .int x5), (6, .int x6_11)] → k82 cb_9 v_10 x6_11 = some res → W p l e R s m args below meth c H locs cells slots Q (F0 m 82 ls [])) :
    ∀ (n : Nat) (H : Heap) (locs : List Loc) (ls : Array Slot) (cb : Cb) (v : Br) (x6 : Int32) (x7 : Int32), va_P (dC, dI) vwCl (wRd cI cZ cJ rd_a (cb_a 0) rd ++ wCb cI cZ cJ cb_a lk_w v_a cb ++ wBr cI cZ cJ v_a v_b v ++ wSy cI cZ cJ sy_a sy) H → va_D A (wRd cI cZ cJ rd_a (cb_a 0) rd ++ wCb cI cZ cJ cb_a lk_w v_a cb ++ wBr cI cZ cJ v_a v_b v ++ wSy cI cZ cJ sy_a sy) → va_S A s.heap H locs → lv_has ls 8 [(0, .ref (rd_a 0)), (1, .ref (sy_a 0)), (2, .int x2), (3, .int x3), (4, .int x4), (5, .int x5), (6, .int x6), (7, .int x7)] → l_C_Reader_takeSamples_40 rd sy x2 x3 x4 x5 k82 n cb v x6 x7 = some res → W p l e R s m args below meth c H locs cells slots Q (F0 m 40 ls []) := by
  obtain ⟨hx, hb, hml, hown, hts, hK, hA, hRf, hRl, hN, hRc⟩ := id C0
  intro n
  induction n with
  | zero =>
    intro H locs ls cb v x6 x7 hP hD hS hl hf
    exact absurd hf (by simp [l_C_Reader_takeSamples_40])
  | succ n ih =>
    intro H locs ls cb v x6 x7 hP hD hS hl hf
    rw [l_C_Reader_takeSamples_40] at hf
    refine lv_iload hx hb d_Reader_takeSamples_40 (lv_at hl 7 rfl) ?_
    refine lv_aload_n hx hb d_Reader_takeSamples_42 rfl (lv_at hl 1 rfl) ?_
    refine va_get (D := (dC, dI)) (ci := 0) (v := .ref (sy_a 1)) (C := R_Symbols) (T := T_Symbols) (N := 10) hx hb hts in_Symbols hown hK hP 5 rfl rfl 0 (by decide) (hts _ t_208) (fun _ h9 => h9) rfl d_Reader_takeSamples_43 ?_
    refine lv_iload_n hx hb d_Reader_takeSamples_46 rfl (lv_at hl 2 rfl) ?_
    obtain ⟨h_12, hf⟩ := gd_ex hf
    refine va_iald (f := Sy_wd sy) hx hb hK hP 6 0 rfl rfl (inb_in h_12) d_Reader_takeSamples_47 ?_
    refine lv_icmp_ge (tgt := 82) hx hb d_Reader_takeSamples_48 (by decide) (fun c_13 => ?_) (fun c_13 => ?_)
    · rw [if_pos c_13] at hf
      exact hk82 _ _ _ cb v x6 hP hD hS (lv_sub hl [0, 1, 2, 3, 5, 6] rfl) hf
    · rw [if_neg c_13] at hf
      refine lv_iload hx hb d_Reader_takeSamples_51 (lv_at hl 6 rfl) ?_
      refine lv_aload_n hx hb d_Reader_takeSamples_53 rfl (lv_at hl 0 rfl) ?_
      refine va_get (D := (dC, dI)) (ci := 5) (v := .ref (cb_a 0)) (C := R_Reader) (T := T_Reader) (N := 5) hx hb hts in_Reader hown hK hP 0 rfl rfl 1 (by decide) (hts _ t_185) (fun _ h9 => h9) rfl d_Reader_takeSamples_54 ?_
      refine lv_iload hx hb d_Reader_takeSamples_57 (lv_at hl 6 rfl) ?_
      refine lv_iload hx hb d_Reader_takeSamples_59 (lv_at hl 4 rfl) ?_
      refine lv_iload hx hb d_Reader_takeSamples_61 (lv_at hl 7 rfl) ?_
      refine lv_iload_n hx hb d_Reader_takeSamples_63 rfl (lv_at hl 3 rfl) ?_
      obtain ⟨r_14, hf1, hf⟩ := bd_ex hf
      try dsimp only at hf
      have hPc := hP.sub (ws' := ([] : va_W)) [] rfl
      have hDc := hD.sub (ws' := ([] : va_W)) [] (by decide) rfl
      have hFc := va_free (wc := ([] : va_W)) hD hS hA [] rfl
      refine va_calli (va_runSN (As := [.int x6, .int x4, .int x7, .int x3]) (rest := [.ref (cb_a 0), .int x6]) ⟨hx, hb, hml, hown, hts⟩ (k_SD_contextAt l dC dI cI cZ cJ H.size hf1) ⟨va_cnB 4 hts (tb_GI (tb_code t_418)) rfl rfl rfl hN.1.2.2 (hts _ t_54) hd_SD_contextAt.2 ⟨Nat.le_trans (Nat.le_of_ble_eq_true rfl) hRf, Nat.le_trans (Nat.le_of_ble_eq_true rfl) hRl⟩, hts _ t_417, trivial⟩ ⟨kP_blind, kP_at hPc hK hDc hN⟩ rfl rfl hl.1 rfl (lv_room (Nat.le_of_ble_eq_true rfl)) d_Reader_takeSamples_64 hRc) hS (fun q _ h => hFc q h) hFc (fun r9 u t H1 locs ht hvm hw hB hz1 hk1 hS => ?_)
      rw [hw]
      obtain ⟨hP, hD⟩ := kQ_join (wr := (wRd cI cZ cJ rd_a (cb_a 0) rd ++ wCb cI cZ cJ cb_a lk_w v_a cb ++ wBr cI cZ cJ v_a v_b v ++ wSy cI cZ cJ sy_a sy)) (w1 := ([] : va_W)) hP hD [] [0, 1, 2, 3, 4, 5, 6, 7, 8, 9, 10, 11, 12, 13, 14] rfl rfl (by decide) (by decide) ht hk1 hFc hB
      generalize H1 = H at hP hS ⊢
      have hP : va_P (dC, dI) vwCl (wRd cI cZ cJ rd_a (cb_a 0) rd ++ wCb cI cZ cJ cb_a lk_w v_a cb ++ wBr cI cZ cJ v_a v_b v ++ wSy cI cZ cJ sy_a sy) H := hP.sub [0, 1, 2, 3, 4, 5, 6, 7, 8, 9, 10, 11, 12, 13, 14] rfl
      have hD : va_D A (wRd cI cZ cJ rd_a (cb_a 0) rd ++ wCb cI cZ cJ cb_a lk_w v_a cb ++ wBr cI cZ cJ v_a v_b v ++ wSy cI cZ cJ sy_a sy) := hD.sub [0, 1, 2, 3, 4, 5, 6, 7, 8, 9, 10, 11, 12, 13, 14] (by decide) rfl
      obtain ⟨⟨r_15, cb_16, v_17⟩, hf1, hf⟩ := bd_ex hf
      try dsimp only at hf
      have hPc := hP.sub (ws' := (wCb cI cZ cJ cb_a lk_w v_a cb ++ wBr cI cZ cJ v_a v_b v)) [1, 2, 3, 4] rfl
      have hDc := hD.sub (ws' := (wCb cI cZ cJ cb_a lk_w v_a cb ++ wBr cI cZ cJ v_a v_b v)) [1, 2, 3, 4] (by decide) rfl
      have hFc := va_free (wc := (wCb cI cZ cJ cb_a lk_w v_a cb ++ wBr cI cZ cJ v_a v_b v)) hD hS hA [1, 2, 3, 4] rfl
      refine va_calli (va_runU (As := [.int r_14]) (rest := [.int x6]) ⟨hx, hb, hml, hown, hts⟩ (k_C_ChanceBits_takeBit l dC dI cI cZ cJ cb_a v_a v_b lk_w H.size hf1) (va_cwA 1 hts (gU t_493 t_471 t_472 t_473 t_58 t_474) rfl rfl rfl (hN.2 _ (by decide +kernel)) hdx_Bits_takeBit ⟨Nat.le_trans (Nat.le_of_ble_eq_true rfl) hRf, Nat.le_trans (Nat.le_of_ble_eq_true rfl) hRl⟩) ⟨kP_blind, va_recv hK hP (ci := 3) (q0 := 1) rfl rfl, kP_at hPc hK hDc hN⟩ rfl rfl hl.1 rfl (lv_room (Nat.le_of_ble_eq_true rfl)) d_Reader_takeSamples_67 hRc) hS (fun q _ h => hFc q h) hFc (fun r9 u t H1 locs ht hvm hw hB hz1 hk1 hS => ?_)
      rw [hw]
      obtain ⟨hP, hD⟩ := kQ_join (wr := (wRd cI cZ cJ rd_a (cb_a 0) rd ++ wSy cI cZ cJ sy_a sy)) (w1 := (wCb cI cZ cJ cb_a lk_w v_a cb_16 ++ wBr cI cZ cJ v_a v_b v_17)) hP hD [1, 2, 3, 4] [0, 5, 6, 7, 8, 9, 10, 11, 12, 13, 14] rfl rfl (by decide) (by decide) ht hk1 hFc hB
      generalize H1 = H at hP hS ⊢
      have hP : va_P (dC, dI) vwCl (wRd cI cZ cJ rd_a (cb_a 0) rd ++ wCb cI cZ cJ cb_a lk_w v_a cb_16 ++ wBr cI cZ cJ v_a v_b v_17 ++ wSy cI cZ cJ sy_a sy) H := hP.sub [0, 11, 12, 13, 14, 1, 2, 3, 4, 5, 6, 7, 8, 9, 10] rfl
      have hD : va_D A (wRd cI cZ cJ rd_a (cb_a 0) rd ++ wCb cI cZ cJ cb_a lk_w v_a cb_16 ++ wBr cI cZ cJ v_a v_b v_17 ++ wSy cI cZ cJ sy_a sy) := hD.sub [0, 11, 12, 13, 14, 1, 2, 3, 4, 5, 6, 7, 8, 9, 10] (by decide) rfl
      refine lv_iload hx hb d_Reader_takeSamples_70 (lv_at hl 7 rfl) ?_
      refine lv_ishl hx hb d_Reader_takeSamples_72 ?_
      refine lv_ior hx hb d_Reader_takeSamples_73 ?_
      obtain ⟨x6_18, ex6_18, hf⟩ := lt_ex hf
      try dsimp only at hf
      refine tp_i ex6_18 ?_
      refine lv_istore (lv' := [(6, .int x6_18), (0, .ref (rd_a 0)), (1, .ref (sy_a 0)), (2, .int x2), (3, .int x3), (4, .int x4), (5, .int x5), (7, .int x7)]) hx hb d_Reader_takeSamples_74 hl (by decide) rfl (fun ls hl => ?_)
      obtain ⟨x7_19, ex7_19, hf⟩ := lt_ex hf
      try dsimp only at hf
      refine lv_iinc (v := x7_19) (lv' := [(7, .int x7_19), (6, .int x6_18), (0, .ref (rd_a 0)), (1, .ref (sy_a 0)), (2, .int x2), (3, .int x3), (4, .int x4), (5, .int x5)]) hx hb d_Reader_takeSamples_76 hl (k := 7) rfl (by rw [ex7_19]; rfl) (by decide) rfl (fun ls hl => ?_)
      refine lv_goto (tgt := 40) hx hb d_Reader_takeSamples_79 (by decide) ?_
      exact ih _ _ _ cb_16 v_17 x6_18 x7_19 hP hD hS (lv_sub hl [2, 3, 4, 5, 6, 7, 1, 0] rfl) hf
set_option maxHeartbeats 4000000 in
set_option maxRecDepth 100000 in
theorem L_C_Reader_takeSamples_23 {cells slots : Nat} {dC : Nat → ClassId} {dI : Nat → Nat → Nat} {cI cZ cJ : ClassId} {rd_a : Nat → Nat} {cb_a : Nat → Nat} {v_a v_b : Nat} {sy_a : Nat → Nat} {lk_w : Nat} {rd : Rd} {x2 : Int32} {x3 : Int32} {k110 : Cb → Br → Sy → Option (Cb × Br × Sy)} {res : Cb × Br × Sy} (C0 : cxt p c m s args R cells slots R_Reader c_Reader_takeSamples tb 8 (dC, dI) vwCl (TYS cI cZ cJ) A 3 68)
    (hk110 : ∀ (H : Heap) (locs : List Loc) (ls : Array Slot) (cb_4 : Cb) (v_5 : Br) (sy_6 : Sy), va_P (dC, dI) vwCl (wRd cI cZ cJ rd_a (cb_a 0) rd ++ wCb cI cZ cJ cb_a lk_w v_a cb_4 ++ wBr cI cZ cJ v_a v_b v_5 ++ wSy cI cZ cJ sy_a sy_6) H → va_D A (wRd cI cZ cJ rd_a (cb_a 0) rd ++ wCb cI cZ cJ cb_a lk_w v_a cb_4 ++ wBr cI cZ cJ v_a v_b v_5 ++ wSy cI cZ cJ sy_a sy_6) → va_S A s.heap H locs → lv_has ls 8 [] → k110 cb_4 v_5 sy_6 = some res → W p l e R s m args below meth c H locs cells slots Q (F0 m 110 ls [])) :
    ∀ (n : Nat) (H : Heap) (locs : List Loc) (ls : Array Slot) (cb : Cb) (v : Br) (sy : Sy) (x4 : Int32) (x5 : Int32), va_P (dC, dI) vwCl (wRd cI cZ cJ rd_a (cb_a 0) rd ++ wCb cI cZ cJ cb_a lk_w v_a cb ++ wBr cI cZ cJ v_a v_b v ++ wSy cI cZ cJ sy_a sy) H → va_D A (wRd cI cZ cJ rd_a (cb_a 0) rd ++ wCb cI cZ cJ cb_a lk_w v_a cb ++ wBr cI cZ cJ v_a v_b v ++ wSy cI cZ cJ sy_a sy) → va_S A s.heap H locs → lv_has ls 8 [(0, .ref (rd_a 0)), (1, .ref (sy_a 0)), (2, .int x2), (3, .int x3), (4, .int x4), (5, .int x5)] → l_C_Reader_takeSamples_23 rd x2 x3 k110 n cb v sy x4 x5 = some res → W p l e R s m args below meth c H locs cells slots Q (F0 m 23 ls []) := by
  obtain ⟨hx, hb, hml, hown, hts, hK, hA, hRf, hRl, hN, hRc⟩ := id C0
  intro n
  induction n with
  | zero =>
    intro H locs ls cb v sy x4 x5 hP hD hS hl hf
    exact absurd hf (by simp [l_C_Reader_takeSamples_23])
  | succ n ih =>
    intro H locs ls cb v sy x4 x5 hP hD hS hl hf
    rw [l_C_Reader_takeSamples_23] at hf
    refine lv_iload hx hb d_Reader_takeSamples_23 (lv_at hl 5 rfl) ?_
    refine lv_aload_n hx hb d_Reader_takeSamples_25 rfl (lv_at hl 1 rfl) ?_
    refine va_get (D := (dC, dI)) (ci := 0) (v := .ref (sy_a 2)) (C := R_Symbols) (T := T_Symbols) (N := 10) hx hb hts in_Symbols hown hK hP 5 rfl rfl 1 (by decide) (hts _ t_212) (fun _ h9 => h9) rfl d_Reader_takeSamples_26 ?_
    refine lv_iload_n hx hb d_Reader_takeSamples_29 rfl (lv_at hl 2 rfl) ?_
    obtain ⟨h_7, hf⟩ := gd_ex hf
    refine va_iald (f := Sy_ht sy) hx hb hK hP 7 0 rfl rfl (inb_in h_7) d_Reader_takeSamples_30 ?_
    refine lv_icmp_ge (tgt := 110) hx hb d_Reader_takeSamples_31 (by decide) (fun c_8 => ?_) (fun c_8 => ?_)
    · rw [if_pos c_8] at hf
      exact hk110 _ _ _ cb v sy hP hD hS (lv_sub hl [] rfl) hf
    · rw [if_neg c_8] at hf
      refine lv_iconst (v := 0) hx hb d_Reader_takeSamples_34 (by decide) ?_
      refine lv_istore (lv' := [(6, .int 0), (0, .ref (rd_a 0)), (1, .ref (sy_a 0)), (2, .int x2), (3, .int x3), (4, .int x4), (5, .int x5)]) hx hb d_Reader_takeSamples_35 hl (by decide) rfl (fun ls hl => ?_)
      refine lv_iconst (v := 0) hx hb d_Reader_takeSamples_37 (by decide) ?_
      refine lv_istore (lv' := [(7, .int 0), (6, .int 0), (0, .ref (rd_a 0)), (1, .ref (sy_a 0)), (2, .int x2), (3, .int x3), (4, .int x4), (5, .int x5)]) hx hb d_Reader_takeSamples_38 hl (by decide) rfl (fun ls hl => ?_)
      refine L_C_Reader_takeSamples_40 C0 (fun H locs ls cb_20 v_21 x6_22 hP hD hS hl hf => ?_) 100000 _ _ _ cb v 0 0 hP hD hS (lv_sub hl [2, 3, 4, 5, 6, 7, 1, 0] rfl) hf
      try dsimp only at hf
      refine lv_aload_n hx hb d_Reader_takeSamples_82 rfl (lv_at hl 1 rfl) ?_
      refine lv_iload_n hx hb d_Reader_takeSamples_83 rfl (lv_at hl 2 rfl) ?_
      refine lv_iload hx hb d_Reader_takeSamples_84 (lv_at hl 4 rfl) ?_
      refine lv_iload hx hb d_Reader_takeSamples_86 (lv_at hl 5 rfl) ?_
      refine lv_aload_n hx hb d_Reader_takeSamples_88 rfl (lv_at hl 1 rfl) ?_
      refine lv_iload_n hx hb d_Reader_takeSamples_89 rfl (lv_at hl 2 rfl) ?_
      refine lv_iload hx hb d_Reader_takeSamples_90 (lv_at hl 4 rfl) ?_
      obtain ⟨r_23, hf1, hf⟩ := bd_ex hf
      try dsimp only at hf
      have hPc := hP.sub (ws' := (wSy cI cZ cJ sy_a sy)) [5, 6, 7, 8, 9, 10, 11, 12, 13, 14] rfl
      have hDc := hD.sub (ws' := (wSy cI cZ cJ sy_a sy)) [5, 6, 7, 8, 9, 10, 11, 12, 13, 14] (by decide) rfl
      have hFc := va_free (wc := (wSy cI cZ cJ sy_a sy)) hD hS hA [5, 6, 7, 8, 9, 10, 11, 12, 13, 14] rfl
      refine va_calli (va_runV (As := [.int x2, .int x5]) (rest := [.int x6_22, .int x5, .int x2, .ref (sy_a 0)]) ⟨hx, hb, hml, hown, hts⟩ (k_Symbols_foretoldRow l dC dI cI cZ cJ sy_a H.size hf1) (cwV 2 hts (gV t_527 t_400 t_401 t_62 t_402) rfl rfl rfl hd_Symbols_foretoldRow ⟨Nat.le_trans (Nat.le_of_ble_eq_true rfl) hRf, Nat.le_trans (Nat.le_of_ble_eq_true rfl) hRl⟩) ⟨kP_blind, va_recv hK hP (ci := 0) (q0 := 5) rfl rfl, kP_at hPc hK hDc hN⟩ rfl rfl hl.1 rfl (lv_room (Nat.le_of_ble_eq_true rfl)) d_Reader_takeSamples_92 hRc) hS (fun q _ h => hFc q h) hFc (fun r9 u t H1 locs ht hvm hw hB hz1 hk1 hS => ?_)
      rw [hw]
      obtain ⟨hP, hD⟩ := kQ_join (wr := (wRd cI cZ cJ rd_a (cb_a 0) rd ++ wCb cI cZ cJ cb_a lk_w v_a cb_20 ++ wBr cI cZ cJ v_a v_b v_21)) (w1 := (wSy cI cZ cJ sy_a sy)) hP hD [5, 6, 7, 8, 9, 10, 11, 12, 13, 14] [0, 1, 2, 3, 4] rfl rfl (by decide) (by decide) ht hk1 hFc hB
      generalize H1 = H at hP hS ⊢
      have hP : va_P (dC, dI) vwCl (wRd cI cZ cJ rd_a (cb_a 0) rd ++ wCb cI cZ cJ cb_a lk_w v_a cb_20 ++ wBr cI cZ cJ v_a v_b v_21 ++ wSy cI cZ cJ sy_a sy) H := hP.sub [0, 1, 2, 3, 4, 5, 6, 7, 8, 9, 10, 11, 12, 13, 14] rfl
      have hD : va_D A (wRd cI cZ cJ rd_a (cb_a 0) rd ++ wCb cI cZ cJ cb_a lk_w v_a cb_20 ++ wBr cI cZ cJ v_a v_b v_21 ++ wSy cI cZ cJ sy_a sy) := hD.sub [0, 1, 2, 3, 4, 5, 6, 7, 8, 9, 10, 11, 12, 13, 14] (by decide) rfl
      refine lv_ixor hx hb d_Reader_takeSamples_95 ?_
      obtain ⟨⟨r_24, sy_25⟩, hf1, hf⟩ := bd_ex hf
      try dsimp only at hf
      have hPc := hP.sub (ws' := (wSy cI cZ cJ sy_a sy)) [5, 6, 7, 8, 9, 10, 11, 12, 13, 14] rfl
      have hDc := hD.sub (ws' := (wSy cI cZ cJ sy_a sy)) [5, 6, 7, 8, 9, 10, 11, 12, 13, 14] (by decide) rfl
      have hFc := va_free (wc := (wSy cI cZ cJ sy_a sy)) hD hS hA [5, 6, 7, 8, 9, 10, 11, 12, 13, 14] rfl
      refine va_calli (va_runV (As := [.int x2, .int x5, .int (x6_22 ^^^ r_23)]) (rest := []) ⟨hx, hb, hml, hown, hts⟩ (k_Symbols_setRow l dC dI cI cZ cJ sy_a H.size hf1) (cwV 3 hts (gV t_528 t_507 t_508 t_62 t_509) rfl rfl rfl hd_Symbols_setRow ⟨Nat.le_trans (Nat.le_of_ble_eq_true rfl) hRf, Nat.le_trans (Nat.le_of_ble_eq_true rfl) hRl⟩) ⟨kP_blind, va_recv hK hP (ci := 0) (q0 := 5) rfl rfl, kP_at hPc hK hDc hN⟩ rfl rfl hl.1 rfl (lv_room (Nat.le_of_ble_eq_true rfl)) d_Reader_takeSamples_96 hRc) hS (fun q _ h => hFc q h) hFc (fun r9 u t H1 locs ht hvm hw hB hz1 hk1 hS => ?_)
      rw [hw]
      obtain ⟨hP, hD⟩ := kQ_join (wr := (wRd cI cZ cJ rd_a (cb_a 0) rd ++ wCb cI cZ cJ cb_a lk_w v_a cb_20 ++ wBr cI cZ cJ v_a v_b v_21)) (w1 := (wSy cI cZ cJ sy_a sy_25)) hP hD [5, 6, 7, 8, 9, 10, 11, 12, 13, 14] [0, 1, 2, 3, 4] rfl rfl (by decide) (by decide) ht hk1 hFc hB
      generalize H1 = H at hP hS ⊢
      have hP : va_P (dC, dI) vwCl (wRd cI cZ cJ rd_a (cb_a 0) rd ++ wCb cI cZ cJ cb_a lk_w v_a cb_20 ++ wBr cI cZ cJ v_a v_b v_21 ++ wSy cI cZ cJ sy_a sy_25) H := hP.sub [0, 1, 2, 3, 4, 5, 6, 7, 8, 9, 10, 11, 12, 13, 14] rfl
      have hD : va_D A (wRd cI cZ cJ rd_a (cb_a 0) rd ++ wCb cI cZ cJ cb_a lk_w v_a cb_20 ++ wBr cI cZ cJ v_a v_b v_21 ++ wSy cI cZ cJ sy_a sy_25) := hD.sub [0, 1, 2, 3, 4, 5, 6, 7, 8, 9, 10, 11, 12, 13, 14] (by decide) rfl
      refine lv_pop hx hb d_Reader_takeSamples_99 rfl ?_
      refine lv_iload hx hb d_Reader_takeSamples_100 (lv_at hl 5 rfl) ?_
      refine lv_istore (lv' := [(4, .int x6_22), (0, .ref (rd_a 0)), (1, .ref (sy_a 0)), (2, .int x2), (3, .int x3), (5, .int x5), (6, .int x6_22)]) hx hb d_Reader_takeSamples_102 hl (by decide) rfl (fun ls hl => ?_)
      obtain ⟨x5_26, ex5_26, hf⟩ := lt_ex hf
      try dsimp only at hf
      refine lv_iinc (v := x5_26) (lv' := [(5, .int x5_26), (4, .int x6_22), (0, .ref (rd_a 0)), (1, .ref (sy_a 0)), (2, .int x2), (3, .int x3), (6, .int x6_22)]) hx hb d_Reader_takeSamples_104 hl (k := 5) rfl (by rw [ex5_26]; rfl) (by decide) rfl (fun ls hl => ?_)
      refine lv_goto (tgt := 23) hx hb d_Reader_takeSamples_107 (by decide) ?_
      exact ih _ _ _ cb_20 v_21 sy_25 x6_22 x5_26 hP hD hS (lv_sub hl [2, 3, 4, 5, 1, 0] rfl) hf
set_option maxHeartbeats 4000000 in
set_option maxRecDepth 100000 in
theorem B_C_Reader_takeSamples {cells slots : Nat} {dC : Nat → ClassId} {dI : Nat → Nat → Nat} {cI cZ cJ : ClassId} {rd_a : Nat → Nat} {cb_a : Nat → Nat} {v_a v_b : Nat} {sy_a : Nat → Nat} {lk_w : Nat} {rd : Rd} {cb : Cb} {v : Br} {sy : Sy} {x2 : Int32} {res : Cb × Br × Sy} (C0 : cxt p c m s args R cells slots R_Reader c_Reader_takeSamples tb 8 (dC, dI) vwCl (TYS cI cZ cJ) A 3 68)
    (hr110 : ∀ (H : Heap) (locs : List Loc) (ls : Array Slot) (cb' : Cb) (v' : Br) (sy' : Sy), va_P (dC, dI) vwCl (wRd cI cZ cJ rd_a (cb_a 0) rd ++ wCb cI cZ cJ cb_a lk_w v_a cb' ++ wBr cI cZ cJ v_a v_b v' ++ wSy cI cZ cJ sy_a sy') H → va_D A (wRd cI cZ cJ rd_a (cb_a 0) rd ++ wCb cI cZ cJ cb_a lk_w v_a cb' ++ wBr cI cZ cJ v_a v_b v' ++ wSy cI cZ cJ sy_a sy') → va_S A s.heap H locs → some (cb', v', sy') = some res → W p l e R s m args below meth c H locs cells slots Q (F0 m 110 ls []))
    {H : Heap} {locs : List Loc} {ls : Array Slot} (hP : va_P (dC, dI) vwCl (wRd cI cZ cJ rd_a (cb_a 0) rd ++ wCb cI cZ cJ cb_a lk_w v_a cb ++ wBr cI cZ cJ v_a v_b v ++ wSy cI cZ cJ sy_a sy) H) (hD : va_D A (wRd cI cZ cJ rd_a (cb_a 0) rd ++ wCb cI cZ cJ cb_a lk_w v_a cb ++ wBr cI cZ cJ v_a v_b v ++ wSy cI cZ cJ sy_a sy)) (hS : va_S A s.heap H locs) (hl : lv_has ls 8 [(0, .ref (rd_a 0)), (1, .ref (sy_a 0)), (2, .int x2)]) (hf : f_C_Reader_takeSamples rd cb v sy x2 = some res) : W p l e R s m args below meth c H locs cells slots Q (F0 m 0 ls []) := by
  obtain ⟨hx, hb, hml, hown, hts, hK, hA, hRf, hRl, hN, hRc⟩ := id C0
  rw [f_C_Reader_takeSamples] at hf
  refine lv_aload_n hx hb d_Reader_takeSamples_0 rfl (lv_at hl 1 rfl) ?_
  refine va_get (D := (dC, dI)) (ci := 0) (v := .ref (sy_a 4)) (C := R_Symbols) (T := T_Symbols) (N := 10) hx hb hts in_Symbols hown hK hP 5 rfl rfl 3 (by decide) (hts _ t_221) (fun _ h9 => h9) rfl d_Reader_takeSamples_1 ?_
  refine lv_iload_n hx hb d_Reader_takeSamples_4 rfl (lv_at hl 2 rfl) ?_
  obtain ⟨h_1, hf⟩ := gd_ex hf
  refine va_iald (f := Sy_bs sy) hx hb hK hP 9 0 rfl rfl (inb_in h_1) d_Reader_takeSamples_5 ?_
  refine lv_iconst (v := (-1)) hx hb d_Reader_takeSamples_6 (by decide) ?_
  have J16_2 : ∀ (H : Heap) (locs : List Loc) (ls : Array Slot) (z0_2 : Int32), va_P (dC, dI) vwCl (wRd cI cZ cJ rd_a (cb_a 0) rd ++ wCb cI cZ cJ cb_a lk_w v_a cb ++ wBr cI cZ cJ v_a v_b v ++ wSy cI cZ cJ sy_a sy) H → va_D A (wRd cI cZ cJ rd_a (cb_a 0) rd ++ wCb cI cZ cJ cb_a lk_w v_a cb ++ wBr cI cZ cJ v_a v_b v ++ wSy cI cZ cJ sy_a sy) → va_S A s.heap H locs → lv_has ls 8 [(0, .ref (rd_a 0)), (1, .ref (sy_a 0)), (2, .int x2)] → j_C_Reader_takeSamples_16_3 rd cb v sy x2 z0_2 = some res → W p l e R s m args below meth c H locs cells slots Q (F0 m 16 ls [.int z0_2]) := by
    intro H locs ls z0_2 hP hD hS hl hf
    rw [j_C_Reader_takeSamples_16_3] at hf
    refine lv_istore_n (lv' := [(3, .int z0_2), (0, .ref (rd_a 0)), (1, .ref (sy_a 0)), (2, .int x2)]) hx hb d_Reader_takeSamples_16 rfl hl (by decide) rfl (fun ls hl => ?_)
    refine lv_iconst (v := 0) hx hb d_Reader_takeSamples_17 (by decide) ?_
    refine lv_istore (lv' := [(4, .int 0), (3, .int z0_2), (0, .ref (rd_a 0)), (1, .ref (sy_a 0)), (2, .int x2)]) hx hb d_Reader_takeSamples_18 hl (by decide) rfl (fun ls hl => ?_)
    refine lv_iconst (v := 0) hx hb d_Reader_takeSamples_20 (by decide) ?_
    refine lv_istore (lv' := [(5, .int 0), (4, .int 0), (3, .int z0_2), (0, .ref (rd_a 0)), (1, .ref (sy_a 0)), (2, .int x2)]) hx hb d_Reader_takeSamples_21 hl (by decide) rfl (fun ls hl => ?_)
    refine L_C_Reader_takeSamples_23 C0 (fun H locs ls cb_27 v_28 sy_29 hP hD hS hl hf => ?_) 100000 _ _ _ cb v sy 0 0 hP hD hS (lv_sub hl [3, 4, 5, 2, 1, 0] rfl) hf
    try dsimp only at hf
    exact hr110 _ _ _ cb_27 v_28 sy_29 hP hD hS hf
  refine lv_icmp_ne (tgt := 14) hx hb d_Reader_takeSamples_7 (by decide) (fun c_30 => ?_) (fun c_30 => ?_)
  · rw [if_neg c_30] at hf
    refine lv_bipush (v := 16) hx hb d_Reader_takeSamples_14 (by decide) ?_
    exact J16_2 _ _ _ 16 hP hD hS (lv_sub hl [0, 1, 2] rfl) hf
  · rw [if_pos c_30] at hf
    refine lv_iconst (v := 0) hx hb d_Reader_takeSamples_10 (by decide) ?_
    refine lv_goto (tgt := 16) hx hb d_Reader_takeSamples_11 (by decide) ?_
    exact J16_2 _ _ _ 0 hP hD hS (lv_sub hl [0, 1, 2] rfl) hf
end
set_option maxHeartbeats 4000000 in
set_option maxRecDepth 100000 in
theorem k_C_Reader_takeSamples (l : Launch) (dC : Nat → ClassId) (dI : Nat → Nat → Nat) (cI cZ cJ : ClassId) (rd_a : Nat → Nat) (cb_a : Nat → Nat) (v_a v_b : Nat) (sy_a : Nat → Nat) (lk_w : Nat) (sz : Nat) {rd : Rd} {cb : Cb} {v : Br} {sy : Sy} {x2 : Int32} {cb' : Cb} {v' : Br} {sy' : Sy} (hf : f_C_Reader_takeSamples rd cb v sy x2 = some (cb', v', sy')) :
    Met l y_Reader_takeSamples ws_Reader_takeSamples ({ frames := 3, cells := 0, slots := 0, locals := 68 }) (va_Pc [.ref (rd_a 0), .ref (sy_a 0), .int x2] (kP (dC, dI) vwCl (TYS cI cZ cJ) (wRd cI cZ cJ rd_a (cb_a 0) rd ++ wCb cI cZ cJ cb_a lk_w v_a cb ++ wBr cI cZ cJ v_a v_b v ++ wSy cI cZ cJ sy_a sy) sz)) (va_Qv (fun (_ : Unit) => True) (fun _ t => kQ (dC, dI) vwCl (TYS cI cZ cJ) (wRd cI cZ cJ rd_a (cb_a 0) rd ++ wCb cI cZ cJ cb_a lk_w v_a cb ++ wBr cI cZ cJ v_a v_b v ++ wSy cI cZ cJ sy_a sy) sz (wRd cI cZ cJ rd_a (cb_a 0) rd ++ wCb cI cZ cJ cb_a lk_w v_a cb' ++ wBr cI cZ cJ v_a v_b v' ++ wSy cI cZ cJ sy_a sy') t) (va_A (wRd cI cZ cJ rd_a (cb_a 0) rd ++ wCb cI cZ cJ cb_a lk_w v_a cb ++ wBr cI cZ cJ v_a v_b v ++ wSy cI cZ cJ sy_a sy) sz)) 0 0 (va_A (wRd cI cZ cJ rd_a (cb_a 0) rd ++ wCb cI cZ cJ cb_a lk_w v_a cb ++ wBr cI cZ cJ v_a v_b v ++ wSy cI cZ cJ sy_a sy) sz) := by
  refine Met.ofW (cc := c_Reader_takeSamples) (maxL := 8) (ret := none) (by decide) rfl ?_
  intro p e s m args below meth c s₁ B hml hv
  obtain ⟨rfl, hsz, hP, hK, hD0, hN⟩ := hv
  have hr := B.returns
  have hlocks := B.notSynchronized
  subst hsz
  have hD := hD0.self (sz := s.heap.size)
  have hl := lv_entry ([.ref (rd_a 0), .ref (sy_a 0), .int x2]) (n := 8) (Nat.le_of_ble_eq_true rfl)
  rw [lg_entry_eq]
  generalize (lg_sl ([.ref (rd_a 0), .ref (sy_a 0), .int x2]) ++ List.replicate (8 - (lg_sl ([.ref (rd_a 0), .ref (sy_a 0), .int x2])).length) Slot.unset).toArray = ls at hl ⊢
  refine B_C_Reader_takeSamples (A := va_A (wRd cI cZ cJ rd_a (cb_a 0) rd ++ wCb cI cZ cJ cb_a lk_w v_a cb ++ wBr cI cZ cJ v_a v_b v ++ wSy cI cZ cJ sy_a sy) s.heap.size) ⟨B.exec, B.bytes, hml, findClass_of_methodNamed B.named, fun w h => atoms_spec (ws := ws_Reader_takeSamples) B.pre w (List.mem_cons_of_mem _ h), hK, fun q h => Or.inr h, Nat.le_of_ble_eq_true rfl, Nat.le_of_ble_eq_true rfl, hN, Nat.le_of_ble_eq_true rfl, Nat.le_of_ble_eq_true rfl⟩ (fun H locs ls cb'1 v'1 sy'1 hP hD hS hf => ?_) hP hD va_S.rf hl hf
  · cases hf
    exact W.vret B.exec B.bytes hr (fun t ht hW => ⟨⟨(), rfl, trivial, ⟨by rw [ht]; exact hP, va_K.moved hW.alike hK, hD⟩⟩, hS.F ht⟩) hS.2.2 d_Reader_takeSamples_110

/-! C_Reader_turnRun -/
def l_C_Reader_turnRun_11 (rd : Rd) (x2 : Int32) (x3 : Int32) (x4 : Int32) (k45 : Sy → Option (Sy)) : Nat → Sy → Int32 → Option (Sy)
  | 0, _, _ => none
  | n + 1, sy, x5 => (if (x3 + x4) ≤ x5 then k45 sy else gd (decide (¬ (Rd_w rd) = 0)) <| gd (decide (¬ (Rd_w rd) = 0)) <| bd (f_Symbols_turn sy x2 (x5 - x5 / (Rd_w rd) * (Rd_w rd)) (x5 / (Rd_w rd))) <| fun sy_6 => lt' (x5 + 1) <| fun x5_7 => (l_C_Reader_turnRun_11 rd x2 x3 x4 k45 n) sy_6 x5_7)
def f_C_Reader_turnRun (rd : Rd) (sy : Sy) (x2 : Int32) (x3 : Int32) (x4 : Int32) : Option (Sy) := (if (Rd_w rd) = 0 then some sy else l_C_Reader_turnRun_11 rd x2 x3 x4 (fun sy_8 => some sy_8) 100000 sy x3)
section
variable {p : Program} {l : Launch} {e : Env} {R : Room} {s : State} {m : MethodId} {args : Array Value} {below : List Frame} {meth : Method} {c : Code} {Q : State → Prop} {A : Nat → Prop}
set_option maxHeartbeats 4000000 in
set_option maxRecDepth 100000 in
theorem L_C_Reader_turnRun_11 {cells slots : Nat} {dC : Nat → ClassId} {dI : Nat → Nat → Nat} {cI cZ cJ : ClassId} {rd_a : Nat → Nat} {sy_a : Nat → Nat} {lk_cb : Nat} {rd : Rd} {x2 : Int32} {x3 : Int32} {x4 : Int32} {k45 : Sy → Option (Sy)} {res : Sy} (C0 : cxt p c m s args R cells slots R_Reader c_Reader_turnRun tb 6 (dC, dI) vwCl (TYS cI cZ cJ) A 1 23)
    (hk45 : ∀ (H : Heap) (locs : List Loc) (ls : Array Slot) (sy_2 : Sy), va_P (dC, dI) vwCl (wRd cI cZ cJ rd_a lk_cb rd ++ wSy cI cZ cJ sy_a sy_2) H → va_D A (wRd cI cZ cJ rd_a lk_cb rd ++ wSy cI cZ cJ sy_a sy_2) → va_S A s.heap H locs → lv_has ls 6 [] → k45 sy_2 = some res → W p l e R s m args below meth c H locs cells slots Q (F0 m 45 ls [])) :
    ∀ (n : Nat) (H : Heap) (locs : List Loc) (ls : Array Slot) (sy : Sy) (x5 : Int32), va_P (dC, dI) vwCl (wRd cI cZ cJ rd_a lk_cb rd ++ wSy cI cZ cJ sy_a sy) H → va_D A (wRd cI cZ cJ rd_a lk_cb rd ++ wSy cI cZ cJ sy_a sy) → va_S A s.heap H locs → lv_has ls 6 [(0, .ref (rd_a 0)), (1, .ref (sy_a 0)), (2, .int x2), (3, .int x3), (4, .int x4), (5, .int x5)] → l_C_Reader_turnRun_11 rd x2 x3 x4 k45 n sy x5 = some res → W p l e R s m args below meth c H locs cells slots Q (F0 m 11 ls []) := by
  obtain ⟨hx, hb, hml, hown, hts, hK, hA, hRf, hRl, hN, hRc⟩ := id C0
  intro n
  induction n with
  | zero =>
    intro H locs ls sy x5 hP hD hS hl hf
    exact absurd hf (by simp [l_C_Reader_turnRun_11])
  | succ n ih =>
    intro H locs ls sy x5 hP hD hS hl hf
    rw [l_C_Reader_turnRun_11] at hf
    refine lv_iload hx hb d_Reader_turnRun_11 (lv_at hl 5 rfl) ?_
    refine lv_iload_n hx hb d_Reader_turnRun_13 rfl (lv_at hl 3 rfl) ?_
    refine lv_iload hx hb d_Reader_turnRun_14 (lv_at hl 4 rfl) ?_
    refine lv_iadd hx hb d_Reader_turnRun_16 ?_
    refine lv_icmp_ge (tgt := 45) hx hb d_Reader_turnRun_17 (by decide) (fun c_3 => ?_) (fun c_3 => ?_)
    · rw [if_pos c_3] at hf
      exact hk45 _ _ _ sy hP hD hS (lv_sub hl [] rfl) hf
    · rw [if_neg c_3] at hf
      refine lv_aload_n hx hb d_Reader_turnRun_20 rfl (lv_at hl 1 rfl) ?_
      refine lv_iload_n hx hb d_Reader_turnRun_21 rfl (lv_at hl 2 rfl) ?_
      refine lv_iload hx hb d_Reader_turnRun_22 (lv_at hl 5 rfl) ?_
      refine lv_aload_n hx hb d_Reader_turnRun_24 rfl (lv_at hl 0 rfl) ?_
      refine va_get (D := (dC, dI)) (ci := 5) (v := .int (Rd_w rd)) (C := R_Reader) (T := T_Reader) (N := 5) hx hb hts in_Reader hown hK hP 0 rfl rfl 4 (by decide) (hts _ t_188) (fun _ h9 => h9) rfl d_Reader_turnRun_25 ?_
      obtain ⟨h_4, hf⟩ := gd_ex hf
      refine lv_irem hx hb d_Reader_turnRun_28 (of_decide_eq_true h_4) ?_
      refine lv_iload hx hb d_Reader_turnRun_29 (lv_at hl 5 rfl) ?_
      refine lv_aload_n hx hb d_Reader_turnRun_31 rfl (lv_at hl 0 rfl) ?_
      refine va_get (D := (dC, dI)) (ci := 5) (v := .int (Rd_w rd)) (C := R_Reader) (T := T_Reader) (N := 5) hx hb hts in_Reader hown hK hP 0 rfl rfl 4 (by decide) (hts _ t_188) (fun _ h9 => h9) rfl d_Reader_turnRun_32 ?_
      obtain ⟨h_5, hf⟩ := gd_ex hf
      refine lv_idiv hx hb d_Reader_turnRun_35 (of_decide_eq_true h_5) ?_
      obtain ⟨sy_6, hf1, hf⟩ := bd_ex hf
      try dsimp only at hf
      have hPc := hP.sub (ws' := (wSy cI cZ cJ sy_a sy)) [1, 2, 3, 4, 5, 6, 7, 8, 9, 10] rfl
      have hDc := hD.sub (ws' := (wSy cI cZ cJ sy_a sy)) [1, 2, 3, 4, 5, 6, 7, 8, 9, 10] (by decide) rfl
      have hFc := va_free (wc := (wSy cI cZ cJ sy_a sy)) hD hS hA [1, 2, 3, 4, 5, 6, 7, 8, 9, 10] rfl
      refine va_callv (va_runV (As := [.int x2, .int (x5 - x5 / (Rd_w rd) * (Rd_w rd)), .int (x5 / (Rd_w rd))]) (rest := []) ⟨hx, hb, hml, hown, hts⟩ (k_Symbols_turn l dC dI cI cZ cJ sy_a H.size hf1) (cwV 3 hts (gV t_537 t_538 t_539 t_62 t_540) rfl rfl rfl hd_Symbols_turn ⟨Nat.le_trans (Nat.le_of_ble_eq_true rfl) hRf, Nat.le_trans (Nat.le_of_ble_eq_true rfl) hRl⟩) ⟨kP_blind, va_recv hK hP (ci := 0) (q0 := 1) rfl rfl, kP_at hPc hK hDc hN⟩ rfl rfl hl.1 rfl (lv_room (Nat.le_of_ble_eq_true rfl)) d_Reader_turnRun_36 hRc) hS (fun q _ h => hFc q h) hFc (fun u t H1 locs ht hvm hw hB hz1 hk1 hS => ?_)
      obtain ⟨hP, hD⟩ := kQ_join (wr := (wRd cI cZ cJ rd_a lk_cb rd)) (w1 := (wSy cI cZ cJ sy_a sy_6)) hP hD [1, 2, 3, 4, 5, 6, 7, 8, 9, 10] [0] rfl rfl (by decide) (by decide) ht hk1 hFc hB
      generalize H1 = H at hP hS ⊢
      have hP : va_P (dC, dI) vwCl (wRd cI cZ cJ rd_a lk_cb rd ++ wSy cI cZ cJ sy_a sy_6) H := hP.sub [0, 1, 2, 3, 4, 5, 6, 7, 8, 9, 10] rfl
      have hD : va_D A (wRd cI cZ cJ rd_a lk_cb rd ++ wSy cI cZ cJ sy_a sy_6) := hD.sub [0, 1, 2, 3, 4, 5, 6, 7, 8, 9, 10] (by decide) rfl
      obtain ⟨x5_7, ex5_7, hf⟩ := lt_ex hf
      try dsimp only at hf
      refine lv_iinc (v := x5_7) (lv' := [(5, .int x5_7), (0, .ref (rd_a 0)), (1, .ref (sy_a 0)), (2, .int x2), (3, .int x3), (4, .int x4)]) hx hb d_Reader_turnRun_39 hl (k := 5) rfl (by rw [ex5_7]; rfl) (by decide) rfl (fun ls hl => ?_)
      refine lv_goto (tgt := 11) hx hb d_Reader_turnRun_42 (by decide) ?_
      exact ih _ _ _ sy_6 x5_7 hP hD hS (lv_sub hl [1, 2, 3, 4, 5, 0] rfl) hf
set_option maxHeartbeats 4000000 in
set_option maxRecDepth 100000 in
theorem B_C_Reader_turnRun {cells slots : Nat} {dC : Nat → ClassId} {dI : Nat → Nat → Nat} {cI cZ cJ : ClassId} {rd_a : Nat → Nat} {sy_a : Nat → Nat} {lk_cb : Nat} {rd : Rd} {sy : Sy} {x2 : Int32} {x3 : Int32} {x4 : Int32} {res : Sy} (C0 : cxt p c m s args R cells slots R_Reader c_Reader_turnRun tb 6 (dC, dI) vwCl (TYS cI cZ cJ) A 1 23)
    (hr7 : ∀ (H : Heap) (locs : List Loc) (ls : Array Slot) (sy' : Sy), va_P (dC, dI) vwCl (wRd cI cZ cJ rd_a lk_cb rd ++ wSy cI cZ cJ sy_a sy') H → va_D A (wRd cI cZ cJ rd_a lk_cb rd ++ wSy cI cZ cJ sy_a sy') → va_S A s.heap H locs → some sy' = some res → W p l e R s m args below meth c H locs cells slots Q (F0 m 7 ls []))
    (hr45 : ∀ (H : Heap) (locs : List Loc) (ls : Array Slot) (sy' : Sy), va_P (dC, dI) vwCl (wRd cI cZ cJ rd_a lk_cb rd ++ wSy cI cZ cJ sy_a sy') H → va_D A (wRd cI cZ cJ rd_a lk_cb rd ++ wSy cI cZ cJ sy_a sy') → va_S A s.heap H locs → some sy' = some res → W p l e R s m args below meth c H locs cells slots Q (F0 m 45 ls []))
    {H : Heap} {locs : List Loc} {ls : Array Slot} (hP : va_P (dC, dI) vwCl (wRd cI cZ cJ rd_a lk_cb rd ++ wSy cI cZ cJ sy_a sy) H) (hD : va_D A (wRd cI cZ cJ rd_a lk_cb rd ++ wSy cI cZ cJ sy_a sy)) (hS : va_S A s.heap H locs) (hl : lv_has ls 6 [(0, .ref (rd_a 0)), (1, .ref (sy_a 0)), (2, .int x2), (3, .int x3), (4, .int x4)]) (hf : f_C_Reader_turnRun rd sy x2 x3 x4 = some res) : W p l e R s m args below meth c H locs cells slots Q (F0 m 0 ls []) := by
  obtain ⟨hx, hb, hml, hown, hts, hK, hA, hRf, hRl, hN, hRc⟩ := id C0
  rw [f_C_Reader_turnRun] at hf
  refine lv_aload_n hx hb d_Reader_turnRun_0 rfl (lv_at hl 0 rfl) ?_
  refine va_get (D := (dC, dI)) (ci := 5) (v := .int (Rd_w rd)) (C := R_Reader) (T := T_Reader) (N := 5) hx hb hts in_Reader hown hK hP 0 rfl rfl 4 (by decide) (hts _ t_188) (fun _ h9 => h9) rfl d_Reader_turnRun_1 ?_
  refine lv_if_ne (tgt := 8) hx hb d_Reader_turnRun_4 (by decide) (fun c_1 => ?_) (fun c_1 => ?_)
  · rw [if_neg c_1] at hf
    refine lv_iload_n hx hb d_Reader_turnRun_8 rfl (lv_at hl 3 rfl) ?_
    refine lv_istore (lv' := [(5, .int x3), (0, .ref (rd_a 0)), (1, .ref (sy_a 0)), (2, .int x2), (3, .int x3), (4, .int x4)]) hx hb d_Reader_turnRun_9 hl (by decide) rfl (fun ls hl => ?_)
    refine L_C_Reader_turnRun_11 C0 (fun H locs ls sy_8 hP hD hS hl hf => ?_) 100000 _ _ _ sy x3 hP hD hS (lv_sub hl [1, 2, 3, 4, 5, 0] rfl) hf
    try dsimp only at hf
    exact hr45 _ _ _ sy_8 hP hD hS hf
  · rw [if_pos c_1] at hf
    exact hr7 _ _ _ sy hP hD hS hf
end
set_option maxHeartbeats 4000000 in
set_option maxRecDepth 100000 in
theorem k_C_Reader_turnRun (l : Launch) (dC : Nat → ClassId) (dI : Nat → Nat → Nat) (cI cZ cJ : ClassId) (rd_a : Nat → Nat) (sy_a : Nat → Nat) (lk_cb : Nat) (sz : Nat) {rd : Rd} {sy : Sy} {x2 : Int32} {x3 : Int32} {x4 : Int32} {sy' : Sy} (hf : f_C_Reader_turnRun rd sy x2 x3 x4 = some sy') :
    Met l y_Reader_turnRun ws_Reader_turnRun ({ frames := 1, cells := 0, slots := 0, locals := 23 }) (va_Pc [.ref (rd_a 0), .ref (sy_a 0), .int x2, .int x3, .int x4] (kP (dC, dI) vwCl (TYS cI cZ cJ) (wRd cI cZ cJ rd_a lk_cb rd ++ wSy cI cZ cJ sy_a sy) sz)) (va_Qv (fun (_ : Unit) => True) (fun _ t => kQ (dC, dI) vwCl (TYS cI cZ cJ) (wRd cI cZ cJ rd_a lk_cb rd ++ wSy cI cZ cJ sy_a sy) sz (wRd cI cZ cJ rd_a lk_cb rd ++ wSy cI cZ cJ sy_a sy') t) (va_A (wRd cI cZ cJ rd_a lk_cb rd ++ wSy cI cZ cJ sy_a sy) sz)) 0 0 (va_A (wRd cI cZ cJ rd_a lk_cb rd ++ wSy cI cZ cJ sy_a sy) sz) := by
  refine Met.ofW (cc := c_Reader_turnRun) (maxL := 6) (ret := none) (by decide) rfl ?_
  intro p e s m args below meth c s₁ B hml hv
  obtain ⟨rfl, hsz, hP, hK, hD0, hN⟩ := hv
  have hr := B.returns
  have hlocks := B.notSynchronized
  subst hsz
  have hD := hD0.self (sz := s.heap.size)
  have hl := lv_entry ([.ref (rd_a 0), .ref (sy_a 0), .int x2, .int x3, .int x4]) (n := 6) (Nat.le_of_ble_eq_true rfl)
  rw [lg_entry_eq]
  generalize (lg_sl ([.ref (rd_a 0), .ref (sy_a 0), .int x2, .int x3, .int x4]) ++ List.replicate (6 - (lg_sl ([.ref (rd_a 0), .ref (sy_a 0), .int x2, .int x3, .int x4])).length) Slot.unset).toArray = ls at hl ⊢
  refine B_C_Reader_turnRun (A := va_A (wRd cI cZ cJ rd_a lk_cb rd ++ wSy cI cZ cJ sy_a sy) s.heap.size) ⟨B.exec, B.bytes, hml, findClass_of_methodNamed B.named, fun w h => atoms_spec (ws := ws_Reader_turnRun) B.pre w (List.mem_cons_of_mem _ h), hK, fun q h => Or.inr h, Nat.le_of_ble_eq_true rfl, Nat.le_of_ble_eq_true rfl, hN, Nat.le_of_ble_eq_true rfl, Nat.le_of_ble_eq_true rfl⟩ (fun H locs ls sy'1 hP hD hS hf => ?_) (fun H locs ls sy'1 hP hD hS hf => ?_) hP hD va_S.rf hl hf
  · cases hf
    exact W.vret B.exec B.bytes hr (fun t ht hW => ⟨⟨(), rfl, trivial, ⟨by rw [ht]; exact hP, va_K.moved hW.alike hK, hD⟩⟩, hS.F ht⟩) hS.2.2 d_Reader_turnRun_7
  · cases hf
    exact W.vret B.exec B.bytes hr (fun t ht hW => ⟨⟨(), rfl, trivial, ⟨by rw [ht]; exact hP, va_K.moved hW.alike hK, hD⟩⟩, hS.F ht⟩) hS.2.2 d_Reader_turnRun_45

/-! C_Reader_takeRuns -/
def l_C_Reader_takeRuns_19 (rd : Rd) (cb : Cb) (v : Br) (x2 : Int32) (x3 : Int32) (x4 : Int32) (x5 : Int32) (k49 : Sy → Option (Int32 × Rd × Cb × Br × Sy)) : Nat → Sy → Int32 → Option (Int32 × Rd × Cb × Br × Sy)
  | 0, _, _ => none
  | n + 1, sy, x6 => (if (Rd_h rd) ≤ x6 then k49 sy else bd (f_Symbols_foretoldRow sy x2 x6) <| fun r_4 => bd (f_Symbols_setRow sy x2 x6 r_4) <| fun (r_5, sy_6) => lt' (x6 + 1) <| fun x6_7 => (l_C_Reader_takeRuns_19 rd cb v x2 x3 x4 x5 k49 n) sy_6 x6_7)
def j_C_Reader_takeRuns_118_26 (x4 : Int32) (x5 : Int32) (x6 : Int32) (rc52 : Cb → Br → Sy → Int32 → Int32 → Int32 → Option (Int32 × Rd × Cb × Br × Sy)) (r_20 : Int32) (cb_21 : Cb) (v_22 : Br) (sy_25 : Sy) : Option (Int32 × Rd × Cb × Br × Sy) := lt' (x4 + r_20) <| fun x4_27 => (if x5 = 0 then lt' (x6 + 1) <| fun x6_30 => rc52 cb_21 v_22 sy_25 x4_27 1 x6_30 else lt' (x6 + 1) <| fun x6_29 => rc52 cb_21 v_22 sy_25 x4_27 0 x6_29)
def l_C_Reader_takeRuns_52 (rd : Rd) (x2 : Int32) (x3 : Int32) (k81 : Cb → Br → Sy → Option (Int32 × Rd × Cb × Br × Sy)) (k97 : Cb → Br → Sy → Option (Int32 × Rd × Cb × Br × Sy)) (k143 : Cb → Br → Sy → Option (Int32 × Rd × Cb × Br × Sy)) : Nat → Cb → Br → Sy → Int32 → Int32 → Int32 → Option (Int32 × Rd × Cb × Br × Sy)
  | 0, _, _, _, _, _, _ => none
  | n + 1, cb, v, sy, x4, x5, x6 => (if 24001 ≤ x6 then k143 cb v sy else (if x3 ≤ x4 then k143 cb v sy else bd (f_C_Bits_takeNumber cb v) <| fun (r_20, cb_21, v_22) => (if r_20 = (-1) then k81 cb_21 v_22 sy else (if r_20 ≤ (x3 - x4) then (if x5 = 0 then j_C_Reader_takeRuns_118_26 x4 x5 x6 (l_C_Reader_takeRuns_52 rd x2 x3 k81 k97 k143 n) r_20 cb_21 v_22 sy else bd (f_C_Reader_turnRun rd sy x2 x4 r_20) <| fun sy_32 => j_C_Reader_takeRuns_118_26 x4 x5 x6 (l_C_Reader_takeRuns_52 rd x2 x3 k81 k97 k143 n) r_20 cb_21 v_22 sy_32) else k97 cb_21 v_22 sy))))
def f_C_Reader_takeRuns (rd : Rd) (cb : Cb) (v : Br) (sy : Sy) (x2 : Int32) : Option (Int32 × Rd × Cb × Br × Sy) := lt' ((Rd_w rd) * (Rd_h rd)) <| fun x3_1 => l_C_Reader_takeRuns_19 rd cb v x2 x3_1 0 0 (fun sy_8 => l_C_Reader_takeRuns_52 rd x2 x3_1 (fun cb_33 v_34 sy_35 => bd (f_C_Reader_refuse rd 7) <| fun (r_42, rd_43) => gd (decide (vp_nar .boolean r_42 = r_42)) <| some (r_42, rd_43, cb_33, v_34, sy_35)) (fun cb_36 v_37 sy_38 => bd (f_C_Reader_refuse rd 5) <| fun (r_44, rd_45) => gd (decide (vp_nar .boolean r_44 = r_44)) <| some (r_44, rd_45, cb_36, v_37, sy_38)) (fun cb_39 v_40 sy_41 => some (1, rd, cb_39, v_40, sy_41)) 100000 cb v sy_8 0 0 0) 100000 sy 0
section
variable {p : Program} {l : Launch} {e : Env} {R : Room} {s : State} {m : MethodId} {args : Array Value} {below : List Frame} {meth : Method} {c : Code} {Q : State → Prop} {A : Nat → Prop}
set_option maxHeartbeats 4000000 in
set_option maxRecDepth 100000 in
theorem L_C_Reader_takeRuns_19 {cells slots : Nat} {dC : Nat → ClassId} {dI : Nat → Nat → Nat} {cI cZ cJ : ClassId} {rd_a : Nat → Nat} {cb_a : Nat → Nat} {v_a v_b : Nat} {sy_a : Nat → Nat} {lk_w : Nat} {rd : Rd} {cb : Cb} {v : Br} {x2 : Int32} {x3 : Int32} {x4 : Int32} {x5 : Int32} {k49 : Sy → Option (Int32 × Rd × Cb × Br × Sy)} {res : Int32 × Rd × Cb × Br × Sy} (C0 : cxt p c m s args R cells slots R_Reader c_Reader_takeRuns tb 8 (dC, dI) vwCl (TYS cI cZ cJ) A 5 112)
    (hk49 : ∀ (H : Heap) (locs : List Loc) (ls : Array Slot) (sy_2 : Sy), va_P (dC, dI) vwCl (wRd cI cZ cJ rd_a (cb_a 0) rd ++ wCb cI cZ cJ cb_a lk_w v_a cb ++ wBr cI cZ cJ v_a v_b v ++ wSy cI cZ cJ sy_a sy_2) H → va_D A (wRd cI cZ cJ rd_a (cb_a 0) rd ++ wCb cI cZ cJ cb_a lk_w v_a cb ++ wBr cI cZ cJ v_a v_b v ++ wSy cI cZ cJ sy_a sy_2) → va_S A s.heap H locs → lv_has ls 8 [(0, .ref (rd_a 0)), (1, .ref (sy_a 0)), (2, .int x2), (3, .int x3), (4, .int x4), (5, .int x5)] → k49 sy_2 = some res → W p l e R s m args below meth c H locs cells slots Q (F0 m 49 ls [])) :
    ∀ (n : Nat) (H : Heap) (locs : List Loc) (ls : Array Slot) (sy : Sy) (x6 : Int32), va_P (dC, dI) vwCl (wRd cI cZ cJ rd_a (cb_a 0) rd ++ wCb cI cZ cJ cb_a lk_w v_a cb ++ wBr cI cZ cJ v_a v_b v ++ wSy cI cZ cJ sy_a sy) H → va_D A (wRd cI cZ cJ rd_a (cb_a 0) rd ++ wCb cI cZ cJ cb_a lk_w v_a cb ++ wBr cI cZ cJ v_a v_b v ++ wSy cI cZ cJ sy_a sy) → va_S A s.heap H locs → lv_has ls 8 [(0, .ref (rd_a 0)), (1, .ref (sy_a 0)), (2, .int x2), (3, .int x3), (4, .int x4), (5, .int x5), (6, .int x6)] → l_C_Reader_takeRuns_19 rd cb v x2 x3 x4 x5 k49 n sy x6 = some res → W p l e R s m args below meth c H locs cells slots Q (F0 m 19 ls []) := by
  obtain ⟨hx, hb, hml, hown, hts, hK, hA, hRf, hRl, hN, hRc⟩ := id C0
  intro n
  induction n with
  | zero =>
    intro H locs ls sy x6 hP hD hS hl hf
    exact absurd hf (by simp [l_C_Reader_takeRuns_19])
  | succ n ih =>
    intro H locs ls sy x6 hP hD hS hl hf
    rw [l_C_Reader_takeRuns_19] at hf
    refine lv_iload hx hb d_Reader_takeRuns_19 (lv_at hl 6 rfl) ?_
    refine lv_aload_n hx hb d_Reader_takeRuns_21 rfl (lv_at hl 0 rfl) ?_
    refine va_get (D := (dC, dI)) (ci := 5) (v := .int (Rd_h rd)) (C := R_Reader) (T := T_Reader) (N := 5) hx hb hts in_Reader hown hK hP 0 rfl rfl 3 (by decide) (hts _ t_187) (fun _ h9 => h9) rfl d_Reader_takeRuns_22 ?_
    refine lv_icmp_ge (tgt := 49) hx hb d_Reader_takeRuns_25 (by decide) (fun c_3 => ?_) (fun c_3 => ?_)
    · rw [if_pos c_3] at hf
      exact hk49 _ _ _ sy hP hD hS (lv_sub hl [0, 1, 2, 3, 4, 5] rfl) hf
    · rw [if_neg c_3] at hf
      refine lv_aload_n hx hb d_Reader_takeRuns_28 rfl (lv_at hl 1 rfl) ?_
      refine lv_iload_n hx hb d_Reader_takeRuns_29 rfl (lv_at hl 2 rfl) ?_
      refine lv_iload hx hb d_Reader_takeRuns_30 (lv_at hl 6 rfl) ?_
      refine lv_aload_n hx hb d_Reader_takeRuns_32 rfl (lv_at hl 1 rfl) ?_
      refine lv_iload_n hx hb d_Reader_takeRuns_33 rfl (lv_at hl 2 rfl) ?_
      refine lv_iload hx hb d_Reader_takeRuns_34 (lv_at hl 6 rfl) ?_
      obtain ⟨r_4, hf1, hf⟩ := bd_ex hf
      try dsimp only at hf
      have hPc := hP.sub (ws' := (wSy cI cZ cJ sy_a sy)) [5, 6, 7, 8, 9, 10, 11, 12, 13, 14] rfl
      have hDc := hD.sub (ws' := (wSy cI cZ cJ sy_a sy)) [5, 6, 7, 8, 9, 10, 11, 12, 13, 14] (by decide) rfl
      have hFc := va_free (wc := (wSy cI cZ cJ sy_a sy)) hD hS hA [5, 6, 7, 8, 9, 10, 11, 12, 13, 14] rfl
      refine va_calli (va_runV (As := [.int x2, .int x6]) (rest := [.int x6, .int x2, .ref (sy_a 0)]) ⟨hx, hb, hml, hown, hts⟩ (k_Symbols_foretoldRow l dC dI cI cZ cJ sy_a H.size hf1) (cwV 2 hts (gV t_527 t_400 t_401 t_62 t_402) rfl rfl rfl hd_Symbols_foretoldRow ⟨Nat.le_trans (Nat.le_of_ble_eq_true rfl) hRf, Nat.le_trans (Nat.le_of_ble_eq_true rfl) hRl⟩) ⟨kP_blind, va_recv hK hP (ci := 0) (q0 := 5) rfl rfl, kP_at hPc hK hDc hN⟩ rfl rfl hl.1 rfl (lv_room (Nat.le_of_ble_eq_true rfl)) d_Reader_takeRuns_36 hRc) hS (fun q _ h => hFc q h) hFc (fun r9 u t H1 locs ht hvm hw hB hz1 hk1 hS => ?_)
      rw [hw]
      obtain ⟨hP, hD⟩ := kQ_join (wr := (wRd cI cZ cJ rd_a (cb_a 0) rd ++ wCb cI cZ cJ cb_a lk_w v_a cb ++ wBr cI cZ cJ v_a v_b v)) (w1 := (wSy cI cZ cJ sy_a sy)) hP hD [5, 6, 7, 8, 9, 10, 11, 12, 13, 14] [0, 1, 2, 3, 4] rfl rfl (by decide) (by decide) ht hk1 hFc hB
      generalize H1 = H at hP hS ⊢
      have hP : va_P (dC, dI) vwCl (wRd cI cZ cJ rd_a (cb_a 0) rd ++ wCb cI cZ cJ cb_a lk_w v_a cb ++ wBr cI cZ cJ v_a v_b v ++ wSy cI cZ cJ sy_a sy) H := hP.sub [0, 1, 2, 3, 4, 5, 6, 7, 8, 9, 10, 11, 12, 13, 14] rfl
      have hD : va_D A (wRd cI cZ cJ rd_a (cb_a 0) rd ++ wCb cI cZ cJ cb_a lk_w v_a cb ++ wBr cI cZ cJ v_a v_b v ++ wSy cI cZ cJ sy_a sy) := hD.sub [0, 1, 2, 3, 4, 5, 6, 7, 8, 9, 10, 11, 12, 13, 14] (by decide) rfl
      obtain ⟨⟨r_5, sy_6⟩, hf1, hf⟩ := bd_ex hf
      try dsimp only at hf
      have hPc := hP.sub (ws' := (wSy cI cZ cJ sy_a sy)) [5, 6, 7, 8, 9, 10, 11, 12, 13, 14] rfl
      have hDc := hD.sub (ws' := (wSy cI cZ cJ sy_a sy)) [5, 6, 7, 8, 9, 10, 11, 12, 13, 14] (by decide) rfl
      have hFc := va_free (wc := (wSy cI cZ cJ sy_a sy)) hD hS hA [5, 6, 7, 8, 9, 10, 11, 12, 13, 14] rfl
      refine va_calli (va_runV (As := [.int x2, .int x6, .int r_4]) (rest := []) ⟨hx, hb, hml, hown, hts⟩ (k_Symbols_setRow l dC dI cI cZ cJ sy_a H.size hf1) (cwV 3 hts (gV t_528 t_507 t_508 t_62 t_509) rfl rfl rfl hd_Symbols_setRow ⟨Nat.le_trans (Nat.le_of_ble_eq_true rfl) hRf, Nat.le_trans (Nat.le_of_ble_eq_true rfl) hRl⟩) ⟨kP_blind, va_recv hK hP (ci := 0) (q0 := 5) rfl rfl, kP_at hPc hK hDc hN⟩ rfl rfl hl.1 rfl (lv_room (Nat.le_of_ble_eq_true rfl)) d_Reader_takeRuns_39 hRc) hS (fun q _ h => hFc q h) hFc (fun r9 u t H1 locs ht hvm hw hB hz1 hk1 hS => ?_)
      rw [hw]
      obtain ⟨hP, hD⟩ := kQ_join (wr := (wRd cI cZ cJ rd_a (cb_a 0) rd ++ wCb cI cZ cJ cb_a lk_w v_a cb ++ wBr cI cZ cJ v_a v_b v)) (w1 := (wSy cI cZ cJ sy_a sy_6)) hP hD [5, 6, 7, 8, 9, 10, 11, 12, 13, 14] [0, 1, 2, 3, 4] rfl rfl (by decide) (by decide) ht hk1 hFc hB
      generalize H1 = H at hP hS ⊢
      have hP : va_P (dC, dI) vwCl (wRd cI cZ cJ rd_a (cb_a 0) rd ++ wCb cI cZ cJ cb_a lk_w v_a cb ++ wBr cI cZ cJ v_a v_b v ++ wSy cI cZ cJ sy_a sy_6) H := hP.sub [0, 1, 2, 3, 4, 5, 6, 7, 8, 9, 10, 11, 12, 13, 14] rfl
      have hD : va_D A (wRd cI cZ cJ rd_a (cb_a 0) rd ++ wCb cI cZ cJ cb_a lk_w v_a cb ++ wBr cI cZ cJ v_a v_b v ++ wSy cI cZ cJ sy_a sy_6) := hD.sub [0, 1, 2, 3, 4, 5, 6, 7, 8, 9, 10, 11, 12, 13, 14] (by decide) rfl
      refine lv_pop hx hb d_Reader_takeRuns_42 rfl ?_
      obtain ⟨x6_7, ex6_7, hf⟩ := lt_ex hf
      try dsimp only at hf
      refine lv_iinc (v := x6_7) (lv' := [(6, .int x6_7), (0, .ref (rd_a 0)), (1, .ref (sy_a 0)), (2, .int x2), (3, .int x3), (4, .int x4), (5, .int x5)]) hx hb d_Reader_takeRuns_43 hl (k := 6) rfl (by rw [ex6_7]; rfl) (by decide) rfl (fun ls hl => ?_)
      refine lv_goto (tgt := 19) hx hb d_Reader_takeRuns_46 (by decide) ?_
      exact ih _ _ _ sy_6 x6_7 hP hD hS (lv_sub hl [1, 2, 3, 4, 5, 6, 0] rfl) hf
set_option maxHeartbeats 4000000 in
set_option maxRecDepth 100000 in
theorem L_C_Reader_takeRuns_52 {cells slots : Nat} {dC : Nat → ClassId} {dI : Nat → Nat → Nat} {cI cZ cJ : ClassId} {rd_a : Nat → Nat} {cb_a : Nat → Nat} {v_a v_b : Nat} {sy_a : Nat → Nat} {lk_w : Nat} {rd : Rd} {x2 : Int32} {x3 : Int32} {k81 : Cb → Br → Sy → Option (Int32 × Rd × Cb × Br × Sy)} {k97 : Cb → Br → Sy → Option (Int32 × Rd × Cb × Br × Sy)} {k143 : Cb → Br → Sy → Option (Int32 × Rd × Cb × Br × Sy)} {res : Int32 × Rd × Cb × Br × Sy} (C0 : cxt p c m s args R cells slots R_Reader c_Reader_takeRuns tb 8 (dC, dI) vwCl (TYS cI cZ cJ) A 5 112)
    (hk81 : ∀ (H : Heap) (locs : List Loc) (ls : Array Slot) (cb_9 : Cb) (v_10 : Br) (sy_11 : Sy), va_P (dC, dI) vwCl (wRd cI cZ cJ rd_a (cb_a 0) rd ++ wCb cI cZ cJ cb_a lk_w v_a cb_9 ++ wBr cI cZ cJ v_a v_b v_10 ++ wSy cI cZ cJ sy_a sy_11) H → va_D A (wRd cI cZ cJ rd_a (cb_a 0) rd ++ wCb cI cZ cJ cb_a lk_w v_a cb_9 ++ wBr cI cZ cJ v_a v_b v_10 ++ wSy cI cZ cJ sy_a sy_11) → va_S A s.heap H locs → lv_has ls 8 [(0, .ref (rd_a 0))] → k81 cb_9 v_10 sy_11 = some res → W p l e R s m args below meth c H locs cells slots Q (F0 m 81 ls []))
    (hk97 : ∀ (H : Heap) (locs : List Loc) (ls : Array Slot) (cb_12 : Cb) (v_13 : Br) (sy_14 : Sy), va_P (dC, dI) vwCl (wRd cI cZ cJ rd_a (cb_a 0) rd ++ wCb cI cZ cJ cb_a lk_w v_a cb_12 ++ wBr cI cZ cJ v_a v_b v_13 ++ wSy cI cZ cJ sy_a sy_14) H → va_D A (wRd cI cZ cJ rd_a (cb_a 0) rd ++ wCb cI cZ cJ cb_a lk_w v_a cb_12 ++ wBr cI cZ cJ v_a v_b v_13 ++ wSy cI cZ cJ sy_a sy_14) → va_S A s.heap H locs → lv_has ls 8 [(0, .ref (rd_a 0))] → k97 cb_12 v_13 sy_14 = some res → W p l e R s m args below meth c H locs cells slots Q (F0 m 97 ls []))
    (hk143 : ∀ (H : Heap) (locs : List Loc) (ls : Array Slot) (cb_15 : Cb) (v_16 : Br) (sy_17 : Sy), va_P (dC, dI) vwCl (wRd cI cZ cJ rd_a (cb_a 0) rd ++ wCb cI cZ cJ cb_a lk_w v_a cb_15 ++ wBr cI cZ cJ v_a v_b v_16 ++ wSy cI cZ cJ sy_a sy_17) H → va_D A (wRd cI cZ cJ rd_a (cb_a 0) rd ++ wCb cI cZ cJ cb_a lk_w v_a cb_15 ++ wBr cI cZ cJ v_a v_b v_16 ++ wSy cI cZ cJ sy_a sy_17) → va_S A s.heap H locs → lv_has ls 8 [] → k143 cb_15 v_16 sy_17 = some res → W p l e R s m args below meth c H locs cells slots Q (F0 m 143 ls [])) :
    ∀ (n : Nat) (H : Heap) (locs : List Loc) (ls : Array Slot) (cb : Cb) (v : Br) (sy : Sy) (x4 : Int32) (x5 : Int32) (x6 : Int32), va_P (dC, dI) vwCl (wRd cI cZ cJ rd_a (cb_a 0) rd ++ wCb cI cZ cJ cb_a lk_w v_a cb ++ wBr cI cZ cJ v_a v_b v ++ wSy cI cZ cJ sy_a sy) H → va_D A (wRd cI cZ cJ rd_a (cb_a 0) rd ++ wCb cI cZ cJ cb_a lk_w v_a cb ++ wBr cI cZ cJ v_a v_b v ++ wSy cI cZ cJ sy_a sy) → va_S A s.heap H locs → lv_has ls 8 [(0, .ref (rd_a 0)), (1, .ref (sy_a 0)), (2, .int x2), (3, .int x3), (4, .int x4), (5, .int x5), (6, .int x6)] → l_C_Reader_takeRuns_52 rd x2 x3 k81 k97 k143 n cb v sy x4 x5 x6 = some res → W p l e R s m args below meth c H locs cells slots Q (F0 m 52 ls []) := by
  obtain ⟨hx, hb, hml, hown, hts, hK, hA, hRf, hRl, hN, hRc⟩ := id C0
  intro n
  induction n with
  | zero =>
    intro H locs ls cb v sy x4 x5 x6 hP hD hS hl hf
    exact absurd hf (by simp [l_C_Reader_takeRuns_52])
  | succ n ih =>
    intro H locs ls cb v sy x4 x5 x6 hP hD hS hl hf
    rw [l_C_Reader_takeRuns_52] at hf
    refine lv_iload hx hb d_Reader_takeRuns_52 (lv_at hl 6 rfl) ?_
    refine lv_sipush (v := 24001) hx hb d_Reader_takeRuns_54 (by decide) ?_
    refine lv_icmp_ge (tgt := 143) hx hb d_Reader_takeRuns_57 (by decide) (fun c_18 => ?_) (fun c_18 => ?_)
    · rw [if_pos c_18] at hf
      exact hk143 _ _ _ cb v sy hP hD hS (lv_sub hl [] rfl) hf
    · rw [if_neg c_18] at hf
      refine lv_iload hx hb d_Reader_takeRuns_60 (lv_at hl 4 rfl) ?_
      refine lv_iload_n hx hb d_Reader_takeRuns_62 rfl (lv_at hl 3 rfl) ?_
      refine lv_icmp_ge (tgt := 143) hx hb d_Reader_takeRuns_63 (by decide) (fun c_19 => ?_) (fun c_19 => ?_)
      · rw [if_pos c_19] at hf
        exact hk143 _ _ _ cb v sy hP hD hS (lv_sub hl [] rfl) hf
      · rw [if_neg c_19] at hf
        refine lv_aload_n hx hb d_Reader_takeRuns_66 rfl (lv_at hl 0 rfl) ?_
        refine va_get (D := (dC, dI)) (ci := 5) (v := .ref (cb_a 0)) (C := R_Reader) (T := T_Reader) (N := 5) hx hb hts in_Reader hown hK hP 0 rfl rfl 1 (by decide) (hts _ t_185) (fun _ h9 => h9) rfl d_Reader_takeRuns_67 ?_
        obtain ⟨⟨r_20, cb_21, v_22⟩, hf1, hf⟩ := bd_ex hf
        try dsimp only at hf
        have hPc := hP.sub (ws' := (wCb cI cZ cJ cb_a lk_w v_a cb ++ wBr cI cZ cJ v_a v_b v)) [1, 2, 3, 4] rfl
        have hDc := hD.sub (ws' := (wCb cI cZ cJ cb_a lk_w v_a cb ++ wBr cI cZ cJ v_a v_b v)) [1, 2, 3, 4] (by decide) rfl
        have hFc := va_free (wc := (wCb cI cZ cJ cb_a lk_w v_a cb ++ wBr cI cZ cJ v_a v_b v)) hD hS hA [1, 2, 3, 4] rfl
        refine va_calli (va_runU (As := []) (rest := []) ⟨hx, hb, hml, hown, hts⟩ (k_C_Bits_takeNumber l dC dI cI cZ cJ cb_a v_a v_b lk_w H.size hf1) (va_cwU 0 hts (gU t_463 t_465 t_466 t_464 t_57 t_468) rfl rfl rfl rfl hd_Bits_takeNumber.2 ⟨Nat.le_trans (Nat.le_of_ble_eq_true rfl) hRf, Nat.le_trans (Nat.le_of_ble_eq_true rfl) hRl⟩) ⟨kP_blind, va_recv hK hP (ci := 3) (q0 := 1) rfl rfl, kP_at hPc hK hDc hN⟩ rfl rfl hl.1 rfl (lv_room (Nat.le_of_ble_eq_true rfl)) d_Reader_takeRuns_70 hRc) hS (fun q _ h => hFc q h) hFc (fun r9 u t H1 locs ht hvm hw hB hz1 hk1 hS => ?_)
        rw [hw]
        obtain ⟨hP, hD⟩ := kQ_join (wr := (wRd cI cZ cJ rd_a (cb_a 0) rd ++ wSy cI cZ cJ sy_a sy)) (w1 := (wCb cI cZ cJ cb_a lk_w v_a cb_21 ++ wBr cI cZ cJ v_a v_b v_22)) hP hD [1, 2, 3, 4] [0, 5, 6, 7, 8, 9, 10, 11, 12, 13, 14] rfl rfl (by decide) (by decide) ht hk1 hFc hB
        generalize H1 = H at hP hS ⊢
        have hP : va_P (dC, dI) vwCl (wRd cI cZ cJ rd_a (cb_a 0) rd ++ wCb cI cZ cJ cb_a lk_w v_a cb_21 ++ wBr cI cZ cJ v_a v_b v_22 ++ wSy cI cZ cJ sy_a sy) H := hP.sub [0, 11, 12, 13, 14, 1, 2, 3, 4, 5, 6, 7, 8, 9, 10] rfl
        have hD : va_D A (wRd cI cZ cJ rd_a (cb_a 0) rd ++ wCb cI cZ cJ cb_a lk_w v_a cb_21 ++ wBr cI cZ cJ v_a v_b v_22 ++ wSy cI cZ cJ sy_a sy) := hD.sub [0, 11, 12, 13, 14, 1, 2, 3, 4, 5, 6, 7, 8, 9, 10] (by decide) rfl
        refine lv_istore (lv' := [(7, .int r_20), (0, .ref (rd_a 0)), (1, .ref (sy_a 0)), (2, .int x2), (3, .int x3), (4, .int x4), (5, .int x5), (6, .int x6)]) hx hb d_Reader_takeRuns_73 hl (by decide) rfl (fun ls hl => ?_)
        refine lv_iload hx hb d_Reader_takeRuns_75 (lv_at hl 0 rfl) ?_
        refine lv_iconst (v := (-1)) hx hb d_Reader_takeRuns_77 (by decide) ?_
        refine lv_icmp_ne (tgt := 88) hx hb d_Reader_takeRuns_78 (by decide) (fun c_23 => ?_) (fun c_23 => ?_)
        · rw [if_neg c_23] at hf
          refine lv_iload hx hb d_Reader_takeRuns_88 (lv_at hl 0 rfl) ?_
          refine lv_iload_n hx hb d_Reader_takeRuns_90 rfl (lv_at hl 4 rfl) ?_
          refine lv_iload hx hb d_Reader_takeRuns_91 (lv_at hl 5 rfl) ?_
          refine lv_isub hx hb d_Reader_takeRuns_93 ?_
          refine lv_icmp_le (tgt := 103) hx hb d_Reader_takeRuns_94 (by decide) (fun c_24 => ?_) (fun c_24 => ?_)
          · rw [if_pos c_24] at hf
            refine lv_iload hx hb d_Reader_takeRuns_103 (lv_at hl 6 rfl) ?_
            have J118_25 : ∀ (H : Heap) (locs : List Loc) (ls : Array Slot) (sy_25 : Sy), va_P (dC, dI) vwCl (wRd cI cZ cJ rd_a (cb_a 0) rd ++ wCb cI cZ cJ cb_a lk_w v_a cb_21 ++ wBr cI cZ cJ v_a v_b v_22 ++ wSy cI cZ cJ sy_a sy_25) H → va_D A (wRd cI cZ cJ rd_a (cb_a 0) rd ++ wCb cI cZ cJ cb_a lk_w v_a cb_21 ++ wBr cI cZ cJ v_a v_b v_22 ++ wSy cI cZ cJ sy_a sy_25) → va_S A s.heap H locs → lv_has ls 8 [(0, .ref (rd_a 0)), (1, .ref (sy_a 0)), (2, .int x2), (3, .int x3), (4, .int x4), (5, .int x5), (6, .int x6), (7, .int r_20)] → j_C_Reader_takeRuns_118_26 x4 x5 x6 (l_C_Reader_takeRuns_52 rd x2 x3 k81 k97 k143 n) r_20 cb_21 v_22 sy_25 = some res → W p l e R s m args below meth c H locs cells slots Q (F0 m 118 ls []) := by
              intro H locs ls sy_25 hP hD hS hl hf
              rw [j_C_Reader_takeRuns_118_26] at hf
              refine lv_iload hx hb d_Reader_takeRuns_118 (lv_at hl 4 rfl) ?_
              refine lv_iload hx hb d_Reader_takeRuns_120 (lv_at hl 7 rfl) ?_
              refine lv_iadd hx hb d_Reader_takeRuns_122 ?_
              obtain ⟨x4_27, ex4_27, hf⟩ := lt_ex hf
              try dsimp only at hf
              refine tp_i ex4_27 ?_
              refine lv_istore (lv' := [(4, .int x4_27), (0, .ref (rd_a 0)), (1, .ref (sy_a 0)), (2, .int x2), (3, .int x3), (5, .int x5), (6, .int x6), (7, .int r_20)]) hx hb d_Reader_takeRuns_123 hl (by decide) rfl (fun ls hl => ?_)
              refine lv_iload hx hb d_Reader_takeRuns_125 (lv_at hl 5 rfl) ?_
              refine lv_if_ne (tgt := 134) hx hb d_Reader_takeRuns_127 (by decide) (fun c_28 => ?_) (fun c_28 => ?_)
              · rw [if_neg c_28] at hf
                refine lv_iconst (v := 0) hx hb d_Reader_takeRuns_134 (by decide) ?_
                refine lv_istore (lv' := [(5, .int 0), (4, .int x4_27), (0, .ref (rd_a 0)), (1, .ref (sy_a 0)), (2, .int x2), (3, .int x3), (6, .int x6), (7, .int r_20)]) hx hb d_Reader_takeRuns_135 hl (by decide) rfl (fun ls hl => ?_)
                obtain ⟨x6_29, ex6_29, hf⟩ := lt_ex hf
                try dsimp only at hf
                refine lv_iinc (v := x6_29) (lv' := [(6, .int x6_29), (5, .int 0), (4, .int x4_27), (0, .ref (rd_a 0)), (1, .ref (sy_a 0)), (2, .int x2), (3, .int x3), (7, .int r_20)]) hx hb d_Reader_takeRuns_137 hl (k := 6) rfl (by rw [ex6_29]; rfl) (by decide) rfl (fun ls hl => ?_)
                refine lv_goto (tgt := 52) hx hb d_Reader_takeRuns_140 (by decide) ?_
                exact ih _ _ _ cb_21 v_22 sy_25 x4_27 0 x6_29 hP hD hS (lv_sub hl [3, 4, 5, 6, 2, 1, 0] rfl) hf
              · rw [if_pos c_28] at hf
                refine lv_iconst (v := 1) hx hb d_Reader_takeRuns_130 (by decide) ?_
                refine lv_goto (tgt := 135) hx hb d_Reader_takeRuns_131 (by decide) ?_
                refine lv_istore (lv' := [(5, .int 1), (4, .int x4_27), (0, .ref (rd_a 0)), (1, .ref (sy_a 0)), (2, .int x2), (3, .int x3), (6, .int x6), (7, .int r_20)]) hx hb d_Reader_takeRuns_135 hl (by decide) rfl (fun ls hl => ?_)
                obtain ⟨x6_30, ex6_30, hf⟩ := lt_ex hf
                try dsimp only at hf
                refine lv_iinc (v := x6_30) (lv' := [(6, .int x6_30), (5, .int 1), (4, .int x4_27), (0, .ref (rd_a 0)), (1, .ref (sy_a 0)), (2, .int x2), (3, .int x3), (7, .int r_20)]) hx hb d_Reader_takeRuns_137 hl (k := 6) rfl (by rw [ex6_30]; rfl) (by decide) rfl (fun ls hl => ?_)
                refine lv_goto (tgt := 52) hx hb d_Reader_takeRuns_140 (by decide) ?_
                exact ih _ _ _ cb_21 v_22 sy_25 x4_27 1 x6_30 hP hD hS (lv_sub hl [3, 4, 5, 6, 2, 1, 0] rfl) hf
            refine lv_if_eq (tgt := 118) hx hb d_Reader_takeRuns_105 (by decide) (fun c_31 => ?_) (fun c_31 => ?_)
            · rw [if_pos c_31] at hf
              exact J118_25 _ _ _ sy hP hD hS (lv_sub hl [1, 2, 3, 4, 5, 6, 7, 0] rfl) hf
            · rw [if_neg c_31] at hf
              refine lv_aload_n hx hb d_Reader_takeRuns_108 rfl (lv_at hl 1 rfl) ?_
              refine lv_aload_n hx hb d_Reader_takeRuns_109 rfl (lv_at hl 2 rfl) ?_
              refine lv_iload_n hx hb d_Reader_takeRuns_110 rfl (lv_at hl 3 rfl) ?_
              refine lv_iload hx hb d_Reader_takeRuns_111 (lv_at hl 5 rfl) ?_
              refine lv_iload hx hb d_Reader_takeRuns_113 (lv_at hl 0 rfl) ?_
              obtain ⟨sy_32, hf1, hf⟩ := bd_ex hf
              try dsimp only at hf
              have hPc := hP.sub (ws' := (wRd cI cZ cJ rd_a (cb_a 0) rd ++ wSy cI cZ cJ sy_a sy)) [0, 5, 6, 7, 8, 9, 10, 11, 12, 13, 14] rfl
              have hDc := hD.sub (ws' := (wRd cI cZ cJ rd_a (cb_a 0) rd ++ wSy cI cZ cJ sy_a sy)) [0, 5, 6, 7, 8, 9, 10, 11, 12, 13, 14] (by decide) rfl
              have hFc := va_free (wc := (wRd cI cZ cJ rd_a (cb_a 0) rd ++ wSy cI cZ cJ sy_a sy)) hD hS hA [0, 5, 6, 7, 8, 9, 10, 11, 12, 13, 14] rfl
              refine va_callv (va_runV (As := [.ref (sy_a 0), .int x2, .int x4, .int r_20]) (rest := []) ⟨hx, hb, hml, hown, hts⟩ (k_C_Reader_turnRun l dC dI cI cZ cJ rd_a sy_a (cb_a 0) H.size hf1) (cwV 4 hts (gV t_533 t_535 t_18 t_61 t_536) rfl rfl rfl hd_Reader_turnRun ⟨Nat.le_trans (Nat.le_of_ble_eq_true rfl) hRf, Nat.le_trans (Nat.le_of_ble_eq_true rfl) hRl⟩) ⟨kP_blind, va_recv hK hP (ci := 5) (q0 := 0) rfl rfl, kP_at hPc hK hDc hN⟩ rfl rfl hl.1 rfl (lv_room (Nat.le_of_ble_eq_true rfl)) d_Reader_takeRuns_115 hRc) hS (fun q _ h => hFc q h) hFc (fun u t H1 locs ht hvm hw hB hz1 hk1 hS => ?_)
              obtain ⟨hP, hD⟩ := kQ_join (wr := (wCb cI cZ cJ cb_a lk_w v_a cb_21 ++ wBr cI cZ cJ v_a v_b v_22)) (w1 := (wRd cI cZ cJ rd_a (cb_a 0) rd ++ wSy cI cZ cJ sy_a sy_32)) hP hD [0, 5, 6, 7, 8, 9, 10, 11, 12, 13, 14] [1, 2, 3, 4] rfl rfl (by decide) (by decide) ht hk1 hFc hB
              generalize H1 = H at hP hS ⊢
              have hP : va_P (dC, dI) vwCl (wRd cI cZ cJ rd_a (cb_a 0) rd ++ wCb cI cZ cJ cb_a lk_w v_a cb_21 ++ wBr cI cZ cJ v_a v_b v_22 ++ wSy cI cZ cJ sy_a sy_32) H := hP.sub [4, 0, 1, 2, 3, 5, 6, 7, 8, 9, 10, 11, 12, 13, 14] rfl
              have hD : va_D A (wRd cI cZ cJ rd_a (cb_a 0) rd ++ wCb cI cZ cJ cb_a lk_w v_a cb_21 ++ wBr cI cZ cJ v_a v_b v_22 ++ wSy cI cZ cJ sy_a sy_32) := hD.sub [4, 0, 1, 2, 3, 5, 6, 7, 8, 9, 10, 11, 12, 13, 14] (by decide) rfl
              exact J118_25 _ _ _ sy_32 hP hD hS (lv_sub hl [1, 2, 3, 4, 5, 6, 7, 0] rfl) hf
          · rw [if_neg c_24] at hf
            exact hk97 _ _ _ cb_21 v_22 sy hP hD hS (lv_sub hl [1] rfl) hf
        · rw [if_pos c_23] at hf
          exact hk81 _ _ _ cb_21 v_22 sy hP hD hS (lv_sub hl [1] rfl) hf
set_option maxHeartbeats 4000000 in
set_option maxRecDepth 100000 in
theorem B_C_Reader_takeRuns {cells slots : Nat} {dC : Nat → ClassId} {dI : Nat → Nat → Nat} {cI cZ cJ : ClassId} {rd_a : Nat → Nat} {cb_a : Nat → Nat} {v_a v_b : Nat} {sy_a : Nat → Nat} {lk_w : Nat} {rd : Rd} {cb : Cb} {v : Br} {sy : Sy} {x2 : Int32} {res : Int32 × Rd × Cb × Br × Sy} (C0 : cxt p c m s args R cells slots R_Reader c_Reader_takeRuns tb 8 (dC, dI) vwCl (TYS cI cZ cJ) A 5 112)
    (hr87 : ∀ (H : Heap) (locs : List Loc) (ls : Array Slot) (v : Int32) (rd' : Rd) (cb' : Cb) (v' : Br) (sy' : Sy), vp_nar .boolean v = v → va_P (dC, dI) vwCl (wRd cI cZ cJ rd_a (cb_a 0) rd' ++ wCb cI cZ cJ cb_a lk_w v_a cb' ++ wBr cI cZ cJ v_a v_b v' ++ wSy cI cZ cJ sy_a sy') H → va_D A (wRd cI cZ cJ rd_a (cb_a 0) rd' ++ wCb cI cZ cJ cb_a lk_w v_a cb' ++ wBr cI cZ cJ v_a v_b v' ++ wSy cI cZ cJ sy_a sy') → va_S A s.heap H locs → some (v, rd', cb', v', sy') = some res → W p l e R s m args below meth c H locs cells slots Q (F0 m 87 ls [.int v]))
    (hr102 : ∀ (H : Heap) (locs : List Loc) (ls : Array Slot) (v : Int32) (rd' : Rd) (cb' : Cb) (v' : Br) (sy' : Sy), vp_nar .boolean v = v → va_P (dC, dI) vwCl (wRd cI cZ cJ rd_a (cb_a 0) rd' ++ wCb cI cZ cJ cb_a lk_w v_a cb' ++ wBr cI cZ cJ v_a v_b v' ++ wSy cI cZ cJ sy_a sy') H → va_D A (wRd cI cZ cJ rd_a (cb_a 0) rd' ++ wCb cI cZ cJ cb_a lk_w v_a cb' ++ wBr cI cZ cJ v_a v_b v' ++ wSy cI cZ cJ sy_a sy') → va_S A s.heap H locs → some (v, rd', cb', v', sy') = some res → W p l e R s m args below meth c H locs cells slots Q (F0 m 102 ls [.int v]))
    (hr144 : ∀ (H : Heap) (locs : List Loc) (ls : Array Slot) (v : Int32) (rd' : Rd) (cb' : Cb) (v' : Br) (sy' : Sy), vp_nar .boolean v = v → va_P (dC, dI) vwCl (wRd cI cZ cJ rd_a (cb_a 0) rd' ++ wCb cI cZ cJ cb_a lk_w v_a cb' ++ wBr cI cZ cJ v_a v_b v' ++ wSy cI cZ cJ sy_a sy') H → va_D A (wRd cI cZ cJ rd_a (cb_a 0) rd' ++ wCb cI cZ cJ cb_a lk_w v_a cb' ++ wBr cI cZ cJ v_a v_b v' ++ wSy cI cZ cJ sy_a sy') → va_S A s.heap H locs → some (v, rd', cb', v', sy') = some res → W p l e R s m args below meth c H locs cells slots Q (F0 m 144 ls [.int v]))
    {H : Heap} {locs : List Loc} {ls : Array Slot} (hP : va_P (dC, dI) vwCl (wRd cI cZ cJ rd_a (cb_a 0) rd ++ wCb cI cZ cJ cb_a lk_w v_a cb ++ wBr cI cZ cJ v_a v_b v ++ wSy cI cZ cJ sy_a sy) H) (hD : va_D A (wRd cI cZ cJ rd_a (cb_a 0) rd ++ wCb cI cZ cJ cb_a lk_w v_a cb ++ wBr cI cZ cJ v_a v_b v ++ wSy cI cZ cJ sy_a sy)) (hS : va_S A s.heap H locs) (hl : lv_has ls 8 [(0, .ref (rd_a 0)), (1, .ref (sy_a 0)), (2, .int x2)]) (hf : f_C_Reader_takeRuns rd cb v sy x2 = some res) : W p l e R s m args below meth c H locs cells slots Q (F0 m 0 ls []) := by
  obtain ⟨hx, hb, hml, hown, hts, hK, hA, hRf, hRl, hN, hRc⟩ := id C0
  rw [f_C_Reader_takeRuns] at hf
  refine lv_aload_n hx hb d_Reader_takeRuns_0 rfl (lv_at hl 0 rfl) ?_
  refine va_get (D := (dC, dI)) (ci := 5) (v := .int (Rd_w rd)) (C := R_Reader) (T := T_Reader) (N := 5) hx hb hts in_Reader hown hK hP 0 rfl rfl 4 (by decide) (hts _ t_188) (fun _ h9 => h9) rfl d_Reader_takeRuns_1 ?_
  refine lv_aload_n hx hb d_Reader_takeRuns_4 rfl (lv_at hl 0 rfl) ?_
  refine va_get (D := (dC, dI)) (ci := 5) (v := .int (Rd_h rd)) (C := R_Reader) (T := T_Reader) (N := 5) hx hb hts in_Reader hown hK hP 0 rfl rfl 3 (by decide) (hts _ t_187) (fun _ h9 => h9) rfl d_Reader_takeRuns_5 ?_
  refine lv_imul hx hb d_Reader_takeRuns_8 ?_
  obtain ⟨x3_1, ex3_1, hf⟩ := lt_ex hf
  try dsimp only at hf
  refine tp_i ex3_1 ?_
  refine lv_istore_n (lv' := [(3, .int x3_1), (0, .ref (rd_a 0)), (1, .ref (sy_a 0)), (2, .int x2)]) hx hb d_Reader_takeRuns_9 rfl hl (by decide) rfl (fun ls hl => ?_)
  refine lv_iconst (v := 0) hx hb d_Reader_takeRuns_10 (by decide) ?_
  refine lv_istore (lv' := [(4, .int 0), (3, .int x3_1), (0, .ref (rd_a 0)), (1, .ref (sy_a 0)), (2, .int x2)]) hx hb d_Reader_takeRuns_11 hl (by decide) rfl (fun ls hl => ?_)
  refine lv_iconst (v := 0) hx hb d_Reader_takeRuns_13 (by decide) ?_
  refine lv_istore (lv' := [(5, .int 0), (4, .int 0), (3, .int x3_1), (0, .ref (rd_a 0)), (1, .ref (sy_a 0)), (2, .int x2)]) hx hb d_Reader_takeRuns_14 hl (by decide) rfl (fun ls hl => ?_)
  refine lv_iconst (v := 0) hx hb d_Reader_takeRuns_16 (by decide) ?_
  refine lv_istore (lv' := [(6, .int 0), (5, .int 0), (4, .int 0), (3, .int x3_1), (0, .ref (rd_a 0)), (1, .ref (sy_a 0)), (2, .int x2)]) hx hb d_Reader_takeRuns_17 hl (by decide) rfl (fun ls hl => ?_)
  refine L_C_Reader_takeRuns_19 C0 (fun H locs ls sy_8 hP hD hS hl hf => ?_) 100000 _ _ _ sy 0 hP hD hS (lv_sub hl [4, 5, 6, 3, 2, 1, 0] rfl) hf
  try dsimp only at hf
  refine lv_iconst (v := 0) hx hb d_Reader_takeRuns_49 (by decide) ?_
  refine lv_istore (lv' := [(6, .int 0), (0, .ref (rd_a 0)), (1, .ref (sy_a 0)), (2, .int x2), (3, .int x3_1), (4, .int 0), (5, .int 0)]) hx hb d_Reader_takeRuns_50 hl (by decide) rfl (fun ls hl => ?_)
  refine L_C_Reader_takeRuns_52 C0 (fun H locs ls cb_33 v_34 sy_35 hP hD hS hl hf => ?_) (fun H locs ls cb_36 v_37 sy_38 hP hD hS hl hf => ?_) (fun H locs ls cb_39 v_40 sy_41 hP hD hS hl hf => ?_) 100000 _ _ _ cb v sy_8 0 0 0 hP hD hS (lv_sub hl [1, 2, 3, 4, 5, 6, 0] rfl) hf
  · try dsimp only at hf
    refine lv_aload_n hx hb d_Reader_takeRuns_81 rfl (lv_at hl 0 rfl) ?_
    refine lv_bipush (v := 7) hx hb d_Reader_takeRuns_82 (by decide) ?_
    obtain ⟨⟨r_42, rd_43⟩, hf1, hf⟩ := bd_ex hf
    try dsimp only at hf
    have hPc := hP.sub (ws' := (wRd cI cZ cJ rd_a (cb_a 0) rd)) [0] rfl
    have hDc := hD.sub (ws' := (wRd cI cZ cJ rd_a (cb_a 0) rd)) [0] (by decide) rfl
    have hFc := va_free (wc := (wRd cI cZ cJ rd_a (cb_a 0) rd)) hD hS hA [0] rfl
    refine va_calli (va_runV (As := [.int 7]) (rest := []) ⟨hx, hb, hml, hown, hts⟩ (k_C_Reader_refuse l dC dI cI cZ cJ rd_a (cb_a 0) H.size hf1) (cwV 1 hts (gV t_485 t_487 t_12 t_61 t_488) rfl rfl rfl hd_Reader_refuse ⟨Nat.le_trans (Nat.le_of_ble_eq_true rfl) hRf, Nat.le_trans (Nat.le_of_ble_eq_true rfl) hRl⟩) ⟨kP_blind, va_recv hK hP (ci := 5) (q0 := 0) rfl rfl, kP_at hPc hK hDc hN⟩ rfl rfl hl.1 rfl (lv_room (Nat.le_of_ble_eq_true rfl)) d_Reader_takeRuns_84 hRc) hS (fun q _ h => hFc q h) hFc (fun r9 u t H1 locs ht hvm hw hB hz1 hk1 hS => ?_)
    rw [hw.1]
    obtain ⟨hP, hD⟩ := kQ_join (wr := (wCb cI cZ cJ cb_a lk_w v_a cb_33 ++ wBr cI cZ cJ v_a v_b v_34 ++ wSy cI cZ cJ sy_a sy_35)) (w1 := (wRd cI cZ cJ rd_a (cb_a 0) rd_43)) hP hD [0] [1, 2, 3, 4, 5, 6, 7, 8, 9, 10, 11, 12, 13, 14] rfl rfl (by decide) (by decide) ht hk1 hFc hB
    generalize H1 = H at hP hS ⊢
    have hP : va_P (dC, dI) vwCl (wRd cI cZ cJ rd_a (cb_a 0) rd_43 ++ wCb cI cZ cJ cb_a lk_w v_a cb_33 ++ wBr cI cZ cJ v_a v_b v_34 ++ wSy cI cZ cJ sy_a sy_35) H := hP.sub [14, 0, 1, 2, 3, 4, 5, 6, 7, 8, 9, 10, 11, 12, 13] rfl
    have hD : va_D A (wRd cI cZ cJ rd_a (cb_a 0) rd_43 ++ wCb cI cZ cJ cb_a lk_w v_a cb_33 ++ wBr cI cZ cJ v_a v_b v_34 ++ wSy cI cZ cJ sy_a sy_35) := hD.sub [14, 0, 1, 2, 3, 4, 5, 6, 7, 8, 9, 10, 11, 12, 13] (by decide) rfl
    obtain ⟨h_z, hf⟩ := gd_ex hf
    exact hr87 _ _ _ r_42  rd_43 cb_33 v_34 sy_35 (of_decide_eq_true h_z) hP hD hS hf
  · try dsimp only at hf
    refine lv_aload_n hx hb d_Reader_takeRuns_97 rfl (lv_at hl 0 rfl) ?_
    refine lv_iconst (v := 5) hx hb d_Reader_takeRuns_98 (by decide) ?_
    obtain ⟨⟨r_44, rd_45⟩, hf1, hf⟩ := bd_ex hf
    try dsimp only at hf
    have hPc := hP.sub (ws' := (wRd cI cZ cJ rd_a (cb_a 0) rd)) [0] rfl
    have hDc := hD.sub (ws' := (wRd cI cZ cJ rd_a (cb_a 0) rd)) [0] (by decide) rfl
    have hFc := va_free (wc := (wRd cI cZ cJ rd_a (cb_a 0) rd)) hD hS hA [0] rfl
    refine va_calli (va_runV (As := [.int 5]) (rest := []) ⟨hx, hb, hml, hown, hts⟩ (k_C_Reader_refuse l dC dI cI cZ cJ rd_a (cb_a 0) H.size hf1) (cwV 1 hts (gV t_485 t_487 t_12 t_61 t_488) rfl rfl rfl hd_Reader_refuse ⟨Nat.le_trans (Nat.le_of_ble_eq_true rfl) hRf, Nat.le_trans (Nat.le_of_ble_eq_true rfl) hRl⟩) ⟨kP_blind, va_recv hK hP (ci := 5) (q0 := 0) rfl rfl, kP_at hPc hK hDc hN⟩ rfl rfl hl.1 rfl (lv_room (Nat.le_of_ble_eq_true rfl)) d_Reader_takeRuns_99 hRc) hS (fun q _ h => hFc q h) hFc (fun r9 u t H1 locs ht hvm hw hB hz1 hk1 hS => ?_)
    rw [hw.1]
    obtain ⟨hP, hD⟩ := kQ_join (wr := (wCb cI cZ cJ cb_a lk_w v_a cb_36 ++ wBr cI cZ cJ v_a v_b v_37 ++ wSy cI cZ cJ sy_a sy_38)) (w1 := (wRd cI cZ cJ rd_a (cb_a 0) rd_45)) hP hD [0] [1, 2, 3, 4, 5, 6, 7, 8, 9, 10, 11, 12, 13, 14] rfl rfl (by decide) (by decide) ht hk1 hFc hB
    generalize H1 = H at hP hS ⊢
    have hP : va_P (dC, dI) vwCl (wRd cI cZ cJ rd_a (cb_a 0) rd_45 ++ wCb cI cZ cJ cb_a lk_w v_a cb_36 ++ wBr cI cZ cJ v_a v_b v_37 ++ wSy cI cZ cJ sy_a sy_38) H := hP.sub [14, 0, 1, 2, 3, 4, 5, 6, 7, 8, 9, 10, 11, 12, 13] rfl
    have hD : va_D A (wRd cI cZ cJ rd_a (cb_a 0) rd_45 ++ wCb cI cZ cJ cb_a lk_w v_a cb_36 ++ wBr cI cZ cJ v_a v_b v_37 ++ wSy cI cZ cJ sy_a sy_38) := hD.sub [14, 0, 1, 2, 3, 4, 5, 6, 7, 8, 9, 10, 11, 12, 13] (by decide) rfl
    obtain ⟨h_z, hf⟩ := gd_ex hf
    exact hr102 _ _ _ r_44  rd_45 cb_36 v_37 sy_38 (of_decide_eq_true h_z) hP hD hS hf
  · try dsimp only at hf
    refine lv_iconst (v := 1) hx hb d_Reader_takeRuns_143 (by decide) ?_
    exact hr144 _ _ _ 1 rd cb_39 v_40 sy_41 (by decide) hP hD hS hf
end
set_option maxHeartbeats 4000000 in
set_option maxRecDepth 100000 in
theorem k_C_Reader_takeRuns (l : Launch) (dC : Nat → ClassId) (dI : Nat → Nat → Nat) (cI cZ cJ : ClassId) (rd_a : Nat → Nat) (cb_a : Nat → Nat) (v_a v_b : Nat) (sy_a : Nat → Nat) (lk_w : Nat) (sz : Nat) {rd : Rd} {cb : Cb} {v : Br} {sy : Sy} {x2 : Int32} {r : Int32} {rd' : Rd} {cb' : Cb} {v' : Br} {sy' : Sy} (hf : f_C_Reader_takeRuns rd cb v sy x2 = some (r, rd', cb', v', sy')) :
    Met l y_Reader_takeRuns ws_Reader_takeRuns ({ frames := 5, cells := 0, slots := 0, locals := 112 }) (va_Pc [.ref (rd_a 0), .ref (sy_a 0), .int x2] (kP (dC, dI) vwCl (TYS cI cZ cJ) (wRd cI cZ cJ rd_a (cb_a 0) rd ++ wCb cI cZ cJ cb_a lk_w v_a cb ++ wBr cI cZ cJ v_a v_b v ++ wSy cI cZ cJ sy_a sy) sz)) (va_Qi (fun (q : Int32) (_ : Unit) => q = r ∧ vp_nar .boolean r = r) (fun _ t => kQ (dC, dI) vwCl (TYS cI cZ cJ) (wRd cI cZ cJ rd_a (cb_a 0) rd ++ wCb cI cZ cJ cb_a lk_w v_a cb ++ wBr cI cZ cJ v_a v_b v ++ wSy cI cZ cJ sy_a sy) sz (wRd cI cZ cJ rd_a (cb_a 0) rd' ++ wCb cI cZ cJ cb_a lk_w v_a cb' ++ wBr cI cZ cJ v_a v_b v' ++ wSy cI cZ cJ sy_a sy') t) (va_A (wRd cI cZ cJ rd_a (cb_a 0) rd ++ wCb cI cZ cJ cb_a lk_w v_a cb ++ wBr cI cZ cJ v_a v_b v ++ wSy cI cZ cJ sy_a sy) sz)) 0 0 (va_A (wRd cI cZ cJ rd_a (cb_a 0) rd ++ wCb cI cZ cJ cb_a lk_w v_a cb ++ wBr cI cZ cJ v_a v_b v ++ wSy cI cZ cJ sy_a sy) sz) := by
  refine Met.ofW (cc := c_Reader_takeRuns) (maxL := 8) (ret := (some .boolean)) (by decide) rfl ?_
  intro p e s m args below meth c s₁ B hml hv
  obtain ⟨rfl, hsz, hP, hK, hD0, hN⟩ := hv
  have hr := B.returns
  have hlocks := B.notSynchronized
  subst hsz
  have hD := hD0.self (sz := s.heap.size)
  have hl := lv_entry ([.ref (rd_a 0), .ref (sy_a 0), .int x2]) (n := 8) (Nat.le_of_ble_eq_true rfl)
  rw [lg_entry_eq]
  generalize (lg_sl ([.ref (rd_a 0), .ref (sy_a 0), .int x2]) ++ List.replicate (8 - (lg_sl ([.ref (rd_a 0), .ref (sy_a 0), .int x2])).length) Slot.unset).toArray = ls at hl ⊢
  refine B_C_Reader_takeRuns (A := va_A (wRd cI cZ cJ rd_a (cb_a 0) rd ++ wCb cI cZ cJ cb_a lk_w v_a cb ++ wBr cI cZ cJ v_a v_b v ++ wSy cI cZ cJ sy_a sy) s.heap.size) ⟨B.exec, B.bytes, hml, findClass_of_methodNamed B.named, fun w h => atoms_spec (ws := ws_Reader_takeRuns) B.pre w (List.mem_cons_of_mem _ h), hK, fun q h => Or.inr h, Nat.le_of_ble_eq_true rfl, Nat.le_of_ble_eq_true rfl, hN, Nat.le_of_ble_eq_true rfl, Nat.le_of_ble_eq_true rfl⟩ (fun H locs ls v rd'1 cb'1 v'1 sy'1 hz hP hD hS hf => ?_) (fun H locs ls v rd'1 cb'1 v'1 sy'1 hz hP hD hS hf => ?_) (fun H locs ls v rd'1 cb'1 v'1 sy'1 hz hP hD hS hf => ?_) hP hD va_S.rf hl hf
  · cases hf
    exact W.zret B.exec B.bytes hr (nz_n hz) (fun t ht hW => ⟨⟨_, (), rfl, ⟨rfl, hz⟩, ⟨by rw [ht]; exact hP, va_K.moved hW.alike hK, hD⟩⟩, hS.F ht⟩) hS.2.2 d_Reader_takeRuns_87
  · cases hf
    exact W.zret B.exec B.bytes hr (nz_n hz) (fun t ht hW => ⟨⟨_, (), rfl, ⟨rfl, hz⟩, ⟨by rw [ht]; exact hP, va_K.moved hW.alike hK, hD⟩⟩, hS.F ht⟩) hS.2.2 d_Reader_takeRuns_102
  · cases hf
    exact W.zret B.exec B.bytes hr (nz_n hz) (fun t ht hW => ⟨⟨_, (), rfl, ⟨rfl, hz⟩, ⟨by rw [ht]; exact hP, va_K.moved hW.alike hK, hD⟩⟩, hS.F ht⟩) hS.2.2 d_Reader_takeRuns_144

/-! C_Reader_takeSymbols -/
def l_C_Reader_takeSymbols_51 (x2 : Int32) (k73 : Rd → Cb → Br → Sy → Option (Int32 × Rd × Cb × Br × Sy)) (k100 : Rd → Cb → Br → Sy → Option (Int32 × Rd × Cb × Br × Sy)) (k108 : Rd → Cb → Br → Sy → Option (Int32 × Rd × Cb × Br × Sy)) : Nat → Rd → Cb → Br → Sy → Int32 → Option (Int32 × Rd × Cb × Br × Sy)
  | 0, _, _, _, _, _ => none
  | n + 1, rd, cb, v, sy, x3 => (if x2 ≤ x3 then k108 rd cb v sy else bd (f_C_Reader_takeSize rd cb v sy) <| fun (r_25, rd_26, cb_27, v_28, sy_29) => (if r_25 = 0 then k73 rd_26 cb_27 v_28 sy_29 else bd (f_C_Reader_takeBase rd_26 cb_27 v_28 sy_29 x3) <| fun (r_31, rd_32, cb_33, v_34, sy_35) => (if r_31 = 0 then k73 rd_32 cb_33 v_34 sy_35 else (if (Rd_br rd_32) = 0 then bd (f_C_Reader_takeSamples rd_32 cb_33 v_34 sy_35 x3) <| fun (cb_45, v_46, sy_47) => lt' (x3 + 1) <| fun x3_48 => (l_C_Reader_takeSymbols_51 x2 k73 k100 k108 n) rd_32 cb_45 v_46 sy_47 x3_48 else bd (f_C_Reader_takeRuns rd_32 cb_33 v_34 sy_35 x3) <| fun (r_38, rd_39, cb_40, v_41, sy_42) => (if r_38 = 0 then k100 rd_39 cb_40 v_41 sy_42 else lt' (x3 + 1) <| fun x3_44 => (l_C_Reader_takeSymbols_51 x2 k73 k100 k108 n) rd_39 cb_40 v_41 sy_42 x3_44)))))
def f_C_Reader_takeSymbols (rd : Rd) (cb : Cb) (v : Br) (sy : Sy) : Option (Int32 × Rd × Cb × Br × Sy) := bd (f_C_ChanceBits_startReading cb v) <| fun (cb_1, v_2) => bd (f_C_Bits_takeNumber cb_1 v_2) <| fun (r_3, cb_4, v_5) => (if r_3 = (-1) then bd (f_C_Reader_refuse rd 7) <| fun (r_71, rd_72) => gd (decide (vp_nar .boolean r_71 = r_71)) <| some (r_71, rd_72, cb_4, v_5, sy) else (if r_3 ≤ 40 then lt' (Rd_s_h rd 0) <| fun rd_8 => lt' (Rd_s_w rd_8 0) <| fun rd_10 => l_C_Reader_takeSymbols_51 r_3 (fun rd_49 cb_50 v_51 sy_52 => some (0, rd_49, cb_50, v_51, sy_52)) (fun rd_53 cb_54 v_55 sy_56 => some (0, rd_53, cb_54, v_55, sy_56)) (fun rd_57 cb_58 v_59 sy_60 => (if r_3 = 0 then some (1, rd_57, cb_58, v_59, sy_60) else bd (f_C_ChanceBits_takeBit cb_58 v_59 (-1)) <| fun (r_62, cb_63, v_64) => (if r_62 = 0 then some (1, rd_57, cb_63, v_64, sy_60) else bd (f_C_Reader_refuse rd_57 0) <| fun (r_66, rd_67) => (if r_66 = 0 then some (0, rd_67, cb_63, v_64, sy_60) else some (1, rd_67, cb_63, v_64, sy_60))))) 100000 rd_10 cb_4 v_5 sy 0 else bd (f_C_Reader_refuse rd 0) <| fun (r_69, rd_70) => gd (decide (vp_nar .boolean r_69 = r_69)) <| some (r_69, rd_70, cb_4, v_5, sy)))
section
variable {p : Program} {l : Launch} {e : Env} {R : Room} {s : State} {m : MethodId} {args : Array Value} {below : List Frame} {meth : Method} {c : Code} {Q : State → Prop} {A : Nat → Prop}
set_option maxHeartbeats 4000000 in
set_option maxRecDepth 100000 in
theorem L_C_Reader_takeSymbols_51 {cells slots : Nat} {dC : Nat → ClassId} {dI : Nat → Nat → Nat} {cI cZ cJ : ClassId} {rd_a : Nat → Nat} {cb_a : Nat → Nat} {v_a v_b : Nat} {sy_a : Nat → Nat} {lk_w : Nat} {x2 : Int32} {k73 : Rd → Cb → Br → Sy → Option (Int32 × Rd × Cb × Br × Sy)} {k100 : Rd → Cb → Br → Sy → Option (Int32 × Rd × Cb × Br × Sy)} {k108 : Rd → Cb → Br → Sy → Option (Int32 × Rd × Cb × Br × Sy)} {res : Int32 × Rd × Cb × Br × Sy} (C0 : cxt p c m s args R cells slots R_Reader c_Reader_takeSymbols tb 4 (dC, dI) vwCl (TYS cI cZ cJ) A 7 156)
    (hk73 : ∀ (H : Heap) (locs : List Loc) (ls : Array Slot) (rd_12 : Rd) (cb_13 : Cb) (v_14 : Br) (sy_15 : Sy), va_P (dC, dI) vwCl (wRd cI cZ cJ rd_a (cb_a 0) rd_12 ++ wCb cI cZ cJ cb_a lk_w v_a cb_13 ++ wBr cI cZ cJ v_a v_b v_14 ++ wSy cI cZ cJ sy_a sy_15) H → va_D A (wRd cI cZ cJ rd_a (cb_a 0) rd_12 ++ wCb cI cZ cJ cb_a lk_w v_a cb_13 ++ wBr cI cZ cJ v_a v_b v_14 ++ wSy cI cZ cJ sy_a sy_15) → va_S A s.heap H locs → lv_has ls 4 [] → k73 rd_12 cb_13 v_14 sy_15 = some res → W p l e R s m args below meth c H locs cells slots Q (F0 m 73 ls []))
    (hk100 : ∀ (H : Heap) (locs : List Loc) (ls : Array Slot) (rd_16 : Rd) (cb_17 : Cb) (v_18 : Br) (sy_19 : Sy), va_P (dC, dI) vwCl (wRd cI cZ cJ rd_a (cb_a 0) rd_16 ++ wCb cI cZ cJ cb_a lk_w v_a cb_17 ++ wBr cI cZ cJ v_a v_b v_18 ++ wSy cI cZ cJ sy_a sy_19) H → va_D A (wRd cI cZ cJ rd_a (cb_a 0) rd_16 ++ wCb cI cZ cJ cb_a lk_w v_a cb_17 ++ wBr cI cZ cJ v_a v_b v_18 ++ wSy cI cZ cJ sy_a sy_19) → va_S A s.heap H locs → lv_has ls 4 [] → k100 rd_16 cb_17 v_18 sy_19 = some res → W p l e R s m args below meth c H locs cells slots Q (F0 m 100 ls []))
    (hk108 : ∀ (H : Heap) (locs : List Loc) (ls : Array Slot) (rd_20 : Rd) (cb_21 : Cb) (v_22 : Br) (sy_23 : Sy), va_P (dC, dI) vwCl (wRd cI cZ cJ rd_a (cb_a 0) rd_20 ++ wCb cI cZ cJ cb_a lk_w v_a cb_21 ++ wBr cI cZ cJ v_a v_b v_22 ++ wSy cI cZ cJ sy_a sy_23) H → va_D A (wRd cI cZ cJ rd_a (cb_a 0) rd_20 ++ wCb cI cZ cJ cb_a lk_w v_a cb_21 ++ wBr cI cZ cJ v_a v_b v_22 ++ wSy cI cZ cJ sy_a sy_23) → va_S A s.heap H locs → lv_has ls 4 [(0, .ref (rd_a 0)), (2, .int x2)] → k108 rd_20 cb_21 v_22 sy_23 = some res → W p l e R s m args below meth c H locs cells slots Q (F0 m 108 ls [])) :
    ∀ (n : Nat) (H : Heap) (locs : List Loc) (ls : Array Slot) (rd : Rd) (cb : Cb) (v : Br) (sy : Sy) (x3 : Int32), va_P (dC, dI) vwCl (wRd cI cZ cJ rd_a (cb_a 0) rd ++ wCb cI cZ cJ cb_a lk_w v_a cb ++ wBr cI cZ cJ v_a v_b v ++ wSy cI cZ cJ sy_a sy) H → va_D A (wRd cI cZ cJ rd_a (cb_a 0) rd ++ wCb cI cZ cJ cb_a lk_w v_a cb ++ wBr cI cZ cJ v_a v_b v ++ wSy cI cZ cJ sy_a sy) → va_S A s.heap H locs → lv_has ls 4 [(0, .ref (rd_a 0)), (1, .ref (sy_a 0)), (2, .int x2), (3, .int x3)] → l_C_Reader_takeSymbols_51 x2 k73 k100 k108 n rd cb v sy x3 = some res → W p l e R s m args below meth c H locs cells slots Q (F0 m 51 ls []) := by
  obtain ⟨hx, hb, hml, hown, hts, hK, hA, hRf, hRl, hN, hRc⟩ := id C0
  intro n
  induction n with
  | zero =>
    intro H locs ls rd cb v sy x3 hP hD hS hl hf
    exact absurd hf (by simp [l_C_Reader_takeSymbols_51])
  | succ n ih =>
    intro H locs ls rd cb v sy x3 hP hD hS hl hf
    rw [l_C_Reader_takeSymbols_51] at hf
    refine lv_iload_n hx hb d_Reader_takeSymbols_51 rfl (lv_at hl 3 rfl) ?_
    refine lv_iload_n hx hb d_Reader_takeSymbols_52 rfl (lv_at hl 2 rfl) ?_
    refine lv_icmp_ge (tgt := 108) hx hb d_Reader_takeSymbols_53 (by decide) (fun c_24 => ?_) (fun c_24 => ?_)
    · rw [if_pos c_24] at hf
      exact hk108 _ _ _ rd cb v sy hP hD hS (lv_sub hl [0, 2] rfl) hf
    · rw [if_neg c_24] at hf
      refine lv_aload_n hx hb d_Reader_takeSymbols_56 rfl (lv_at hl 0 rfl) ?_
      refine lv_aload_n hx hb d_Reader_takeSymbols_57 rfl (lv_at hl 1 rfl) ?_
      obtain ⟨⟨r_25, rd_26, cb_27, v_28, sy_29⟩, hf1, hf⟩ := bd_ex hf
      try dsimp only at hf
      have hPc := hP.sub (ws' := (wRd cI cZ cJ rd_a (cb_a 0) rd ++ wCb cI cZ cJ cb_a lk_w v_a cb ++ wBr cI cZ cJ v_a v_b v ++ wSy cI cZ cJ sy_a sy)) [0, 1, 2, 3, 4, 5, 6, 7, 8, 9, 10, 11, 12, 13, 14] rfl
      have hDc := hD.sub (ws' := (wRd cI cZ cJ rd_a (cb_a 0) rd ++ wCb cI cZ cJ cb_a lk_w v_a cb ++ wBr cI cZ cJ v_a v_b v ++ wSy cI cZ cJ sy_a sy)) [0, 1, 2, 3, 4, 5, 6, 7, 8, 9, 10, 11, 12, 13, 14] (by decide) rfl
      have hFc := va_free (wc := (wRd cI cZ cJ rd_a (cb_a 0) rd ++ wCb cI cZ cJ cb_a lk_w v_a cb ++ wBr cI cZ cJ v_a v_b v ++ wSy cI cZ cJ sy_a sy)) hD hS hA [0, 1, 2, 3, 4, 5, 6, 7, 8, 9, 10, 11, 12, 13, 14] rfl
      refine va_calli (va_runV (As := [.ref (sy_a 0)]) (rest := []) ⟨hx, hb, hml, hown, hts⟩ (k_C_Reader_takeSize l dC dI cI cZ cJ rd_a cb_a v_a v_b sy_a lk_w H.size hf1) (cwV 1 hts (gV t_489 t_491 t_13 t_61 t_492) rfl rfl rfl hd_Reader_takeSize ⟨Nat.le_trans (Nat.le_of_ble_eq_true rfl) hRf, Nat.le_trans (Nat.le_of_ble_eq_true rfl) hRl⟩) ⟨kP_blind, va_recv hK hP (ci := 5) (q0 := 0) rfl rfl, kP_at hPc hK hDc hN⟩ rfl rfl hl.1 rfl (lv_room (Nat.le_of_ble_eq_true rfl)) d_Reader_takeSymbols_58 hRc) hS (fun q _ h => hFc q h) hFc (fun r9 u t H1 locs ht hvm hw hB hz1 hk1 hS => ?_)
      rw [hw.1]
      obtain ⟨hP, hD⟩ := kQ_join (wr := ([] : va_W)) (w1 := (wRd cI cZ cJ rd_a (cb_a 0) rd_26 ++ wCb cI cZ cJ cb_a lk_w v_a cb_27 ++ wBr cI cZ cJ v_a v_b v_28 ++ wSy cI cZ cJ sy_a sy_29)) hP hD [0, 1, 2, 3, 4, 5, 6, 7, 8, 9, 10, 11, 12, 13, 14] [] rfl rfl (by decide) (by decide) ht hk1 hFc hB
      generalize H1 = H at hP hS ⊢
      have hP : va_P (dC, dI) vwCl (wRd cI cZ cJ rd_a (cb_a 0) rd_26 ++ wCb cI cZ cJ cb_a lk_w v_a cb_27 ++ wBr cI cZ cJ v_a v_b v_28 ++ wSy cI cZ cJ sy_a sy_29) H := hP.sub [0, 1, 2, 3, 4, 5, 6, 7, 8, 9, 10, 11, 12, 13, 14] rfl
      have hD : va_D A (wRd cI cZ cJ rd_a (cb_a 0) rd_26 ++ wCb cI cZ cJ cb_a lk_w v_a cb_27 ++ wBr cI cZ cJ v_a v_b v_28 ++ wSy cI cZ cJ sy_a sy_29) := hD.sub [0, 1, 2, 3, 4, 5, 6, 7, 8, 9, 10, 11, 12, 13, 14] (by decide) rfl
      refine lv_if_eq (tgt := 73) hx hb d_Reader_takeSymbols_61 (by decide) (fun c_30 => ?_) (fun c_30 => ?_)
      · rw [if_pos c_30] at hf
        exact hk73 _ _ _ rd_26 cb_27 v_28 sy_29 hP hD hS (lv_sub hl [] rfl) hf
      · rw [if_neg c_30] at hf
        refine lv_aload_n hx hb d_Reader_takeSymbols_64 rfl (lv_at hl 0 rfl) ?_
        refine lv_aload_n hx hb d_Reader_takeSymbols_65 rfl (lv_at hl 1 rfl) ?_
        refine lv_iload_n hx hb d_Reader_takeSymbols_66 rfl (lv_at hl 3 rfl) ?_
        obtain ⟨⟨r_31, rd_32, cb_33, v_34, sy_35⟩, hf1, hf⟩ := bd_ex hf
        try dsimp only at hf
        have hPc := hP.sub (ws' := (wRd cI cZ cJ rd_a (cb_a 0) rd_26 ++ wCb cI cZ cJ cb_a lk_w v_a cb_27 ++ wBr cI cZ cJ v_a v_b v_28 ++ wSy cI cZ cJ sy_a sy_29)) [0, 1, 2, 3, 4, 5, 6, 7, 8, 9, 10, 11, 12, 13, 14] rfl
        have hDc := hD.sub (ws' := (wRd cI cZ cJ rd_a (cb_a 0) rd_26 ++ wCb cI cZ cJ cb_a lk_w v_a cb_27 ++ wBr cI cZ cJ v_a v_b v_28 ++ wSy cI cZ cJ sy_a sy_29)) [0, 1, 2, 3, 4, 5, 6, 7, 8, 9, 10, 11, 12, 13, 14] (by decide) rfl
        have hFc := va_free (wc := (wRd cI cZ cJ rd_a (cb_a 0) rd_26 ++ wCb cI cZ cJ cb_a lk_w v_a cb_27 ++ wBr cI cZ cJ v_a v_b v_28 ++ wSy cI cZ cJ sy_a sy_29)) hD hS hA [0, 1, 2, 3, 4, 5, 6, 7, 8, 9, 10, 11, 12, 13, 14] rfl
        refine va_calli (va_runV (As := [.ref (sy_a 0), .int x3]) (rest := []) ⟨hx, hb, hml, hown, hts⟩ (k_C_Reader_takeBase l dC dI cI cZ cJ rd_a cb_a v_a v_b sy_a lk_w H.size hf1) (cwV 2 hts (gV t_516 t_518 t_15 t_61 t_519) rfl rfl rfl hd_Reader_takeBase ⟨Nat.le_trans (Nat.le_of_ble_eq_true rfl) hRf, Nat.le_trans (Nat.le_of_ble_eq_true rfl) hRl⟩) ⟨kP_blind, va_recv hK hP (ci := 5) (q0 := 0) rfl rfl, kP_at hPc hK hDc hN⟩ rfl rfl hl.1 rfl (lv_room (Nat.le_of_ble_eq_true rfl)) d_Reader_takeSymbols_67 hRc) hS (fun q _ h => hFc q h) hFc (fun r9 u t H1 locs ht hvm hw hB hz1 hk1 hS => ?_)
        rw [hw.1]
        obtain ⟨hP, hD⟩ := kQ_join (wr := ([] : va_W)) (w1 := (wRd cI cZ cJ rd_a (cb_a 0) rd_32 ++ wCb cI cZ cJ cb_a lk_w v_a cb_33 ++ wBr cI cZ cJ v_a v_b v_34 ++ wSy cI cZ cJ sy_a sy_35)) hP hD [0, 1, 2, 3, 4, 5, 6, 7, 8, 9, 10, 11, 12, 13, 14] [] rfl rfl (by decide) (by decide) ht hk1 hFc hB
        generalize H1 = H at hP hS ⊢
        have hP : va_P (dC, dI) vwCl (wRd cI cZ cJ rd_a (cb_a 0) rd_32 ++ wCb cI cZ cJ cb_a lk_w v_a cb_33 ++ wBr cI cZ cJ v_a v_b v_34 ++ wSy cI cZ cJ sy_a sy_35) H := hP.sub [0, 1, 2, 3, 4, 5, 6, 7, 8, 9, 10, 11, 12, 13, 14] rfl
        have hD : va_D A (wRd cI cZ cJ rd_a (cb_a 0) rd_32 ++ wCb cI cZ cJ cb_a lk_w v_a cb_33 ++ wBr cI cZ cJ v_a v_b v_34 ++ wSy cI cZ cJ sy_a sy_35) := hD.sub [0, 1, 2, 3, 4, 5, 6, 7, 8, 9, 10, 11, 12, 13, 14] (by decide) rfl
        refine lv_if_ne (tgt := 75) hx hb d_Reader_takeSymbols_70 (by decide) (fun c_36 => ?_) (fun c_36 => ?_)
        · rw [if_neg c_36] at hf
          refine lv_aload_n hx hb d_Reader_takeSymbols_75 rfl (lv_at hl 0 rfl) ?_
          refine va_get (D := (dC, dI)) (ci := 5) (v := .int (Rd_br rd_32)) (C := R_Reader) (T := T_Reader) (N := 5) hx hb hts in_Reader hown hK hP 0 rfl rfl 2 (by decide) (hts _ t_186) (fun _ h9 => h9) rfl d_Reader_takeSymbols_76 ?_
          refine lv_if_ne (tgt := 91) hx hb d_Reader_takeSymbols_79 (by decide) (fun c_37 => ?_) (fun c_37 => ?_)
          · rw [if_neg c_37] at hf
            refine lv_aload_n hx hb d_Reader_takeSymbols_91 rfl (lv_at hl 0 rfl) ?_
            refine lv_aload_n hx hb d_Reader_takeSymbols_92 rfl (lv_at hl 1 rfl) ?_
            refine lv_iload_n hx hb d_Reader_takeSymbols_93 rfl (lv_at hl 3 rfl) ?_
            obtain ⟨⟨r_38, rd_39, cb_40, v_41, sy_42⟩, hf1, hf⟩ := bd_ex hf
            try dsimp only at hf
            have hPc := hP.sub (ws' := (wRd cI cZ cJ rd_a (cb_a 0) rd_32 ++ wCb cI cZ cJ cb_a lk_w v_a cb_33 ++ wBr cI cZ cJ v_a v_b v_34 ++ wSy cI cZ cJ sy_a sy_35)) [0, 1, 2, 3, 4, 5, 6, 7, 8, 9, 10, 11, 12, 13, 14] rfl
            have hDc := hD.sub (ws' := (wRd cI cZ cJ rd_a (cb_a 0) rd_32 ++ wCb cI cZ cJ cb_a lk_w v_a cb_33 ++ wBr cI cZ cJ v_a v_b v_34 ++ wSy cI cZ cJ sy_a sy_35)) [0, 1, 2, 3, 4, 5, 6, 7, 8, 9, 10, 11, 12, 13, 14] (by decide) rfl
            have hFc := va_free (wc := (wRd cI cZ cJ rd_a (cb_a 0) rd_32 ++ wCb cI cZ cJ cb_a lk_w v_a cb_33 ++ wBr cI cZ cJ v_a v_b v_34 ++ wSy cI cZ cJ sy_a sy_35)) hD hS hA [0, 1, 2, 3, 4, 5, 6, 7, 8, 9, 10, 11, 12, 13, 14] rfl
            refine va_calli (va_runV (As := [.ref (sy_a 0), .int x3]) (rest := []) ⟨hx, hb, hml, hown, hts⟩ (k_C_Reader_takeRuns l dC dI cI cZ cJ rd_a cb_a v_a v_b sy_a lk_w H.size hf1) (cwV 2 hts (gV t_529 t_531 t_17 t_61 t_532) rfl rfl rfl hd_Reader_takeRuns ⟨Nat.le_trans (Nat.le_of_ble_eq_true rfl) hRf, Nat.le_trans (Nat.le_of_ble_eq_true rfl) hRl⟩) ⟨kP_blind, va_recv hK hP (ci := 5) (q0 := 0) rfl rfl, kP_at hPc hK hDc hN⟩ rfl rfl hl.1 rfl (lv_room (Nat.le_of_ble_eq_true rfl)) d_Reader_takeSymbols_94 hRc) hS (fun q _ h => hFc q h) hFc (fun r9 u t H1 locs ht hvm hw hB hz1 hk1 hS => ?_)
            rw [hw.1]
            obtain ⟨hP, hD⟩ := kQ_join (wr := ([] : va_W)) (w1 := (wRd cI cZ cJ rd_a (cb_a 0) rd_39 ++ wCb cI cZ cJ cb_a lk_w v_a cb_40 ++ wBr cI cZ cJ v_a v_b v_41 ++ wSy cI cZ cJ sy_a sy_42)) hP hD [0, 1, 2, 3, 4, 5, 6, 7, 8, 9, 10, 11, 12, 13, 14] [] rfl rfl (by decide) (by decide) ht hk1 hFc hB
            generalize H1 = H at hP hS ⊢
            have hP : va_P (dC, dI) vwCl (wRd cI cZ cJ rd_a (cb_a 0) rd_39 ++ wCb cI cZ cJ cb_a lk_w v_a cb_40 ++ wBr cI cZ cJ v_a v_b v_41 ++ wSy cI cZ cJ sy_a sy_42) H := hP.sub [0, 1, 2, 3, 4, 5, 6, 7, 8, 9, 10, 11, 12, 13, 14] rfl
            have hD : va_D A (wRd cI cZ cJ rd_a (cb_a 0) rd_39 ++ wCb cI cZ cJ cb_a lk_w v_a cb_40 ++ wBr cI cZ cJ v_a v_b v_41 ++ wSy cI cZ cJ sy_a sy_42) := hD.sub [0, 1, 2, 3, 4, 5, 6, 7, 8, 9, 10, 11, 12, 13, 14] (by decide) rfl
            refine lv_if_ne (tgt := 102) hx hb d_Reader_takeSymbols_97 (by decide) (fun c_43 => ?_) (fun c_43 => ?_)
            · rw [if_neg c_43] at hf
              obtain ⟨x3_44, ex3_44, hf⟩ := lt_ex hf
              try dsimp only at hf
              refine lv_iinc (v := x3_44) (lv' := [(3, .int x3_44), (0, .ref (rd_a 0)), (1, .ref (sy_a 0)), (2, .int x2)]) hx hb d_Reader_takeSymbols_102 hl (k := 3) rfl (by rw [ex3_44]; rfl) (by decide) rfl (fun ls hl => ?_)
              refine lv_goto (tgt := 51) hx hb d_Reader_takeSymbols_105 (by decide) ?_
              exact ih _ _ _ rd_39 cb_40 v_41 sy_42 x3_44 hP hD hS (lv_sub hl [1, 2, 3, 0] rfl) hf
            · rw [if_pos c_43] at hf
              exact hk100 _ _ _ rd_39 cb_40 v_41 sy_42 hP hD hS (lv_sub hl [] rfl) hf
          · rw [if_pos c_37] at hf
            refine lv_aload_n hx hb d_Reader_takeSymbols_82 rfl (lv_at hl 0 rfl) ?_
            refine lv_aload_n hx hb d_Reader_takeSymbols_83 rfl (lv_at hl 1 rfl) ?_
            refine lv_iload_n hx hb d_Reader_takeSymbols_84 rfl (lv_at hl 3 rfl) ?_
            obtain ⟨⟨cb_45, v_46, sy_47⟩, hf1, hf⟩ := bd_ex hf
            try dsimp only at hf
            have hPc := hP.sub (ws' := (wRd cI cZ cJ rd_a (cb_a 0) rd_32 ++ wCb cI cZ cJ cb_a lk_w v_a cb_33 ++ wBr cI cZ cJ v_a v_b v_34 ++ wSy cI cZ cJ sy_a sy_35)) [0, 1, 2, 3, 4, 5, 6, 7, 8, 9, 10, 11, 12, 13, 14] rfl
            have hDc := hD.sub (ws' := (wRd cI cZ cJ rd_a (cb_a 0) rd_32 ++ wCb cI cZ cJ cb_a lk_w v_a cb_33 ++ wBr cI cZ cJ v_a v_b v_34 ++ wSy cI cZ cJ sy_a sy_35)) [0, 1, 2, 3, 4, 5, 6, 7, 8, 9, 10, 11, 12, 13, 14] (by decide) rfl
            have hFc := va_free (wc := (wRd cI cZ cJ rd_a (cb_a 0) rd_32 ++ wCb cI cZ cJ cb_a lk_w v_a cb_33 ++ wBr cI cZ cJ v_a v_b v_34 ++ wSy cI cZ cJ sy_a sy_35)) hD hS hA [0, 1, 2, 3, 4, 5, 6, 7, 8, 9, 10, 11, 12, 13, 14] rfl
            refine va_callv (va_runV (As := [.ref (sy_a 0), .int x3]) (rest := []) ⟨hx, hb, hml, hown, hts⟩ (k_C_Reader_takeSamples l dC dI cI cZ cJ rd_a cb_a v_a v_b sy_a lk_w H.size hf1) (cwV 2 hts (gV t_522 t_524 t_16 t_61 t_525) rfl rfl rfl hd_Reader_takeSamples ⟨Nat.le_trans (Nat.le_of_ble_eq_true rfl) hRf, Nat.le_trans (Nat.le_of_ble_eq_true rfl) hRl⟩) ⟨kP_blind, va_recv hK hP (ci := 5) (q0 := 0) rfl rfl, kP_at hPc hK hDc hN⟩ rfl rfl hl.1 rfl (lv_room (Nat.le_of_ble_eq_true rfl)) d_Reader_takeSymbols_85 hRc) hS (fun q _ h => hFc q h) hFc (fun u t H1 locs ht hvm hw hB hz1 hk1 hS => ?_)
            obtain ⟨hP, hD⟩ := kQ_join (wr := ([] : va_W)) (w1 := (wRd cI cZ cJ rd_a (cb_a 0) rd_32 ++ wCb cI cZ cJ cb_a lk_w v_a cb_45 ++ wBr cI cZ cJ v_a v_b v_46 ++ wSy cI cZ cJ sy_a sy_47)) hP hD [0, 1, 2, 3, 4, 5, 6, 7, 8, 9, 10, 11, 12, 13, 14] [] rfl rfl (by decide) (by decide) ht hk1 hFc hB
            generalize H1 = H at hP hS ⊢
            have hP : va_P (dC, dI) vwCl (wRd cI cZ cJ rd_a (cb_a 0) rd_32 ++ wCb cI cZ cJ cb_a lk_w v_a cb_45 ++ wBr cI cZ cJ v_a v_b v_46 ++ wSy cI cZ cJ sy_a sy_47) H := hP.sub [0, 1, 2, 3, 4, 5, 6, 7, 8, 9, 10, 11, 12, 13, 14] rfl
            have hD : va_D A (wRd cI cZ cJ rd_a (cb_a 0) rd_32 ++ wCb cI cZ cJ cb_a lk_w v_a cb_45 ++ wBr cI cZ cJ v_a v_b v_46 ++ wSy cI cZ cJ sy_a sy_47) := hD.sub [0, 1, 2, 3, 4, 5, 6, 7, 8, 9, 10, 11, 12, 13, 14] (by decide) rfl
            refine lv_goto (tgt := 102) hx hb d_Reader_takeSymbols_88 (by decide) ?_
            obtain ⟨x3_48, ex3_48, hf⟩ := lt_ex hf
            try dsimp only at hf
            refine lv_iinc (v := x3_48) (lv' := [(3, .int x3_48), (0, .ref (rd_a 0)), (1, .ref (sy_a 0)), (2, .int x2)]) hx hb d_Reader_takeSymbols_102 hl (k := 3) rfl (by rw [ex3_48]; rfl) (by decide) rfl (fun ls hl => ?_)
            refine lv_goto (tgt := 51) hx hb d_Reader_takeSymbols_105 (by decide) ?_
            exact ih _ _ _ rd_32 cb_45 v_46 sy_47 x3_48 hP hD hS (lv_sub hl [1, 2, 3, 0] rfl) hf
        · rw [if_pos c_36] at hf
          exact hk73 _ _ _ rd_32 cb_33 v_34 sy_35 hP hD hS (lv_sub hl [] rfl) hf
set_option maxHeartbeats 4000000 in
set_option maxRecDepth 100000 in
theorem B_C_Reader_takeSymbols {cells slots : Nat} {dC : Nat → ClassId} {dI : Nat → Nat → Nat} {cI cZ cJ : ClassId} {rd_a : Nat → Nat} {cb_a : Nat → Nat} {v_a v_b : Nat} {sy_a : Nat → Nat} {lk_w : Nat} {rd : Rd} {cb : Cb} {v : Br} {sy : Sy} {res : Int32 × Rd × Cb × Br × Sy} (C0 : cxt p c m s args R cells slots R_Reader c_Reader_takeSymbols tb 4 (dC, dI) vwCl (TYS cI cZ cJ) A 7 156)
    (hr26 : ∀ (H : Heap) (locs : List Loc) (ls : Array Slot) (v : Int32) (rd' : Rd) (cb' : Cb) (v' : Br) (sy' : Sy), vp_nar .boolean v = v → va_P (dC, dI) vwCl (wRd cI cZ cJ rd_a (cb_a 0) rd' ++ wCb cI cZ cJ cb_a lk_w v_a cb' ++ wBr cI cZ cJ v_a v_b v' ++ wSy cI cZ cJ sy_a sy') H → va_D A (wRd cI cZ cJ rd_a (cb_a 0) rd' ++ wCb cI cZ cJ cb_a lk_w v_a cb' ++ wBr cI cZ cJ v_a v_b v' ++ wSy cI cZ cJ sy_a sy') → va_S A s.heap H locs → some (v, rd', cb', v', sy') = some res → W p l e R s m args below meth c H locs cells slots Q (F0 m 26 ls [.int v]))
    (hr38 : ∀ (H : Heap) (locs : List Loc) (ls : Array Slot) (v : Int32) (rd' : Rd) (cb' : Cb) (v' : Br) (sy' : Sy), vp_nar .boolean v = v → va_P (dC, dI) vwCl (wRd cI cZ cJ rd_a (cb_a 0) rd' ++ wCb cI cZ cJ cb_a lk_w v_a cb' ++ wBr cI cZ cJ v_a v_b v' ++ wSy cI cZ cJ sy_a sy') H → va_D A (wRd cI cZ cJ rd_a (cb_a 0) rd' ++ wCb cI cZ cJ cb_a lk_w v_a cb' ++ wBr cI cZ cJ v_a v_b v' ++ wSy cI cZ cJ sy_a sy') → va_S A s.heap H locs → some (v, rd', cb', v', sy') = some res → W p l e R s m args below meth c H locs cells slots Q (F0 m 38 ls [.int v]))
    (hr74 : ∀ (H : Heap) (locs : List Loc) (ls : Array Slot) (v : Int32) (rd' : Rd) (cb' : Cb) (v' : Br) (sy' : Sy), vp_nar .boolean v = v → va_P (dC, dI) vwCl (wRd cI cZ cJ rd_a (cb_a 0) rd' ++ wCb cI cZ cJ cb_a lk_w v_a cb' ++ wBr cI cZ cJ v_a v_b v' ++ wSy cI cZ cJ sy_a sy') H → va_D A (wRd cI cZ cJ rd_a (cb_a 0) rd' ++ wCb cI cZ cJ cb_a lk_w v_a cb' ++ wBr cI cZ cJ v_a v_b v' ++ wSy cI cZ cJ sy_a sy') → va_S A s.heap H locs → some (v, rd', cb', v', sy') = some res → W p l e R s m args below meth c H locs cells slots Q (F0 m 74 ls [.int v]))
    (hr101 : ∀ (H : Heap) (locs : List Loc) (ls : Array Slot) (v : Int32) (rd' : Rd) (cb' : Cb) (v' : Br) (sy' : Sy), vp_nar .boolean v = v → va_P (dC, dI) vwCl (wRd cI cZ cJ rd_a (cb_a 0) rd' ++ wCb cI cZ cJ cb_a lk_w v_a cb' ++ wBr cI cZ cJ v_a v_b v' ++ wSy cI cZ cJ sy_a sy') H → va_D A (wRd cI cZ cJ rd_a (cb_a 0) rd' ++ wCb cI cZ cJ cb_a lk_w v_a cb' ++ wBr cI cZ cJ v_a v_b v' ++ wSy cI cZ cJ sy_a sy') → va_S A s.heap H locs → some (v, rd', cb', v', sy') = some res → W p l e R s m args below meth c H locs cells slots Q (F0 m 101 ls [.int v]))
    (hr136 : ∀ (H : Heap) (locs : List Loc) (ls : Array Slot) (v : Int32) (rd' : Rd) (cb' : Cb) (v' : Br) (sy' : Sy), vp_nar .boolean v = v → va_P (dC, dI) vwCl (wRd cI cZ cJ rd_a (cb_a 0) rd' ++ wCb cI cZ cJ cb_a lk_w v_a cb' ++ wBr cI cZ cJ v_a v_b v' ++ wSy cI cZ cJ sy_a sy') H → va_D A (wRd cI cZ cJ rd_a (cb_a 0) rd' ++ wCb cI cZ cJ cb_a lk_w v_a cb' ++ wBr cI cZ cJ v_a v_b v' ++ wSy cI cZ cJ sy_a sy') → va_S A s.heap H locs → some (v, rd', cb', v', sy') = some res → W p l e R s m args below meth c H locs cells slots Q (F0 m 136 ls [.int v]))
    {H : Heap} {locs : List Loc} {ls : Array Slot} (hP : va_P (dC, dI) vwCl (wRd cI cZ cJ rd_a (cb_a 0) rd ++ wCb cI cZ cJ cb_a lk_w v_a cb ++ wBr cI cZ cJ v_a v_b v ++ wSy cI cZ cJ sy_a sy) H) (hD : va_D A (wRd cI cZ cJ rd_a (cb_a 0) rd ++ wCb cI cZ cJ cb_a lk_w v_a cb ++ wBr cI cZ cJ v_a v_b v ++ wSy cI cZ cJ sy_a sy)) (hS : va_S A s.heap H locs) (hl : lv_has ls 4 [(0, .ref (rd_a 0)), (1, .ref (sy_a 0))]) (hf : f_C_Reader_takeSymbols rd cb v sy = some res) : W p l e R s m args below meth c H locs cells slots Q (F0 m 0 ls []) := by
  obtain ⟨hx, hb, hml, hown, hts, hK, hA, hRf, hRl, hN, hRc⟩ := id C0
  rw [f_C_Reader_takeSymbols] at hf
  refine lv_aload_n hx hb d_Reader_takeSymbols_0 rfl (lv_at hl 0 rfl) ?_
  refine va_get (D := (dC, dI)) (ci := 5) (v := .ref (cb_a 0)) (C := R_Reader) (T := T_Reader) (N := 5) hx hb hts in_Reader hown hK hP 0 rfl rfl 1 (by decide) (hts _ t_185) (fun _ h9 => h9) rfl d_Reader_takeSymbols_1 ?_
  obtain ⟨⟨cb_1, v_2⟩, hf1, hf⟩ := bd_ex hf
  try dsimp only at hf
  have hPc := hP.sub (ws' := (wCb cI cZ cJ cb_a lk_w v_a cb ++ wBr cI cZ cJ v_a v_b v)) [1, 2, 3, 4] rfl
  have hDc := hD.sub (ws' := (wCb cI cZ cJ cb_a lk_w v_a cb ++ wBr cI cZ cJ v_a v_b v)) [1, 2, 3, 4] (by decide) rfl
  have hFc := va_free (wc := (wCb cI cZ cJ cb_a lk_w v_a cb ++ wBr cI cZ cJ v_a v_b v)) hD hS hA [1, 2, 3, 4] rfl
  refine va_callv (va_runU (As := []) (rest := []) ⟨hx, hb, hml, hown, hts⟩ (k_C_ChanceBits_startReading l dC dI cI cZ cJ cb_a v_a v_b lk_w H.size hf1) (va_cwA 0 hts (gU t_445 t_447 t_448 t_449 t_58 t_450) rfl rfl rfl (hN.2 _ (by decide +kernel)) hdx_Bits_startReading ⟨Nat.le_trans (Nat.le_of_ble_eq_true rfl) hRf, Nat.le_trans (Nat.le_of_ble_eq_true rfl) hRl⟩) ⟨kP_blind, va_recv hK hP (ci := 3) (q0 := 1) rfl rfl, kP_at hPc hK hDc hN⟩ rfl rfl hl.1 rfl (lv_room (Nat.le_of_ble_eq_true rfl)) d_Reader_takeSymbols_4 hRc) hS (fun q _ h => hFc q h) hFc (fun u t H1 locs ht hvm hw hB hz1 hk1 hS => ?_)
  obtain ⟨hP, hD⟩ := kQ_join (wr := (wRd cI cZ cJ rd_a (cb_a 0) rd ++ wSy cI cZ cJ sy_a sy)) (w1 := (wCb cI cZ cJ cb_a lk_w v_a cb_1 ++ wBr cI cZ cJ v_a v_b v_2)) hP hD [1, 2, 3, 4] [0, 5, 6, 7, 8, 9, 10, 11, 12, 13, 14] rfl rfl (by decide) (by decide) ht hk1 hFc hB
  generalize H1 = H at hP hS ⊢
  have hP : va_P (dC, dI) vwCl (wRd cI cZ cJ rd_a (cb_a 0) rd ++ wCb cI cZ cJ cb_a lk_w v_a cb_1 ++ wBr cI cZ cJ v_a v_b v_2 ++ wSy cI cZ cJ sy_a sy) H := hP.sub [0, 11, 12, 13, 14, 1, 2, 3, 4, 5, 6, 7, 8, 9, 10] rfl
  have hD : va_D A (wRd cI cZ cJ rd_a (cb_a 0) rd ++ wCb cI cZ cJ cb_a lk_w v_a cb_1 ++ wBr cI cZ cJ v_a v_b v_2 ++ wSy cI cZ cJ sy_a sy) := hD.sub [0, 11, 12, 13, 14, 1, 2, 3, 4, 5, 6, 7, 8, 9, 10] (by decide) rfl
  refine lv_aload_n hx hb d_Reader_takeSymbols_7 rfl (lv_at hl 0 rfl) ?_
  refine va_get (D := (dC, dI)) (ci := 5) (v := .ref (cb_a 0)) (C := R_Reader) (T := T_Reader) (N := 5) hx hb hts in_Reader hown hK hP 0 rfl rfl 1 (by decide) (hts _ t_185) (fun _ h9 => h9) rfl d_Reader_takeSymbols_8 ?_
  obtain ⟨⟨r_3, cb_4, v_5⟩, hf1, hf⟩ := bd_ex hf
  try dsimp only at hf
  have hPc := hP.sub (ws' := (wCb cI cZ cJ cb_a lk_w v_a cb_1 ++ wBr cI cZ cJ v_a v_b v_2)) [1, 2, 3, 4] rfl
  have hDc := hD.sub (ws' := (wCb cI cZ cJ cb_a lk_w v_a cb_1 ++ wBr cI cZ cJ v_a v_b v_2)) [1, 2, 3, 4] (by decide) rfl
  have hFc := va_free (wc := (wCb cI cZ cJ cb_a lk_w v_a cb_1 ++ wBr cI cZ cJ v_a v_b v_2)) hD hS hA [1, 2, 3, 4] rfl
  refine va_calli (va_runU (As := []) (rest := []) ⟨hx, hb, hml, hown, hts⟩ (k_C_Bits_takeNumber l dC dI cI cZ cJ cb_a v_a v_b lk_w H.size hf1) (va_cwU 0 hts (gU t_463 t_465 t_466 t_464 t_57 t_468) rfl rfl rfl rfl hd_Bits_takeNumber.2 ⟨Nat.le_trans (Nat.le_of_ble_eq_true rfl) hRf, Nat.le_trans (Nat.le_of_ble_eq_true rfl) hRl⟩) ⟨kP_blind, va_recv hK hP (ci := 3) (q0 := 1) rfl rfl, kP_at hPc hK hDc hN⟩ rfl rfl hl.1 rfl (lv_room (Nat.le_of_ble_eq_true rfl)) d_Reader_takeSymbols_11 hRc) hS (fun q _ h => hFc q h) hFc (fun r9 u t H1 locs ht hvm hw hB hz1 hk1 hS => ?_)
  rw [hw]
  obtain ⟨hP, hD⟩ := kQ_join (wr := (wRd cI cZ cJ rd_a (cb_a 0) rd ++ wSy cI cZ cJ sy_a sy)) (w1 := (wCb cI cZ cJ cb_a lk_w v_a cb_4 ++ wBr cI cZ cJ v_a v_b v_5)) hP hD [1, 2, 3, 4] [0, 5, 6, 7, 8, 9, 10, 11, 12, 13, 14] rfl rfl (by decide) (by decide) ht hk1 hFc hB
  generalize H1 = H at hP hS ⊢
  have hP : va_P (dC, dI) vwCl (wRd cI cZ cJ rd_a (cb_a 0) rd ++ wCb cI cZ cJ cb_a lk_w v_a cb_4 ++ wBr cI cZ cJ v_a v_b v_5 ++ wSy cI cZ cJ sy_a sy) H := hP.sub [0, 11, 12, 13, 14, 1, 2, 3, 4, 5, 6, 7, 8, 9, 10] rfl
  have hD : va_D A (wRd cI cZ cJ rd_a (cb_a 0) rd ++ wCb cI cZ cJ cb_a lk_w v_a cb_4 ++ wBr cI cZ cJ v_a v_b v_5 ++ wSy cI cZ cJ sy_a sy) := hD.sub [0, 11, 12, 13, 14, 1, 2, 3, 4, 5, 6, 7, 8, 9, 10] (by decide) rfl
  refine lv_istore_n (lv' := [(2, .int r_3), (0, .ref (rd_a 0)), (1, .ref (sy_a 0))]) hx hb d_Reader_takeSymbols_14 rfl hl (by decide) rfl (fun ls hl => ?_)
  refine lv_iload_n hx hb d_Reader_takeSymbols_15 rfl (lv_at hl 0 rfl) ?_
  refine lv_iconst (v := (-1)) hx hb d_Reader_takeSymbols_16 (by decide) ?_
  refine lv_icmp_ne (tgt := 27) hx hb d_Reader_takeSymbols_17 (by decide) (fun c_6 => ?_) (fun c_6 => ?_)
  · rw [if_neg c_6] at hf
    refine lv_iload_n hx hb d_Reader_takeSymbols_27 rfl (lv_at hl 0 rfl) ?_
    refine lv_bipush (v := 40) hx hb d_Reader_takeSymbols_28 (by decide) ?_
    refine lv_icmp_le (tgt := 39) hx hb d_Reader_takeSymbols_30 (by decide) (fun c_7 => ?_) (fun c_7 => ?_)
    · rw [if_pos c_7] at hf
      refine lv_aload_n hx hb d_Reader_takeSymbols_39 rfl (lv_at hl 1 rfl) ?_
      refine lv_iconst (v := 0) hx hb d_Reader_takeSymbols_40 (by decide) ?_
      refine va_put (D := (dC, dI)) (ci := 5) (v := .int 0) (ty := .int) (C := R_Reader) (T := T_Reader) (N := 5) hx hb hts in_Reader ty_Reader tyok_Reader nm_Reader hown hK hP hD hS 0 rfl rfl 3 (by decide) (hts _ t_187) (fun _ h9 => h9) rfl (by decide +kernel) rfl rfl (Nat.le_of_ble_eq_true rfl) d_Reader_takeSymbols_41 (fun H locs hP hD hS => ?_)
      obtain ⟨rd_8, erd_8, hf⟩ := lt_ex hf
      try dsimp only at hf
      have hP : va_P (dC, dI) vwCl (wRd cI cZ cJ rd_a (cb_a 0) rd_8 ++ wCb cI cZ cJ cb_a lk_w v_a cb_4 ++ wBr cI cZ cJ v_a v_b v_5 ++ wSy cI cZ cJ sy_a sy) H := by rw [erd_8]; exact hP
      have hD : va_D A (wRd cI cZ cJ rd_a (cb_a 0) rd_8 ++ wCb cI cZ cJ cb_a lk_w v_a cb_4 ++ wBr cI cZ cJ v_a v_b v_5 ++ wSy cI cZ cJ sy_a sy) := by rw [erd_8]; exact hD
      refine lv_aload_n hx hb d_Reader_takeSymbols_44 rfl (lv_at hl 1 rfl) ?_
      refine lv_iconst (v := 0) hx hb d_Reader_takeSymbols_45 (by decide) ?_
      refine va_put (D := (dC, dI)) (ci := 5) (v := .int 0) (ty := .int) (C := R_Reader) (T := T_Reader) (N := 5) hx hb hts in_Reader ty_Reader tyok_Reader nm_Reader hown hK hP hD hS 0 rfl rfl 4 (by decide) (hts _ t_188) (fun _ h9 => h9) rfl (by decide +kernel) rfl rfl (Nat.le_of_ble_eq_true rfl) d_Reader_takeSymbols_46 (fun H locs hP hD hS => ?_)
      obtain ⟨rd_10, erd_10, hf⟩ := lt_ex hf
      try dsimp only at hf
      have hP : va_P (dC, dI) vwCl (wRd cI cZ cJ rd_a (cb_a 0) rd_10 ++ wCb cI cZ cJ cb_a lk_w v_a cb_4 ++ wBr cI cZ cJ v_a v_b v_5 ++ wSy cI cZ cJ sy_a sy) H := by rw [erd_10]; exact hP
      have hD : va_D A (wRd cI cZ cJ rd_a (cb_a 0) rd_10 ++ wCb cI cZ cJ cb_a lk_w v_a cb_4 ++ wBr cI cZ cJ v_a v_b v_5 ++ wSy cI cZ cJ sy_a sy) := by rw [erd_10]; exact hD
      refine lv_iconst (v := 0) hx hb d_Reader_takeSymbols_49 (by decide) ?_
      refine lv_istore_n (lv' := [(3, .int 0), (2, .int r_3), (0, .ref (rd_a 0)), (1, .ref (sy_a 0))]) hx hb d_Reader_takeSymbols_50 rfl hl (by decide) rfl (fun ls hl => ?_)
      refine L_C_Reader_takeSymbols_51 C0 (fun H locs ls rd_49 cb_50 v_51 sy_52 hP hD hS hl hf => ?_) (fun H locs ls rd_53 cb_54 v_55 sy_56 hP hD hS hl hf => ?_) (fun H locs ls rd_57 cb_58 v_59 sy_60 hP hD hS hl hf => ?_) 100000 _ _ _ rd_10 cb_4 v_5 sy 0 hP hD hS (lv_sub hl [2, 3, 1, 0] rfl) hf
      · try dsimp only at hf
        refine lv_iconst (v := 0) hx hb d_Reader_takeSymbols_73 (by decide) ?_
        exact hr74 _ _ _ 0 rd_49 cb_50 v_51 sy_52 (by decide) hP hD hS hf
      · try dsimp only at hf
        refine lv_iconst (v := 0) hx hb d_Reader_takeSymbols_100 (by decide) ?_
        exact hr101 _ _ _ 0 rd_53 cb_54 v_55 sy_56 (by decide) hP hD hS hf
      · try dsimp only at hf
        refine lv_iload_n hx hb d_Reader_takeSymbols_108 rfl (lv_at hl 1 rfl) ?_
        refine lv_if_eq (tgt := 131) hx hb d_Reader_takeSymbols_109 (by decide) (fun c_61 => ?_) (fun c_61 => ?_)
        · rw [if_pos c_61] at hf
          refine lv_iconst (v := 1) hx hb d_Reader_takeSymbols_131 (by decide) ?_
          refine lv_goto (tgt := 136) hx hb d_Reader_takeSymbols_132 (by decide) ?_
          exact hr136 _ _ _ 1 rd_57 cb_58 v_59 sy_60 (by decide) hP hD hS hf
        · rw [if_neg c_61] at hf
          refine lv_aload_n hx hb d_Reader_takeSymbols_112 rfl (lv_at hl 0 rfl) ?_
          refine va_get (D := (dC, dI)) (ci := 5) (v := .ref (cb_a 0)) (C := R_Reader) (T := T_Reader) (N := 5) hx hb hts in_Reader hown hK hP 0 rfl rfl 1 (by decide) (hts _ t_185) (fun _ h9 => h9) rfl d_Reader_takeSymbols_113 ?_
          refine lv_iconst (v := (-1)) hx hb d_Reader_takeSymbols_116 (by decide) ?_
          obtain ⟨⟨r_62, cb_63, v_64⟩, hf1, hf⟩ := bd_ex hf
          try dsimp only at hf
          have hPc := hP.sub (ws' := (wCb cI cZ cJ cb_a lk_w v_a cb_58 ++ wBr cI cZ cJ v_a v_b v_59)) [1, 2, 3, 4] rfl
          have hDc := hD.sub (ws' := (wCb cI cZ cJ cb_a lk_w v_a cb_58 ++ wBr cI cZ cJ v_a v_b v_59)) [1, 2, 3, 4] (by decide) rfl
          have hFc := va_free (wc := (wCb cI cZ cJ cb_a lk_w v_a cb_58 ++ wBr cI cZ cJ v_a v_b v_59)) hD hS hA [1, 2, 3, 4] rfl
          refine va_calli (va_runU (As := [.int (-1)]) (rest := []) ⟨hx, hb, hml, hown, hts⟩ (k_C_ChanceBits_takeBit l dC dI cI cZ cJ cb_a v_a v_b lk_w H.size hf1) (va_cwA 1 hts (gU t_493 t_471 t_472 t_473 t_58 t_474) rfl rfl rfl (hN.2 _ (by decide +kernel)) hdx_Bits_takeBit ⟨Nat.le_trans (Nat.le_of_ble_eq_true rfl) hRf, Nat.le_trans (Nat.le_of_ble_eq_true rfl) hRl⟩) ⟨kP_blind, va_recv hK hP (ci := 3) (q0 := 1) rfl rfl, kP_at hPc hK hDc hN⟩ rfl rfl hl.1 rfl (lv_room (Nat.le_of_ble_eq_true rfl)) d_Reader_takeSymbols_117 hRc) hS (fun q _ h => hFc q h) hFc (fun r9 u t H1 locs ht hvm hw hB hz1 hk1 hS => ?_)
          rw [hw]
          obtain ⟨hP, hD⟩ := kQ_join (wr := (wRd cI cZ cJ rd_a (cb_a 0) rd_57 ++ wSy cI cZ cJ sy_a sy_60)) (w1 := (wCb cI cZ cJ cb_a lk_w v_a cb_63 ++ wBr cI cZ cJ v_a v_b v_64)) hP hD [1, 2, 3, 4] [0, 5, 6, 7, 8, 9, 10, 11, 12, 13, 14] rfl rfl (by decide) (by decide) ht hk1 hFc hB
          generalize H1 = H at hP hS ⊢
          have hP : va_P (dC, dI) vwCl (wRd cI cZ cJ rd_a (cb_a 0) rd_57 ++ wCb cI cZ cJ cb_a lk_w v_a cb_63 ++ wBr cI cZ cJ v_a v_b v_64 ++ wSy cI cZ cJ sy_a sy_60) H := hP.sub [0, 11, 12, 13, 14, 1, 2, 3, 4, 5, 6, 7, 8, 9, 10] rfl
          have hD : va_D A (wRd cI cZ cJ rd_a (cb_a 0) rd_57 ++ wCb cI cZ cJ cb_a lk_w v_a cb_63 ++ wBr cI cZ cJ v_a v_b v_64 ++ wSy cI cZ cJ sy_a sy_60) := hD.sub [0, 11, 12, 13, 14, 1, 2, 3, 4, 5, 6, 7, 8, 9, 10] (by decide) rfl
          refine lv_if_eq (tgt := 131) hx hb d_Reader_takeSymbols_120 (by decide) (fun c_65 => ?_) (fun c_65 => ?_)
          · rw [if_pos c_65] at hf
            refine lv_iconst (v := 1) hx hb d_Reader_takeSymbols_131 (by decide) ?_
            refine lv_goto (tgt := 136) hx hb d_Reader_takeSymbols_132 (by decide) ?_
            exact hr136 _ _ _ 1 rd_57 cb_63 v_64 sy_60 (by decide) hP hD hS hf
          · rw [if_neg c_65] at hf
            refine lv_aload_n hx hb d_Reader_takeSymbols_123 rfl (lv_at hl 0 rfl) ?_
            refine lv_iconst (v := 0) hx hb d_Reader_takeSymbols_124 (by decide) ?_
            obtain ⟨⟨r_66, rd_67⟩, hf1, hf⟩ := bd_ex hf
            try dsimp only at hf
            have hPc := hP.sub (ws' := (wRd cI cZ cJ rd_a (cb_a 0) rd_57)) [0] rfl
            have hDc := hD.sub (ws' := (wRd cI cZ cJ rd_a (cb_a 0) rd_57)) [0] (by decide) rfl
            have hFc := va_free (wc := (wRd cI cZ cJ rd_a (cb_a 0) rd_57)) hD hS hA [0] rfl
            refine va_calli (va_runV (As := [.int 0]) (rest := []) ⟨hx, hb, hml, hown, hts⟩ (k_C_Reader_refuse l dC dI cI cZ cJ rd_a (cb_a 0) H.size hf1) (cwV 1 hts (gV t_485 t_487 t_12 t_61 t_488) rfl rfl rfl hd_Reader_refuse ⟨Nat.le_trans (Nat.le_of_ble_eq_true rfl) hRf, Nat.le_trans (Nat.le_of_ble_eq_true rfl) hRl⟩) ⟨kP_blind, va_recv hK hP (ci := 5) (q0 := 0) rfl rfl, kP_at hPc hK hDc hN⟩ rfl rfl hl.1 rfl (lv_room (Nat.le_of_ble_eq_true rfl)) d_Reader_takeSymbols_125 hRc) hS (fun q _ h => hFc q h) hFc (fun r9 u t H1 locs ht hvm hw hB hz1 hk1 hS => ?_)
            rw [hw.1]
            obtain ⟨hP, hD⟩ := kQ_join (wr := (wCb cI cZ cJ cb_a lk_w v_a cb_63 ++ wBr cI cZ cJ v_a v_b v_64 ++ wSy cI cZ cJ sy_a sy_60)) (w1 := (wRd cI cZ cJ rd_a (cb_a 0) rd_67)) hP hD [0] [1, 2, 3, 4, 5, 6, 7, 8, 9, 10, 11, 12, 13, 14] rfl rfl (by decide) (by decide) ht hk1 hFc hB
            generalize H1 = H at hP hS ⊢
            have hP : va_P (dC, dI) vwCl (wRd cI cZ cJ rd_a (cb_a 0) rd_67 ++ wCb cI cZ cJ cb_a lk_w v_a cb_63 ++ wBr cI cZ cJ v_a v_b v_64 ++ wSy cI cZ cJ sy_a sy_60) H := hP.sub [14, 0, 1, 2, 3, 4, 5, 6, 7, 8, 9, 10, 11, 12, 13] rfl
            have hD : va_D A (wRd cI cZ cJ rd_a (cb_a 0) rd_67 ++ wCb cI cZ cJ cb_a lk_w v_a cb_63 ++ wBr cI cZ cJ v_a v_b v_64 ++ wSy cI cZ cJ sy_a sy_60) := hD.sub [14, 0, 1, 2, 3, 4, 5, 6, 7, 8, 9, 10, 11, 12, 13] (by decide) rfl
            refine lv_if_eq (tgt := 135) hx hb d_Reader_takeSymbols_128 (by decide) (fun c_68 => ?_) (fun c_68 => ?_)
            · rw [if_pos c_68] at hf
              refine lv_iconst (v := 0) hx hb d_Reader_takeSymbols_135 (by decide) ?_
              exact hr136 _ _ _ 0 rd_67 cb_63 v_64 sy_60 (by decide) hP hD hS hf
            · rw [if_neg c_68] at hf
              refine lv_iconst (v := 1) hx hb d_Reader_takeSymbols_131 (by decide) ?_
              refine lv_goto (tgt := 136) hx hb d_Reader_takeSymbols_132 (by decide) ?_
              exact hr136 _ _ _ 1 rd_67 cb_63 v_64 sy_60 (by decide) hP hD hS hf
    · rw [if_neg c_7] at hf
      refine lv_aload_n hx hb d_Reader_takeSymbols_33 rfl (lv_at hl 1 rfl) ?_
      refine lv_iconst (v := 0) hx hb d_Reader_takeSymbols_34 (by decide) ?_
      obtain ⟨⟨r_69, rd_70⟩, hf1, hf⟩ := bd_ex hf
      try dsimp only at hf
      have hPc := hP.sub (ws' := (wRd cI cZ cJ rd_a (cb_a 0) rd)) [0] rfl
      have hDc := hD.sub (ws' := (wRd cI cZ cJ rd_a (cb_a 0) rd)) [0] (by decide) rfl
      have hFc := va_free (wc := (wRd cI cZ cJ rd_a (cb_a 0) rd)) hD hS hA [0] rfl
      refine va_calli (va_runV (As := [.int 0]) (rest := []) ⟨hx, hb, hml, hown, hts⟩ (k_C_Reader_refuse l dC dI cI cZ cJ rd_a (cb_a 0) H.size hf1) (cwV 1 hts (gV t_485 t_487 t_12 t_61 t_488) rfl rfl rfl hd_Reader_refuse ⟨Nat.le_trans (Nat.le_of_ble_eq_true rfl) hRf, Nat.le_trans (Nat.le_of_ble_eq_true rfl) hRl⟩) ⟨kP_blind, va_recv hK hP (ci := 5) (q0 := 0) rfl rfl, kP_at hPc hK hDc hN⟩ rfl rfl hl.1 rfl (lv_room (Nat.le_of_ble_eq_true rfl)) d_Reader_takeSymbols_35 hRc) hS (fun q _ h => hFc q h) hFc (fun r9 u t H1 locs ht hvm hw hB hz1 hk1 hS => ?_)
      rw [hw.1]
      obtain ⟨hP, hD⟩ := kQ_join (wr := (wCb cI cZ cJ cb_a lk_w v_a cb_4 ++ wBr cI cZ cJ v_a v_b v_5 ++ wSy cI cZ cJ sy_a sy)) (w1 := (wRd cI cZ cJ rd_a (cb_a 0) rd_70)) hP hD [0] [1, 2, 3, 4, 5, 6, 7, 8, 9, 10, 11, 12, 13, 14] rfl rfl (by decide) (by decide) ht hk1 hFc hB
      generalize H1 = H at hP hS ⊢
      have hP : va_P (dC, dI) vwCl (wRd cI cZ cJ rd_a (cb_a 0) rd_70 ++ wCb cI cZ cJ cb_a lk_w v_a cb_4 ++ wBr cI cZ cJ v_a v_b v_5 ++ wSy cI cZ cJ sy_a sy) H := hP.sub [14, 0, 1, 2, 3, 4, 5, 6, 7, 8, 9, 10, 11, 12, 13] rfl
      have hD : va_D A (wRd cI cZ cJ rd_a (cb_a 0) rd_70 ++ wCb cI cZ cJ cb_a lk_w v_a cb_4 ++ wBr cI cZ cJ v_a v_b v_5 ++ wSy cI cZ cJ sy_a sy) := hD.sub [14, 0, 1, 2, 3, 4, 5, 6, 7, 8, 9, 10, 11, 12, 13] (by decide) rfl
      obtain ⟨h_z, hf⟩ := gd_ex hf
      exact hr38 _ _ _ r_69  rd_70 cb_4 v_5 sy (of_decide_eq_true h_z) hP hD hS hf
  · rw [if_pos c_6] at hf
    refine lv_aload_n hx hb d_Reader_takeSymbols_20 rfl (lv_at hl 1 rfl) ?_
    refine lv_bipush (v := 7) hx hb d_Reader_takeSymbols_21 (by decide) ?_
    obtain ⟨⟨r_71, rd_72⟩, hf1, hf⟩ := bd_ex hf
    try dsimp only at hf
    have hPc := hP.sub (ws' := (wRd cI cZ cJ rd_a (cb_a 0) rd)) [0] rfl
    have hDc := hD.sub (ws' := (wRd cI cZ cJ rd_a (cb_a 0) rd)) [0] (by decide) rfl
    have hFc := va_free (wc := (wRd cI cZ cJ rd_a (cb_a 0) rd)) hD hS hA [0] rfl
    refine va_calli (va_runV (As := [.int 7]) (rest := []) ⟨hx, hb, hml, hown, hts⟩ (k_C_Reader_refuse l dC dI cI cZ cJ rd_a (cb_a 0) H.size hf1) (cwV 1 hts (gV t_485 t_487 t_12 t_61 t_488) rfl rfl rfl hd_Reader_refuse ⟨Nat.le_trans (Nat.le_of_ble_eq_true rfl) hRf, Nat.le_trans (Nat.le_of_ble_eq_true rfl) hRl⟩) ⟨kP_blind, va_recv hK hP (ci := 5) (q0 := 0) rfl rfl, kP_at hPc hK hDc hN⟩ rfl rfl hl.1 rfl (lv_room (Nat.le_of_ble_eq_true rfl)) d_Reader_takeSymbols_23 hRc) hS (fun q _ h => hFc q h) hFc (fun r9 u t H1 locs ht hvm hw hB hz1 hk1 hS => ?_)
    rw [hw.1]
    obtain ⟨hP, hD⟩ := kQ_join (wr := (wCb cI cZ cJ cb_a lk_w v_a cb_4 ++ wBr cI cZ cJ v_a v_b v_5 ++ wSy cI cZ cJ sy_a sy)) (w1 := (wRd cI cZ cJ rd_a (cb_a 0) rd_72)) hP hD [0] [1, 2, 3, 4, 5, 6, 7, 8, 9, 10, 11, 12, 13, 14] rfl rfl (by decide) (by decide) ht hk1 hFc hB
    generalize H1 = H at hP hS ⊢
    have hP : va_P (dC, dI) vwCl (wRd cI cZ cJ rd_a (cb_a 0) rd_72 ++ wCb cI cZ cJ cb_a lk_w v_a cb_4 ++ wBr cI cZ cJ v_a v_b v_5 ++ wSy cI cZ cJ sy_a sy) H := hP.sub [14, 0, 1, 2, 3, 4, 5, 6, 7, 8, 9, 10, 11, 12, 13] rfl
    have hD : va_D A (wRd cI cZ cJ rd_a (cb_a 0) rd_72 ++ wCb cI cZ cJ cb_a lk_w v_a cb_4 ++ wBr cI cZ cJ v_a v_b v_5 ++ wSy cI cZ cJ sy_a sy) := hD.sub [14, 0, 1, 2, 3, 4, 5, 6, 7, 8, 9, 10, 11, 12, 13] (by decide) rfl
    obtain ⟨h_z, hf⟩ := gd_ex hf
    exact hr26 _ _ _ r_71  rd_72 cb_4 v_5 sy (of_decide_eq_true h_z) hP hD hS hf
end
set_option maxHeartbeats 4000000 in
set_option maxRecDepth 100000 in
theorem k_C_Reader_takeSymbols (l : Launch) (dC : Nat → ClassId) (dI : Nat → Nat → Nat) (cI cZ cJ : ClassId) (rd_a : Nat → Nat) (cb_a : Nat → Nat) (v_a v_b : Nat) (sy_a : Nat → Nat) (lk_w : Nat) (sz : Nat) {rd : Rd} {cb : Cb} {v : Br} {sy : Sy} {r : Int32} {rd' : Rd} {cb' : Cb} {v' : Br} {sy' : Sy} (hf : f_C_Reader_takeSymbols rd cb v sy = some (r, rd', cb', v', sy')) :
    Met l y_Reader_takeSymbols ws_Reader_takeSymbols ({ frames := 7, cells := 0, slots := 0, locals := 156 }) (va_Pc [.ref (rd_a 0), .ref (sy_a 0)] (kP (dC, dI) vwCl (TYS cI cZ cJ) (wRd cI cZ cJ rd_a (cb_a 0) rd ++ wCb cI cZ cJ cb_a lk_w v_a cb ++ wBr cI cZ cJ v_a v_b v ++ wSy cI cZ cJ sy_a sy) sz)) (va_Qi (fun (q : Int32) (_ : Unit) => q = r ∧ vp_nar .boolean r = r) (fun _ t => kQ (dC, dI) vwCl (TYS cI cZ cJ) (wRd cI cZ cJ rd_a (cb_a 0) rd ++ wCb cI cZ cJ cb_a lk_w v_a cb ++ wBr cI cZ cJ v_a v_b v ++ wSy cI cZ cJ sy_a sy) sz (wRd cI cZ cJ rd_a (cb_a 0) rd' ++ wCb cI cZ cJ cb_a lk_w v_a cb' ++ wBr cI cZ cJ v_a v_b v' ++ wSy cI cZ cJ sy_a sy') t) (va_A (wRd cI cZ cJ rd_a (cb_a 0) rd ++ wCb cI cZ cJ cb_a lk_w v_a cb ++ wBr cI cZ cJ v_a v_b v ++ wSy cI cZ cJ sy_a sy) sz)) 0 0 (va_A (wRd cI cZ cJ rd_a (cb_a 0) rd ++ wCb cI cZ cJ cb_a lk_w v_a cb ++ wBr cI cZ cJ v_a v_b v ++ wSy cI cZ cJ sy_a sy) sz) := by
  refine Met.ofW (cc := c_Reader_takeSymbols) (maxL := 4) (ret := (some .boolean)) (by decide) rfl ?_
  intro p e s m args below meth c s₁ B hml hv
  obtain ⟨rfl, hsz, hP, hK, hD0, hN⟩ := hv
  have hr := B.returns
  have hlocks := B.notSynchronized
  subst hsz
  have hD := hD0.self (sz := s.heap.size)
  have hl := lv_entry ([.ref (rd_a 0), .ref (sy_a 0)]) (n := 4) (Nat.le_of_ble_eq_true rfl)
  rw [lg_entry_eq]
  generalize (lg_sl ([.ref (rd_a 0), .ref (sy_a 0)]) ++ List.replicate (4 - (lg_sl ([.ref (rd_a 0), .ref (sy_a 0)])).length) Slot.unset).toArray = ls at hl ⊢
  refine B_C_Reader_takeSymbols (A := va_A (wRd cI cZ cJ rd_a (cb_a 0) rd ++ wCb cI cZ cJ cb_a lk_w v_a cb ++ wBr cI cZ cJ v_a v_b v ++ wSy cI cZ cJ sy_a sy) s.heap.size) ⟨B.exec, B.bytes, hml, findClass_of_methodNamed B.named, fun w h => atoms_spec (ws := ws_Reader_takeSymbols) B.pre w (List.mem_cons_of_mem _ h), hK, fun q h => Or.inr h, Nat.le_of_ble_eq_true rfl, Nat.le_of_ble_eq_true rfl, hN, Nat.le_of_ble_eq_true rfl, Nat.le_of_ble_eq_true rfl⟩ (fun H locs ls v rd'1 cb'1 v'1 sy'1 hz hP hD hS hf => ?_) (fun H locs ls v rd'1 cb'1 v'1 sy'1 hz hP hD hS hf => ?_) (fun H locs ls v rd'1 cb'1 v'1 sy'1 hz hP hD hS hf => ?_) (fun H locs ls v rd'1 cb'1 v'1 sy'1 hz hP hD hS hf => ?_) (fun H locs ls v rd'1 cb'1 v'1 sy'1 hz hP hD hS hf => ?_) hP hD va_S.rf hl hf
  · cases hf
    exact W.zret B.exec B.bytes hr (nz_n hz) (fun t ht hW => ⟨⟨_, (), rfl, ⟨rfl, hz⟩, ⟨by rw [ht]; exact hP, va_K.moved hW.alike hK, hD⟩⟩, hS.F ht⟩) hS.2.2 d_Reader_takeSymbols_26
  · cases hf
    exact W.zret B.exec B.bytes hr (nz_n hz) (fun t ht hW => ⟨⟨_, (), rfl, ⟨rfl, hz⟩, ⟨by rw [ht]; exact hP, va_K.moved hW.alike hK, hD⟩⟩, hS.F ht⟩) hS.2.2 d_Reader_takeSymbols_38
  · cases hf
    exact W.zret B.exec B.bytes hr (nz_n hz) (fun t ht hW => ⟨⟨_, (), rfl, ⟨rfl, hz⟩, ⟨by rw [ht]; exact hP, va_K.moved hW.alike hK, hD⟩⟩, hS.F ht⟩) hS.2.2 d_Reader_takeSymbols_74
  · cases hf
    exact W.zret B.exec B.bytes hr (nz_n hz) (fun t ht hW => ⟨⟨_, (), rfl, ⟨rfl, hz⟩, ⟨by rw [ht]; exact hP, va_K.moved hW.alike hK, hD⟩⟩, hS.F ht⟩) hS.2.2 d_Reader_takeSymbols_101
  · cases hf
    exact W.zret B.exec B.bytes hr (nz_n hz) (fun t ht hW => ⟨⟨_, (), rfl, ⟨rfl, hz⟩, ⟨by rw [ht]; exact hP, va_K.moved hW.alike hK, hD⟩⟩, hS.F ht⟩) hS.2.2 d_Reader_takeSymbols_136

/-! C_Reader_takeExports -/
def l_C_Reader_takeExports_77 (rd : Rd) (cb : Cb) (v : Br) (x2 : Int32) (x3 : Int32) (x4 : Int32) (x5 : Int32) (k100 : Sy → Option (Int32 × Rd × Cb × Br × Sy)) : Nat → Sy → Int32 → Option (Int32 × Rd × Cb × Br × Sy)
  | 0, _, _ => none
  | n + 1, sy, x6 => (if x5 ≤ x6 then k100 sy else gd (inb (x3 + x6) 40) <| lt' (Sy_s_ex sy (upd (Sy_ex sy) (x3 + x6).toNatClampNeg (vp_nar .boolean x2))) <| fun sy_21 => lt' (x6 + 1) <| fun x6_23 => (l_C_Reader_takeExports_77 rd cb v x2 x3 x4 x5 k100 n) sy_21 x6_23)
def j_C_Reader_takeExports_74_17 (rd : Rd) (sy : Sy) (x2 : Int32) (x3 : Int32) (x4 : Int32) (rc7 : Cb → Br → Sy → Int32 → Int32 → Int32 → Option (Int32 × Rd × Cb × Br × Sy)) (r_12 : Int32) (cb_13 : Cb) (v_14 : Br) : Option (Int32 × Rd × Cb × Br × Sy) := l_C_Reader_takeExports_77 rd cb_13 v_14 x2 x3 x4 r_12 (fun sy_24 => lt' (x3 + r_12) <| fun x3_25 => (if x2 = 0 then lt' (x4 + 1) <| fun x4_28 => rc7 cb_13 v_14 sy_24 1 x3_25 x4_28 else lt' (x4 + 1) <| fun x4_27 => rc7 cb_13 v_14 sy_24 0 x3_25 x4_27)) 100000 sy 0
def l_C_Reader_takeExports_7 (rd : Rd) (k39 : Cb → Br → Sy → Option (Int32 × Rd × Cb × Br × Sy)) (k67 : Cb → Br → Sy → Option (Int32 × Rd × Cb × Br × Sy)) (k121 : Cb → Br → Sy → Option (Int32 × Rd × Cb × Br × Sy)) : Nat → Cb → Br → Sy → Int32 → Int32 → Int32 → Option (Int32 × Rd × Cb × Br × Sy)
  | 0, _, _, _, _, _, _ => none
  | n + 1, cb, v, sy, x2, x3, x4 => (if (Sy_n sy) < x4 then k121 cb v sy else (if (Sy_n sy) ≤ x3 then k121 cb v sy else bd (f_C_Bits_takeNumber cb v) <| fun (r_12, cb_13, v_14) => (if r_12 = (-1) then k39 cb_13 v_14 sy else (if ((Sy_n sy) - x3) < r_12 then k67 cb_13 v_14 sy else (if r_12 = 0 then (if x4 ≤ 0 then j_C_Reader_takeExports_74_17 rd sy x2 x3 x4 (l_C_Reader_takeExports_7 rd k39 k67 k121 n) r_12 cb_13 v_14 else k67 cb_13 v_14 sy) else j_C_Reader_takeExports_74_17 rd sy x2 x3 x4 (l_C_Reader_takeExports_7 rd k39 k67 k121 n) r_12 cb_13 v_14)))))
def f_C_Reader_takeExports (rd : Rd) (cb : Cb) (v : Br) (sy : Sy) : Option (Int32 × Rd × Cb × Br × Sy) := l_C_Reader_takeExports_7 rd (fun cb_31 v_32 sy_33 => bd (f_C_Reader_refuse rd 7) <| fun (r_40, rd_41) => gd (decide (vp_nar .boolean r_40 = r_40)) <| some (r_40, rd_41, cb_31, v_32, sy_33)) (fun cb_34 v_35 sy_36 => bd (f_C_Reader_refuse rd 6) <| fun (r_42, rd_43) => gd (decide (vp_nar .boolean r_42 = r_42)) <| some (r_42, rd_43, cb_34, v_35, sy_36)) (fun cb_37 v_38 sy_39 => some (1, rd, cb_37, v_38, sy_39)) 100000 cb v sy 0 0 0
section
variable {p : Program} {l : Launch} {e : Env} {R : Room} {s : State} {m : MethodId} {args : Array Value} {below : List Frame} {meth : Method} {c : Code} {Q : State → Prop} {A : Nat → Prop}
set_option maxHeartbeats 4000000 in
set_option maxRecDepth 100000 in
theorem L_C_Reader_takeExports_77 {cells slots : Nat} {dC : Nat → ClassId} {dI : Nat → Nat → Nat} {cI cZ cJ : ClassId} {rd_a : Nat → Nat} {cb_a : Nat → Nat} {v_a v_b : Nat} {sy_a : Nat → Nat} {lk_w : Nat} {rd : Rd} {cb : Cb} {v : Br} {x2 : Int32} {x3 : Int32} {x4 : Int32} {x5 : Int32} {k100 : Sy → Option (Int32 × Rd × Cb × Br × Sy)} {res : Int32 × Rd × Cb × Br × Sy} (C0 : cxt p c m s args R cells slots R_Reader c_Reader_takeExports tb 7 (dC, dI) vwCl (TYS cI cZ cJ) A 5 112)
    (hk100 : ∀ (H : Heap) (locs : List Loc) (ls : Array Slot) (sy_18 : Sy), va_P (dC, dI) vwCl (wRd cI cZ cJ rd_a (cb_a 0) rd ++ wCb cI cZ cJ cb_a lk_w v_a cb ++ wBr cI cZ cJ v_a v_b v ++ wSy cI cZ cJ sy_a sy_18) H → va_D A (wRd cI cZ cJ rd_a (cb_a 0) rd ++ wCb cI cZ cJ cb_a lk_w v_a cb ++ wBr cI cZ cJ v_a v_b v ++ wSy cI cZ cJ sy_a sy_18) → va_S A s.heap H locs → lv_has ls 7 [(0, .ref (rd_a 0)), (1, .ref (sy_a 0)), (2, .int x2), (3, .int x3), (4, .int x4), (5, .int x5)] → k100 sy_18 = some res → W p l e R s m args below meth c H locs cells slots Q (F0 m 100 ls [])) :
    ∀ (n : Nat) (H : Heap) (locs : List Loc) (ls : Array Slot) (sy : Sy) (x6 : Int32), va_P (dC, dI) vwCl (wRd cI cZ cJ rd_a (cb_a 0) rd ++ wCb cI cZ cJ cb_a lk_w v_a cb ++ wBr cI cZ cJ v_a v_b v ++ wSy cI cZ cJ sy_a sy) H → va_D A (wRd cI cZ cJ rd_a (cb_a 0) rd ++ wCb cI cZ cJ cb_a lk_w v_a cb ++ wBr cI cZ cJ v_a v_b v ++ wSy cI cZ cJ sy_a sy) → va_S A s.heap H locs → lv_has ls 7 [(0, .ref (rd_a 0)), (1, .ref (sy_a 0)), (2, .int x2), (3, .int x3), (4, .int x4), (5, .int x5), (6, .int x6)] → l_C_Reader_takeExports_77 rd cb v x2 x3 x4 x5 k100 n sy x6 = some res → W p l e R s m args below meth c H locs cells slots Q (F0 m 77 ls []) := by
  obtain ⟨hx, hb, hml, hown, hts, hK, hA, hRf, hRl, hN, hRc⟩ := id C0
  intro n
  induction n with
  | zero =>
    intro H locs ls sy x6 hP hD hS hl hf
    exact absurd hf (by simp [l_C_Reader_takeExports_77])
  | succ n ih =>
    intro H locs ls sy x6 hP hD hS hl hf
    rw [l_C_Reader_takeExports_77] at hf
    refine lv_iload hx hb d_Reader_takeExports_77 (lv_at hl 6 rfl) ?_
    refine lv_iload hx hb d_Reader_takeExports_79 (lv_at hl 5 rfl) ?_
    refine lv_icmp_ge (tgt := 100) hx hb d_Reader_takeExports_81 (by decide) (fun c_19 => ?_) (fun c_19 => ?_)
    · rw [if_pos c_19] at hf
      exact hk100 _ _ _ sy hP hD hS (lv_sub hl [0, 1, 2, 3, 4, 5] rfl) hf
    · rw [if_neg c_19] at hf
      refine lv_aload_n hx hb d_Reader_takeExports_84 rfl (lv_at hl 1 rfl) ?_
      refine va_get (D := (dC, dI)) (ci := 0) (v := .ref (sy_a 3)) (C := R_Symbols) (T := T_Symbols) (N := 10) hx hb hts in_Symbols hown hK hP 5 rfl rfl 2 (by decide) (hts _ t_215) (fun _ h9 => h9) rfl d_Reader_takeExports_85 ?_
      refine lv_iload_n hx hb d_Reader_takeExports_88 rfl (lv_at hl 3 rfl) ?_
      refine lv_iload hx hb d_Reader_takeExports_89 (lv_at hl 6 rfl) ?_
      refine lv_iadd hx hb d_Reader_takeExports_91 ?_
      refine lv_iload_n hx hb d_Reader_takeExports_92 rfl (lv_at hl 2 rfl) ?_
      obtain ⟨h_20, hf⟩ := gd_ex hf
      refine va_zast (f := Sy_ex sy) hx hb hK hP hD hS 8 1 rfl rfl (inb_in h_20) d_Reader_takeExports_93 (fun H locs hP hD hS => ?_)
      obtain ⟨sy_21, esy_21, hf⟩ := lt_ex hf
      try dsimp only at hf
      have hP : va_P (dC, dI) vwCl (wRd cI cZ cJ rd_a (cb_a 0) rd ++ wCb cI cZ cJ cb_a lk_w v_a cb ++ wBr cI cZ cJ v_a v_b v ++ wSy cI cZ cJ sy_a sy_21) H := by rw [esy_21]; exact hP
      have hD : va_D A (wRd cI cZ cJ rd_a (cb_a 0) rd ++ wCb cI cZ cJ cb_a lk_w v_a cb ++ wBr cI cZ cJ v_a v_b v ++ wSy cI cZ cJ sy_a sy_21) := by rw [esy_21]; exact hD
      obtain ⟨x6_23, ex6_23, hf⟩ := lt_ex hf
      try dsimp only at hf
      refine lv_iinc (v := x6_23) (lv' := [(6, .int x6_23), (0, .ref (rd_a 0)), (1, .ref (sy_a 0)), (2, .int x2), (3, .int x3), (4, .int x4), (5, .int x5)]) hx hb d_Reader_takeExports_94 hl (k := 6) rfl (by rw [ex6_23]; rfl) (by decide) rfl (fun ls hl => ?_)
      refine lv_goto (tgt := 77) hx hb d_Reader_takeExports_97 (by decide) ?_
      exact ih _ _ _ sy_21 x6_23 hP hD hS (lv_sub hl [1, 2, 3, 4, 5, 6, 0] rfl) hf
set_option maxHeartbeats 4000000 in
set_option maxRecDepth 100000 in
theorem L_C_Reader_takeExports_7 {cells slots : Nat} {dC : Nat → ClassId} {dI : Nat → Nat → Nat} {cI cZ cJ : ClassId} {rd_a : Nat → Nat} {cb_a : Nat → Nat} {v_a v_b : Nat} {sy_a : Nat → Nat} {lk_w : Nat} {rd : Rd} {k39 : Cb → Br → Sy → Option (Int32 × Rd × Cb × Br × Sy)} {k67 : Cb → Br → Sy → Option (Int32 × Rd × Cb × Br × Sy)} {k121 : Cb → Br → Sy → Option (Int32 × Rd × Cb × Br × Sy)} {res : Int32 × Rd × Cb × Br × Sy} (C0 : cxt p c m s args R cells slots R_Reader c_Reader_takeExports tb 7 (dC, dI) vwCl (TYS cI cZ cJ) A 5 112)
    (hk39 : ∀ (H : Heap) (locs : List Loc) (ls : Array Slot) (cb_1 : Cb) (v_2 : Br) (sy_3 : Sy), va_P (dC, dI) vwCl (wRd cI cZ cJ rd_a (cb_a 0) rd ++ wCb cI cZ cJ cb_a lk_w v_a cb_1 ++ wBr cI cZ cJ v_a v_b v_2 ++ wSy cI cZ cJ sy_a sy_3) H → va_D A (wRd cI cZ cJ rd_a (cb_a 0) rd ++ wCb cI cZ cJ cb_a lk_w v_a cb_1 ++ wBr cI cZ cJ v_a v_b v_2 ++ wSy cI cZ cJ sy_a sy_3) → va_S A s.heap H locs → lv_has ls 7 [(0, .ref (rd_a 0))] → k39 cb_1 v_2 sy_3 = some res → W p l e R s m args below meth c H locs cells slots Q (F0 m 39 ls []))
    (hk67 : ∀ (H : Heap) (locs : List Loc) (ls : Array Slot) (cb_4 : Cb) (v_5 : Br) (sy_6 : Sy), va_P (dC, dI) vwCl (wRd cI cZ cJ rd_a (cb_a 0) rd ++ wCb cI cZ cJ cb_a lk_w v_a cb_4 ++ wBr cI cZ cJ v_a v_b v_5 ++ wSy cI cZ cJ sy_a sy_6) H → va_D A (wRd cI cZ cJ rd_a (cb_a 0) rd ++ wCb cI cZ cJ cb_a lk_w v_a cb_4 ++ wBr cI cZ cJ v_a v_b v_5 ++ wSy cI cZ cJ sy_a sy_6) → va_S A s.heap H locs → lv_has ls 7 [(0, .ref (rd_a 0))] → k67 cb_4 v_5 sy_6 = some res → W p l e R s m args below meth c H locs cells slots Q (F0 m 67 ls []))
    (hk121 : ∀ (H : Heap) (locs : List Loc) (ls : Array Slot) (cb_7 : Cb) (v_8 : Br) (sy_9 : Sy), va_P (dC, dI) vwCl (wRd cI cZ cJ rd_a (cb_a 0) rd ++ wCb cI cZ cJ cb_a lk_w v_a cb_7 ++ wBr cI cZ cJ v_a v_b v_8 ++ wSy cI cZ cJ sy_a sy_9) H → va_D A (wRd cI cZ cJ rd_a (cb_a 0) rd ++ wCb cI cZ cJ cb_a lk_w v_a cb_7 ++ wBr cI cZ cJ v_a v_b v_8 ++ wSy cI cZ cJ sy_a sy_9) → va_S A s.heap H locs → lv_has ls 7 [] → k121 cb_7 v_8 sy_9 = some res → W p l e R s m args below meth c H locs cells slots Q (F0 m 121 ls [])) :
    ∀ (n : Nat) (H : Heap) (locs : List Loc) (ls : Array Slot) (cb : Cb) (v : Br) (sy : Sy) (x2 : Int32) (x3 : Int32) (x4 : Int32), va_P (dC, dI) vwCl (wRd cI cZ cJ rd_a (cb_a 0) rd ++ wCb cI cZ cJ cb_a lk_w v_a cb ++ wBr cI cZ cJ v_a v_b v ++ wSy cI cZ cJ sy_a sy) H → va_D A (wRd cI cZ cJ rd_a (cb_a 0) rd ++ wCb cI cZ cJ cb_a lk_w v_a cb ++ wBr cI cZ cJ v_a v_b v ++ wSy cI cZ cJ sy_a sy) → va_S A s.heap H locs → lv_has ls 7 [(0, .ref (rd_a 0)), (1, .ref (sy_a 0)), (2, .int x2), (3, .int x3), (4, .int x4)] → l_C_Reader_takeExports_7 rd k39 k67 k121 n cb v sy x2 x3 x4 = some res → W p l e R s m args below meth c H locs cells slots Q (F0 m 7 ls []) := by
  obtain ⟨hx, hb, hml, hown, hts, hK, hA, hRf, hRl, hN, hRc⟩ := id C0
  intro n
  induction n with
  | zero =>
    intro H locs ls cb v sy x2 x3 x4 hP hD hS hl hf
    exact absurd hf (by simp [l_C_Reader_takeExports_7])
  | succ n ih =>
    intro H locs ls cb v sy x2 x3 x4 hP hD hS hl hf
    rw [l_C_Reader_takeExports_7] at hf
    refine lv_iload hx hb d_Reader_takeExports_7 (lv_at hl 4 rfl) ?_
    refine lv_aload_n hx hb d_Reader_takeExports_9 rfl (lv_at hl 1 rfl) ?_
    refine va_get (D := (dC, dI)) (ci := 0) (v := .int (Sy_n sy)) (C := R_Symbols) (T := T_Symbols) (N := 10) hx hb hts in_Symbols hown hK hP 5 rfl rfl 7 (by decide) (hts _ t_233) (fun _ h9 => h9) rfl d_Reader_takeExports_10 ?_
    refine lv_icmp_gt (tgt := 121) hx hb d_Reader_takeExports_13 (by decide) (fun c_10 => ?_) (fun c_10 => ?_)
    · rw [if_pos c_10] at hf
      exact hk121 _ _ _ cb v sy hP hD hS (lv_sub hl [] rfl) hf
    · rw [if_neg c_10] at hf
      refine lv_iload_n hx hb d_Reader_takeExports_16 rfl (lv_at hl 3 rfl) ?_
      refine lv_aload_n hx hb d_Reader_takeExports_17 rfl (lv_at hl 1 rfl) ?_
      refine va_get (D := (dC, dI)) (ci := 0) (v := .int (Sy_n sy)) (C := R_Symbols) (T := T_Symbols) (N := 10) hx hb hts in_Symbols hown hK hP 5 rfl rfl 7 (by decide) (hts _ t_233) (fun _ h9 => h9) rfl d_Reader_takeExports_18 ?_
      refine lv_icmp_ge (tgt := 121) hx hb d_Reader_takeExports_21 (by decide) (fun c_11 => ?_) (fun c_11 => ?_)
      · rw [if_pos c_11] at hf
        exact hk121 _ _ _ cb v sy hP hD hS (lv_sub hl [] rfl) hf
      · rw [if_neg c_11] at hf
        refine lv_aload_n hx hb d_Reader_takeExports_24 rfl (lv_at hl 0 rfl) ?_
        refine va_get (D := (dC, dI)) (ci := 5) (v := .ref (cb_a 0)) (C := R_Reader) (T := T_Reader) (N := 5) hx hb hts in_Reader hown hK hP 0 rfl rfl 1 (by decide) (hts _ t_185) (fun _ h9 => h9) rfl d_Reader_takeExports_25 ?_
        obtain ⟨⟨r_12, cb_13, v_14⟩, hf1, hf⟩ := bd_ex hf
        try dsimp only at hf
        have hPc := hP.sub (ws' := (wCb cI cZ cJ cb_a lk_w v_a cb ++ wBr cI cZ cJ v_a v_b v)) [1, 2, 3, 4] rfl
        have hDc := hD.sub (ws' := (wCb cI cZ cJ cb_a lk_w v_a cb ++ wBr cI cZ cJ v_a v_b v)) [1, 2, 3, 4] (by decide) rfl
        have hFc := va_free (wc := (wCb cI cZ cJ cb_a lk_w v_a cb ++ wBr cI cZ cJ v_a v_b v)) hD hS hA [1, 2, 3, 4] rfl
        refine va_calli (va_runU (As := []) (rest := []) ⟨hx, hb, hml, hown, hts⟩ (k_C_Bits_takeNumber l dC dI cI cZ cJ cb_a v_a v_b lk_w H.size hf1) (va_cwU 0 hts (gU t_463 t_465 t_466 t_464 t_57 t_468) rfl rfl rfl rfl hd_Bits_takeNumber.2 ⟨Nat.le_trans (Nat.le_of_ble_eq_true rfl) hRf, Nat.le_trans (Nat.le_of_ble_eq_true rfl) hRl⟩) ⟨kP_blind, va_recv hK hP (ci := 3) (q0 := 1) rfl rfl, kP_at hPc hK hDc hN⟩ rfl rfl hl.1 rfl (lv_room (Nat.le_of_ble_eq_true rfl)) d_Reader_takeExports_28 hRc) hS (fun q _ h => hFc q h) hFc (fun r9 u t H1 locs ht hvm hw hB hz1 hk1 hS => ?_)
        rw [hw]
        obtain ⟨hP, hD⟩ := kQ_join (wr := (wRd cI cZ cJ rd_a (cb_a 0) rd ++ wSy cI cZ cJ sy_a sy)) (w1 := (wCb cI cZ cJ cb_a lk_w v_a cb_13 ++ wBr cI cZ cJ v_a v_b v_14)) hP hD [1, 2, 3, 4] [0, 5, 6, 7, 8, 9, 10, 11, 12, 13, 14] rfl rfl (by decide) (by decide) ht hk1 hFc hB
        generalize H1 = H at hP hS ⊢
        have hP : va_P (dC, dI) vwCl (wRd cI cZ cJ rd_a (cb_a 0) rd ++ wCb cI cZ cJ cb_a lk_w v_a cb_13 ++ wBr cI cZ cJ v_a v_b v_14 ++ wSy cI cZ cJ sy_a sy) H := hP.sub [0, 11, 12, 13, 14, 1, 2, 3, 4, 5, 6, 7, 8, 9, 10] rfl
        have hD : va_D A (wRd cI cZ cJ rd_a (cb_a 0) rd ++ wCb cI cZ cJ cb_a lk_w v_a cb_13 ++ wBr cI cZ cJ v_a v_b v_14 ++ wSy cI cZ cJ sy_a sy) := hD.sub [0, 11, 12, 13, 14, 1, 2, 3, 4, 5, 6, 7, 8, 9, 10] (by decide) rfl
        refine lv_istore (lv' := [(5, .int r_12), (0, .ref (rd_a 0)), (1, .ref (sy_a 0)), (2, .int x2), (3, .int x3), (4, .int x4)]) hx hb d_Reader_takeExports_31 hl (by decide) rfl (fun ls hl => ?_)
        refine lv_iload hx hb d_Reader_takeExports_33 (lv_at hl 0 rfl) ?_
        refine lv_iconst (v := (-1)) hx hb d_Reader_takeExports_35 (by decide) ?_
        refine lv_icmp_ne (tgt := 46) hx hb d_Reader_takeExports_36 (by decide) (fun c_15 => ?_) (fun c_15 => ?_)
        · rw [if_neg c_15] at hf
          refine lv_iload hx hb d_Reader_takeExports_46 (lv_at hl 0 rfl) ?_
          refine lv_aload_n hx hb d_Reader_takeExports_48 rfl (lv_at hl 2 rfl) ?_
          refine va_get (D := (dC, dI)) (ci := 0) (v := .int (Sy_n sy)) (C := R_Symbols) (T := T_Symbols) (N := 10) hx hb hts in_Symbols hown hK hP 5 rfl rfl 7 (by decide) (hts _ t_233) (fun _ h9 => h9) rfl d_Reader_takeExports_49 ?_
          refine lv_iload_n hx hb d_Reader_takeExports_52 rfl (lv_at hl 4 rfl) ?_
          refine lv_isub hx hb d_Reader_takeExports_53 ?_
          refine lv_icmp_gt (tgt := 67) hx hb d_Reader_takeExports_54 (by decide) (fun c_16 => ?_) (fun c_16 => ?_)
          · rw [if_pos c_16] at hf
            exact hk67 _ _ _ cb_13 v_14 sy hP hD hS (lv_sub hl [1] rfl) hf
          · rw [if_neg c_16] at hf
            refine lv_iload hx hb d_Reader_takeExports_57 (lv_at hl 0 rfl) ?_
            have J74_16 : ∀ (H : Heap) (locs : List Loc) (ls : Array Slot), va_P (dC, dI) vwCl (wRd cI cZ cJ rd_a (cb_a 0) rd ++ wCb cI cZ cJ cb_a lk_w v_a cb_13 ++ wBr cI cZ cJ v_a v_b v_14 ++ wSy cI cZ cJ sy_a sy) H → va_D A (wRd cI cZ cJ rd_a (cb_a 0) rd ++ wCb cI cZ cJ cb_a lk_w v_a cb_13 ++ wBr cI cZ cJ v_a v_b v_14 ++ wSy cI cZ cJ sy_a sy) → va_S A s.heap H locs → lv_has ls 7 [(0, .ref (rd_a 0)), (1, .ref (sy_a 0)), (2, .int x2), (3, .int x3), (4, .int x4), (5, .int r_12)] → j_C_Reader_takeExports_74_17 rd sy x2 x3 x4 (l_C_Reader_takeExports_7 rd k39 k67 k121 n) r_12 cb_13 v_14 = some res → W p l e R s m args below meth c H locs cells slots Q (F0 m 74 ls []) := by
              intro H locs ls hP hD hS hl hf
              rw [j_C_Reader_takeExports_74_17] at hf
              refine lv_iconst (v := 0) hx hb d_Reader_takeExports_74 (by decide) ?_
              refine lv_istore (lv' := [(6, .int 0), (0, .ref (rd_a 0)), (1, .ref (sy_a 0)), (2, .int x2), (3, .int x3), (4, .int x4), (5, .int r_12)]) hx hb d_Reader_takeExports_75 hl (by decide) rfl (fun ls hl => ?_)
              refine L_C_Reader_takeExports_77 C0 (fun H locs ls sy_24 hP hD hS hl hf => ?_) 100000 _ _ _ sy 0 hP hD hS (lv_sub hl [1, 2, 3, 4, 5, 6, 0] rfl) hf
              try dsimp only at hf
              refine lv_iload_n hx hb d_Reader_takeExports_100 rfl (lv_at hl 3 rfl) ?_
              refine lv_iload hx hb d_Reader_takeExports_101 (lv_at hl 5 rfl) ?_
              refine lv_iadd hx hb d_Reader_takeExports_103 ?_
              obtain ⟨x3_25, ex3_25, hf⟩ := lt_ex hf
              try dsimp only at hf
              refine tp_i ex3_25 ?_
              refine lv_istore_n (lv' := [(3, .int x3_25), (0, .ref (rd_a 0)), (1, .ref (sy_a 0)), (2, .int x2), (4, .int x4), (5, .int r_12)]) hx hb d_Reader_takeExports_104 rfl hl (by decide) rfl (fun ls hl => ?_)
              refine lv_iload_n hx hb d_Reader_takeExports_105 rfl (lv_at hl 3 rfl) ?_
              refine lv_if_ne (tgt := 113) hx hb d_Reader_takeExports_106 (by decide) (fun c_26 => ?_) (fun c_26 => ?_)
              · rw [if_neg c_26] at hf
                refine lv_iconst (v := 0) hx hb d_Reader_takeExports_113 (by decide) ?_
                refine lv_istore_n (lv' := [(2, .int 0), (3, .int x3_25), (0, .ref (rd_a 0)), (1, .ref (sy_a 0)), (4, .int x4), (5, .int r_12)]) hx hb d_Reader_takeExports_114 rfl hl (by decide) rfl (fun ls hl => ?_)
                obtain ⟨x4_27, ex4_27, hf⟩ := lt_ex hf
                try dsimp only at hf
                refine lv_iinc (v := x4_27) (lv' := [(4, .int x4_27), (2, .int 0), (3, .int x3_25), (0, .ref (rd_a 0)), (1, .ref (sy_a 0)), (5, .int r_12)]) hx hb d_Reader_takeExports_115 hl (k := 4) rfl (by rw [ex4_27]; rfl) (by decide) rfl (fun ls hl => ?_)
                refine lv_goto (tgt := 7) hx hb d_Reader_takeExports_118 (by decide) ?_
                exact ih _ _ _ cb_13 v_14 sy_24 0 x3_25 x4_27 hP hD hS (lv_sub hl [3, 4, 1, 2, 0] rfl) hf
              · rw [if_pos c_26] at hf
                refine lv_iconst (v := 1) hx hb d_Reader_takeExports_109 (by decide) ?_
                refine lv_goto (tgt := 114) hx hb d_Reader_takeExports_110 (by decide) ?_
                refine lv_istore_n (lv' := [(2, .int 1), (3, .int x3_25), (0, .ref (rd_a 0)), (1, .ref (sy_a 0)), (4, .int x4), (5, .int r_12)]) hx hb d_Reader_takeExports_114 rfl hl (by decide) rfl (fun ls hl => ?_)
                obtain ⟨x4_28, ex4_28, hf⟩ := lt_ex hf
                try dsimp only at hf
                refine lv_iinc (v := x4_28) (lv' := [(4, .int x4_28), (2, .int 1), (3, .int x3_25), (0, .ref (rd_a 0)), (1, .ref (sy_a 0)), (5, .int r_12)]) hx hb d_Reader_takeExports_115 hl (k := 4) rfl (by rw [ex4_28]; rfl) (by decide) rfl (fun ls hl => ?_)
                refine lv_goto (tgt := 7) hx hb d_Reader_takeExports_118 (by decide) ?_
                exact ih _ _ _ cb_13 v_14 sy_24 1 x3_25 x4_28 hP hD hS (lv_sub hl [3, 4, 1, 2, 0] rfl) hf
            refine lv_if_ne (tgt := 74) hx hb d_Reader_takeExports_59 (by decide) (fun c_29 => ?_) (fun c_29 => ?_)
            · rw [if_neg c_29] at hf
              exact J74_16 _ _ _  hP hD hS (lv_sub hl [1, 2, 3, 4, 5, 0] rfl) hf
            · rw [if_pos c_29] at hf
              refine lv_iload hx hb d_Reader_takeExports_62 (lv_at hl 5 rfl) ?_
              refine lv_if_le (tgt := 74) hx hb d_Reader_takeExports_64 (by decide) (fun c_30 => ?_) (fun c_30 => ?_)
              · rw [if_pos c_30] at hf
                exact J74_16 _ _ _  hP hD hS (lv_sub hl [1, 2, 3, 4, 5, 0] rfl) hf
              · rw [if_neg c_30] at hf
                exact hk67 _ _ _ cb_13 v_14 sy hP hD hS (lv_sub hl [1] rfl) hf
        · rw [if_pos c_15] at hf
          exact hk39 _ _ _ cb_13 v_14 sy hP hD hS (lv_sub hl [1] rfl) hf
set_option maxHeartbeats 4000000 in
set_option maxRecDepth 100000 in
theorem B_C_Reader_takeExports {cells slots : Nat} {dC : Nat → ClassId} {dI : Nat → Nat → Nat} {cI cZ cJ : ClassId} {rd_a : Nat → Nat} {cb_a : Nat → Nat} {v_a v_b : Nat} {sy_a : Nat → Nat} {lk_w : Nat} {rd : Rd} {cb : Cb} {v : Br} {sy : Sy} {res : Int32 × Rd × Cb × Br × Sy} (C0 : cxt p c m s args R cells slots R_Reader c_Reader_takeExports tb 7 (dC, dI) vwCl (TYS cI cZ cJ) A 5 112)
    (hr45 : ∀ (H : Heap) (locs : List Loc) (ls : Array Slot) (v : Int32) (rd' : Rd) (cb' : Cb) (v' : Br) (sy' : Sy), vp_nar .boolean v = v → va_P (dC, dI) vwCl (wRd cI cZ cJ rd_a (cb_a 0) rd' ++ wCb cI cZ cJ cb_a lk_w v_a cb' ++ wBr cI cZ cJ v_a v_b v' ++ wSy cI cZ cJ sy_a sy') H → va_D A (wRd cI cZ cJ rd_a (cb_a 0) rd' ++ wCb cI cZ cJ cb_a lk_w v_a cb' ++ wBr cI cZ cJ v_a v_b v' ++ wSy cI cZ cJ sy_a sy') → va_S A s.heap H locs → some (v, rd', cb', v', sy') = some res → W p l e R s m args below meth c H locs cells slots Q (F0 m 45 ls [.int v]))
    (hr73 : ∀ (H : Heap) (locs : List Loc) (ls : Array Slot) (v : Int32) (rd' : Rd) (cb' : Cb) (v' : Br) (sy' : Sy), vp_nar .boolean v = v → va_P (dC, dI) vwCl (wRd cI cZ cJ rd_a (cb_a 0) rd' ++ wCb cI cZ cJ cb_a lk_w v_a cb' ++ wBr cI cZ cJ v_a v_b v' ++ wSy cI cZ cJ sy_a sy') H → va_D A (wRd cI cZ cJ rd_a (cb_a 0) rd' ++ wCb cI cZ cJ cb_a lk_w v_a cb' ++ wBr cI cZ cJ v_a v_b v' ++ wSy cI cZ cJ sy_a sy') → va_S A s.heap H locs → some (v, rd', cb', v', sy') = some res → W p l e R s m args below meth c H locs cells slots Q (F0 m 73 ls [.int v]))
    (hr122 : ∀ (H : Heap) (locs : List Loc) (ls : Array Slot) (v : Int32) (rd' : Rd) (cb' : Cb) (v' : Br) (sy' : Sy), vp_nar .boolean v = v → va_P (dC, dI) vwCl (wRd cI cZ cJ rd_a (cb_a 0) rd' ++ wCb cI cZ cJ cb_a lk_w v_a cb' ++ wBr cI cZ cJ v_a v_b v' ++ wSy cI cZ cJ sy_a sy') H → va_D A (wRd cI cZ cJ rd_a (cb_a 0) rd' ++ wCb cI cZ cJ cb_a lk_w v_a cb' ++ wBr cI cZ cJ v_a v_b v' ++ wSy cI cZ cJ sy_a sy') → va_S A s.heap H locs → some (v, rd', cb', v', sy') = some res → W p l e R s m args below meth c H locs cells slots Q (F0 m 122 ls [.int v]))
    {H : Heap} {locs : List Loc} {ls : Array Slot} (hP : va_P (dC, dI) vwCl (wRd cI cZ cJ rd_a (cb_a 0) rd ++ wCb cI cZ cJ cb_a lk_w v_a cb ++ wBr cI cZ cJ v_a v_b v ++ wSy cI cZ cJ sy_a sy) H) (hD : va_D A (wRd cI cZ cJ rd_a (cb_a 0) rd ++ wCb cI cZ cJ cb_a lk_w v_a cb ++ wBr cI cZ cJ v_a v_b v ++ wSy cI cZ cJ sy_a sy)) (hS : va_S A s.heap H locs) (hl : lv_has ls 7 [(0, .ref (rd_a 0)), (1, .ref (sy_a 0))]) (hf : f_C_Reader_takeExports rd cb v sy = some res) : W p l e R s m args below meth c H locs cells slots Q (F0 m 0 ls []) := by
  obtain ⟨hx, hb, hml, hown, hts, hK, hA, hRf, hRl, hN, hRc⟩ := id C0
  rw [f_C_Reader_takeExports] at hf
  refine lv_iconst (v := 0) hx hb d_Reader_takeExports_0 (by decide) ?_
  refine lv_istore_n (lv' := [(2, .int 0), (0, .ref (rd_a 0)), (1, .ref (sy_a 0))]) hx hb d_Reader_takeExports_1 rfl hl (by decide) rfl (fun ls hl => ?_)
  refine lv_iconst (v := 0) hx hb d_Reader_takeExports_2 (by decide) ?_
  refine lv_istore_n (lv' := [(3, .int 0), (2, .int 0), (0, .ref (rd_a 0)), (1, .ref (sy_a 0))]) hx hb d_Reader_takeExports_3 rfl hl (by decide) rfl (fun ls hl => ?_)
  refine lv_iconst (v := 0) hx hb d_Reader_takeExports_4 (by decide) ?_
  refine lv_istore (lv' := [(4, .int 0), (3, .int 0), (2, .int 0), (0, .ref (rd_a 0)), (1, .ref (sy_a 0))]) hx hb d_Reader_takeExports_5 hl (by decide) rfl (fun ls hl => ?_)
  refine L_C_Reader_takeExports_7 C0 (fun H locs ls cb_31 v_32 sy_33 hP hD hS hl hf => ?_) (fun H locs ls cb_34 v_35 sy_36 hP hD hS hl hf => ?_) (fun H locs ls cb_37 v_38 sy_39 hP hD hS hl hf => ?_) 100000 _ _ _ cb v sy 0 0 0 hP hD hS (lv_sub hl [3, 4, 2, 1, 0] rfl) hf
  · try dsimp only at hf
    refine lv_aload_n hx hb d_Reader_takeExports_39 rfl (lv_at hl 0 rfl) ?_
    refine lv_bipush (v := 7) hx hb d_Reader_takeExports_40 (by decide) ?_
    obtain ⟨⟨r_40, rd_41⟩, hf1, hf⟩ := bd_ex hf
    try dsimp only at hf
    have hPc := hP.sub (ws' := (wRd cI cZ cJ rd_a (cb_a 0) rd)) [0] rfl
    have hDc := hD.sub (ws' := (wRd cI cZ cJ rd_a (cb_a 0) rd)) [0] (by decide) rfl
    have hFc := va_free (wc := (wRd cI cZ cJ rd_a (cb_a 0) rd)) hD hS hA [0] rfl
    refine va_calli (va_runV (As := [.int 7]) (rest := []) ⟨hx, hb, hml, hown, hts⟩ (k_C_Reader_refuse l dC dI cI cZ cJ rd_a (cb_a 0) H.size hf1) (cwV 1 hts (gV t_485 t_487 t_12 t_61 t_488) rfl rfl rfl hd_Reader_refuse ⟨Nat.le_trans (Nat.le_of_ble_eq_true rfl) hRf, Nat.le_trans (Nat.le_of_ble_eq_true rfl) hRl⟩) ⟨kP_blind, va_recv hK hP (ci := 5) (q0 := 0) rfl rfl, kP_at hPc hK hDc hN⟩ rfl rfl hl.1 rfl (lv_room (Nat.le_of_ble_eq_true rfl)) d_Reader_takeExports_42 hRc) hS (fun q _ h => hFc q h) hFc (fun r9 u t H1 locs ht hvm hw hB hz1 hk1 hS => ?_)
    rw [hw.1]
    obtain ⟨hP, hD⟩ := kQ_join (wr := (wCb cI cZ cJ cb_a lk_w v_a cb_31 ++ wBr cI cZ cJ v_a v_b v_32 ++ wSy cI cZ cJ sy_a sy_33)) (w1 := (wRd cI cZ cJ rd_a (cb_a 0) rd_41)) hP hD [0] [1, 2, 3, 4, 5, 6, 7, 8, 9, 10, 11, 12, 13, 14] rfl rfl (by decide) (by decide) ht hk1 hFc hB
    generalize H1 = H at hP hS ⊢
    have hP : va_P (dC, dI) vwCl (wRd cI cZ cJ rd_a (cb_a 0) rd_41 ++ wCb cI cZ cJ cb_a lk_w v_a cb_31 ++ wBr cI cZ cJ v_a v_b v_32 ++ wSy cI cZ cJ sy_a sy_33) H := hP.sub [14, 0, 1, 2, 3, 4, 5, 6, 7, 8, 9, 10, 11, 12, 13] rfl
    have hD : va_D A (wRd cI cZ cJ rd_a (cb_a 0) rd_41 ++ wCb cI cZ cJ cb_a lk_w v_a cb_31 ++ wBr cI cZ cJ v_a v_b v_32 ++ wSy cI cZ cJ sy_a sy_33) := hD.sub [14, 0, 1, 2, 3, 4, 5, 6, 7, 8, 9, 10, 11, 12, 13] (by decide) rfl
    obtain ⟨h_z, hf⟩ := gd_ex hf
    exact hr45 _ _ _ r_40  rd_41 cb_31 v_32 sy_33 (of_decide_eq_true h_z) hP hD hS hf
  · try dsimp only at hf
    refine lv_aload_n hx hb d_Reader_takeExports_67 rfl (lv_at hl 0 rfl) ?_
    refine lv_bipush (v := 6) hx hb d_Reader_takeExports_68 (by decide) ?_
    obtain ⟨⟨r_42, rd_43⟩, hf1, hf⟩ := bd_ex hf
    try dsimp only at hf
    have hPc := hP.sub (ws' := (wRd cI cZ cJ rd_a (cb_a 0) rd)) [0] rfl
    have hDc := hD.sub (ws' := (wRd cI cZ cJ rd_a (cb_a 0) rd)) [0] (by decide) rfl
    have hFc := va_free (wc := (wRd cI cZ cJ rd_a (cb_a 0) rd)) hD hS hA [0] rfl
    refine va_calli (va_runV (As := [.int 6]) (rest := []) ⟨hx, hb, hml, hown, hts⟩ (k_C_Reader_refuse l dC dI cI cZ cJ rd_a (cb_a 0) H.size hf1) (cwV 1 hts (gV t_485 t_487 t_12 t_61 t_488) rfl rfl rfl hd_Reader_refuse ⟨Nat.le_trans (Nat.le_of_ble_eq_true rfl) hRf, Nat.le_trans (Nat.le_of_ble_eq_true rfl) hRl⟩) ⟨kP_blind, va_recv hK hP (ci := 5) (q0 := 0) rfl rfl, kP_at hPc hK hDc hN⟩ rfl rfl hl.1 rfl (lv_room (Nat.le_of_ble_eq_true rfl)) d_Reader_takeExports_70 hRc) hS (fun q _ h => hFc q h) hFc (fun r9 u t H1 locs ht hvm hw hB hz1 hk1 hS => ?_)
    rw [hw.1]
    obtain ⟨hP, hD⟩ := kQ_join (wr := (wCb cI cZ cJ cb_a lk_w v_a cb_34 ++ wBr cI cZ cJ v_a v_b v_35 ++ wSy cI cZ cJ sy_a sy_36)) (w1 := (wRd cI cZ cJ rd_a (cb_a 0) rd_43)) hP hD [0] [1, 2, 3, 4, 5, 6, 7, 8, 9, 10, 11, 12, 13, 14] rfl rfl (by decide) (by decide) ht hk1 hFc hB
    generalize H1 = H at hP hS ⊢
    have hP : va_P (dC, dI) vwCl (wRd cI cZ cJ rd_a (cb_a 0) rd_43 ++ wCb cI cZ cJ cb_a lk_w v_a cb_34 ++ wBr cI cZ cJ v_a v_b v_35 ++ wSy cI cZ cJ sy_a sy_36) H := hP.sub [14, 0, 1, 2, 3, 4, 5, 6, 7, 8, 9, 10, 11, 12, 13] rfl
    have hD : va_D A (wRd cI cZ cJ rd_a (cb_a 0) rd_43 ++ wCb cI cZ cJ cb_a lk_w v_a cb_34 ++ wBr cI cZ cJ v_a v_b v_35 ++ wSy cI cZ cJ sy_a sy_36) := hD.sub [14, 0, 1, 2, 3, 4, 5, 6, 7, 8, 9, 10, 11, 12, 13] (by decide) rfl
    obtain ⟨h_z, hf⟩ := gd_ex hf
    exact hr73 _ _ _ r_42  rd_43 cb_34 v_35 sy_36 (of_decide_eq_true h_z) hP hD hS hf
  · try dsimp only at hf
    refine lv_iconst (v := 1) hx hb d_Reader_takeExports_121 (by decide) ?_
    exact hr122 _ _ _ 1 rd cb_37 v_38 sy_39 (by decide) hP hD hS hf
end
set_option maxHeartbeats 4000000 in
set_option maxRecDepth 100000 in
theorem k_C_Reader_takeExports (l : Launch) (dC : Nat → ClassId) (dI : Nat → Nat → Nat) (cI cZ cJ : ClassId) (rd_a : Nat → Nat) (cb_a : Nat → Nat) (v_a v_b : Nat) (sy_a : Nat → Nat) (lk_w : Nat) (sz : Nat) {rd : Rd} {cb : Cb} {v : Br} {sy : Sy} {r : Int32} {rd' : Rd} {cb' : Cb} {v' : Br} {sy' : Sy} (hf : f_C_Reader_takeExports rd cb v sy = some (r, rd', cb', v', sy')) :
    Met l y_Reader_takeExports ws_Reader_takeExports ({ frames := 5, cells := 0, slots := 0, locals := 112 }) (va_Pc [.ref (rd_a 0), .ref (sy_a 0)] (kP (dC, dI) vwCl (TYS cI cZ cJ) (wRd cI cZ cJ rd_a (cb_a 0) rd ++ wCb cI cZ cJ cb_a lk_w v_a cb ++ wBr cI cZ cJ v_a v_b v ++ wSy cI cZ cJ sy_a sy) sz)) (va_Qi (fun (q : Int32) (_ : Unit) => q = r ∧ vp_nar .boolean r = r) (fun _ t => kQ (dC, dI) vwCl (TYS cI cZ cJ) (wRd cI cZ cJ rd_a (cb_a 0) rd ++ wCb cI cZ cJ cb_a lk_w v_a cb ++ wBr cI cZ cJ v_a v_b v ++ wSy cI cZ cJ sy_a sy) sz (wRd cI cZ cJ rd_a (cb_a 0) rd' ++ wCb cI cZ cJ cb_a lk_w v_a cb' ++ wBr cI cZ cJ v_a v_b v' ++ wSy cI cZ cJ sy_a sy') t) (va_A (wRd cI cZ cJ rd_a (cb_a 0) rd ++ wCb cI cZ cJ cb_a lk_w v_a cb ++ wBr cI cZ cJ v_a v_b v ++ wSy cI cZ cJ sy_a sy) sz)) 0 0 (va_A (wRd cI cZ cJ rd_a (cb_a 0) rd ++ wCb cI cZ cJ cb_a lk_w v_a cb ++ wBr cI cZ cJ v_a v_b v ++ wSy cI cZ cJ sy_a sy) sz) := by
  refine Met.ofW (cc := c_Reader_takeExports) (maxL := 7) (ret := (some .boolean)) (by decide) rfl ?_
  intro p e s m args below meth c s₁ B hml hv
  obtain ⟨rfl, hsz, hP, hK, hD0, hN⟩ := hv
  have hr := B.returns
  have hlocks := B.notSynchronized
  subst hsz
  have hD := hD0.self (sz := s.heap.size)
  have hl := lv_entry ([.ref (rd_a 0), .ref (sy_a 0)]) (n := 7) (Nat.le_of_ble_eq_true rfl)
  rw [lg_entry_eq]
  generalize (lg_sl ([.ref (rd_a 0), .ref (sy_a 0)]) ++ List.replicate (7 - (lg_sl ([.ref (rd_a 0), .ref (sy_a 0)])).length) Slot.unset).toArray = ls at hl ⊢
  refine B_C_Reader_takeExports (A := va_A (wRd cI cZ cJ rd_a (cb_a 0) rd ++ wCb cI cZ cJ cb_a lk_w v_a cb ++ wBr cI cZ cJ v_a v_b v ++ wSy cI cZ cJ sy_a sy) s.heap.size) ⟨B.exec, B.bytes, hml, findClass_of_methodNamed B.named, fun w h => atoms_spec (ws := ws_Reader_takeExports) B.pre w (List.mem_cons_of_mem _ h), hK, fun q h => Or.inr h, Nat.le_of_ble_eq_true rfl, Nat.le_of_ble_eq_true rfl, hN, Nat.le_of_ble_eq_true rfl, Nat.le_of_ble_eq_true rfl⟩ (fun H locs ls v rd'1 cb'1 v'1 sy'1 hz hP hD hS hf => ?_) (fun H locs ls v rd'1 cb'1 v'1 sy'1 hz hP hD hS hf => ?_) (fun H locs ls v rd'1 cb'1 v'1 sy'1 hz hP hD hS hf => ?_) hP hD va_S.rf hl hf
  · cases hf
    exact W.zret B.exec B.bytes hr (nz_n hz) (fun t ht hW => ⟨⟨_, (), rfl, ⟨rfl, hz⟩, ⟨by rw [ht]; exact hP, va_K.moved hW.alike hK, hD⟩⟩, hS.F ht⟩) hS.2.2 d_Reader_takeExports_45
  · cases hf
    exact W.zret B.exec B.bytes hr (nz_n hz) (fun t ht hW => ⟨⟨_, (), rfl, ⟨rfl, hz⟩, ⟨by rw [ht]; exact hP, va_K.moved hW.alike hK, hD⟩⟩, hS.F ht⟩) hS.2.2 d_Reader_takeExports_73
  · cases hf
    exact W.zret B.exec B.bytes hr (nz_n hz) (fun t ht hW => ⟨⟨_, (), rfl, ⟨rfl, hz⟩, ⟨by rw [ht]; exact hP, va_K.moved hW.alike hK, hD⟩⟩, hS.F ht⟩) hS.2.2 d_Reader_takeExports_122

