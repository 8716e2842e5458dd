theorem t_441 : (.methodLink R_SD 155 y_Reader_takeSymbols : Cond) ∈ tb := List.mem_filter.mpr ⟨List.mem_of_getElem? (i := 441) (by decide +kernel), by decide +kernel⟩
theorem t_442 : (.instanceMethod y_Reader_takeSymbols : Cond) ∈ tb := List.mem_filter.mpr ⟨List.mem_of_getElem? (i := 442) (by decide +kernel), by decide +kernel⟩
theorem t_443 : (.selects R_Reader y_Reader_takeSymbols y_Reader_takeSymbols : Cond) ∈ tb := List.mem_filter.mpr ⟨List.mem_of_getElem? (i := 443) (by decide +kernel), by decide +kernel⟩
theorem t_444 : (.code y_Reader_takeSymbols c_Reader_takeSymbols 4 (some .boolean) : Cond) ∈ tb := List.mem_filter.mpr ⟨List.mem_of_getElem? (i := 444) (by decide +kernel), by decide +kernel⟩
theorem t_541 : (.methodLink R_SD 159 y_Reader_takeExports : Cond) ∈ tb := List.mem_filter.mpr ⟨List.mem_of_getElem? (i := 541) (by decide +kernel), by decide +kernel⟩
theorem t_542 : (.instanceMethod y_Reader_takeExports : Cond) ∈ tb := List.mem_filter.mpr ⟨List.mem_of_getElem? (i := 542) (by decide +kernel), by decide +kernel⟩
theorem t_543 : (.selects R_Reader y_Reader_takeExports y_Reader_takeExports : Cond) ∈ tb := List.mem_filter.mpr ⟨List.mem_of_getElem? (i := 543) (by decide +kernel), by decide +kernel⟩
theorem t_544 : (.code y_Reader_takeExports c_Reader_takeExports 7 (some .boolean) : Cond) ∈ tb := List.mem_filter.mpr ⟨List.mem_of_getElem? (i := 544) (by decide +kernel), by decide +kernel⟩
theorem t_184 : (.fieldLink R_SD 163 "SymbolDictionaries$Reader" "why" "I" : Cond) ∈ tb := List.mem_filter.mpr ⟨List.mem_of_getElem? (i := 184) (by decide +kernel), by decide +kernel⟩
abbrev ws_SD_read : List Cond := .code y_SD_read c_SD_read 3 (some .int) :: tb
theorem hd_SD_read : y_SD_read.cls = R_SD ∧ y_SD_read.cls ≠ "java/lang/invoke/MethodHandle" ∧ y_SD_read.cls ≠ "java/lang/invoke/VarHandle" ∧ (parseMethodDescriptor y_SD_read.desc).map (fun d => d.parameters.length) = some 0 := by decide +kernel
theorem d_SD_read_0 : decode c_SD_read 0 = .ok (.aload_n 0, 1) := by decide +kernel
theorem d_SD_read_1 : decode c_SD_read 1 = .ok (.getfield 65, 3) := by decide +kernel
theorem d_SD_read_4 : decode c_SD_read 4 = .ok (.invokevirtual 152, 3) := by decide +kernel
theorem d_SD_read_7 : decode c_SD_read 7 = .ok (.aload_n 0, 1) := by decide +kernel
theorem d_SD_read_8 : decode c_SD_read 8 = .ok (.getfield 54, 3) := by decide +kernel
theorem d_SD_read_11 : decode c_SD_read 11 = .ok (.aload_n 0, 1) := by decide +kernel
theorem d_SD_read_12 : decode c_SD_read 12 = .ok (.getfield 65, 3) := by decide +kernel
theorem d_SD_read_15 : decode c_SD_read 15 = .ok (.invokevirtual 155, 3) := by decide +kernel
theorem d_SD_read_18 : decode c_SD_read 18 = .ok (.ifCond .eq 21, 3) := by decide +kernel
theorem d_SD_read_21 : decode c_SD_read 21 = .ok (.aload_n 0, 1) := by decide +kernel
theorem d_SD_read_22 : decode c_SD_read 22 = .ok (.getfield 54, 3) := by decide +kernel
theorem d_SD_read_25 : decode c_SD_read 25 = .ok (.aload_n 0, 1) := by decide +kernel
theorem d_SD_read_26 : decode c_SD_read 26 = .ok (.getfield 65, 3) := by decide +kernel
theorem d_SD_read_29 : decode c_SD_read 29 = .ok (.invokevirtual 159, 3) := by decide +kernel
theorem d_SD_read_32 : decode c_SD_read 32 = .ok (.ifCond .eq 7, 3) := by decide +kernel
theorem d_SD_read_35 : decode c_SD_read 35 = .ok (.iconst 1, 1) := by decide +kernel
theorem d_SD_read_36 : decode c_SD_read 36 = .ok (.goto 4, 3) := by decide +kernel
theorem d_SD_read_39 : decode c_SD_read 39 = .ok (.iconst 0, 1) := by decide +kernel
theorem d_SD_read_40 : decode c_SD_read 40 = .ok (.istore_n 1, 1) := by decide +kernel
theorem d_SD_read_41 : decode c_SD_read 41 = .ok (.aload_n 0, 1) := by decide +kernel
theorem d_SD_read_42 : decode c_SD_read 42 = .ok (.getfield 31, 3) := by decide +kernel
theorem d_SD_read_45 : decode c_SD_read 45 = .ok (.invokevirtual 162, 3) := by decide +kernel
theorem d_SD_read_48 : decode c_SD_read 48 = .ok (.iload_n 1, 1) := by decide +kernel
theorem d_SD_read_49 : decode c_SD_read 49 = .ok (.ifCond .ne 13, 3) := by decide +kernel
theorem d_SD_read_52 : decode c_SD_read 52 = .ok (.iconst (-1), 1) := by decide +kernel
theorem d_SD_read_53 : decode c_SD_read 53 = .ok (.aload_n 0, 1) := by decide +kernel
theorem d_SD_read_54 : decode c_SD_read 54 = .ok (.getfield 54, 3) := by decide +kernel
theorem d_SD_read_57 : decode c_SD_read 57 = .ok (.getfield 163, 3) := by decide +kernel
theorem d_SD_read_60 : decode c_SD_read 60 = .ok (.isub, 1) := by decide +kernel
theorem d_SD_read_61 : decode c_SD_read 61 = .ok (.ireturn, 1) := by decide +kernel
theorem d_SD_read_62 : decode c_SD_read 62 = .ok (.aload_n 0, 1) := by decide +kernel
theorem d_SD_read_63 : decode c_SD_read 63 = .ok (.getfield 61, 3) := by decide +kernel
theorem d_SD_read_66 : decode c_SD_read 66 = .ok (.astore_n 2, 1) := by decide +kernel
theorem d_SD_read_67 : decode c_SD_read 67 = .ok (.aload_n 0, 1) := by decide +kernel
theorem d_SD_read_68 : decode c_SD_read 68 = .ok (.aload_n 0, 1) := by decide +kernel
theorem d_SD_read_69 : decode c_SD_read 69 = .ok (.getfield 65, 3) := by decide +kernel
theorem d_SD_read_72 : decode c_SD_read 72 = .ok (.putfield 61, 3) := by decide +kernel
theorem d_SD_read_75 : decode c_SD_read 75 = .ok (.aload_n 0, 1) := by decide +kernel
theorem d_SD_read_76 : decode c_SD_read 76 = .ok (.aload_n 2, 1) := by decide +kernel
theorem d_SD_read_77 : decode c_SD_read 77 = .ok (.putfield 65, 3) := by decide +kernel
theorem d_SD_read_80 : decode c_SD_read 80 = .ok (.aload_n 0, 1) := by decide +kernel
theorem d_SD_read_81 : decode c_SD_read 81 = .ok (.getfield 61, 3) := by decide +kernel
theorem d_SD_read_84 : decode c_SD_read 84 = .ok (.getfield 75, 3) := by decide +kernel
theorem d_SD_read_87 : decode c_SD_read 87 = .ok (.ireturn, 1) := by decide +kernel
/-! P_SD_readN -/
def j_P_SD_readN_40_12 (rd_7 : Rd) (pb_8 : Pb) (v_9 : Br) (sp_10 : Sy) (z0_11 : Int32) : Option (Int32 × Rd × Pb × Br × Sy) := bd (f_ByteRow_removeAll v_9) <| fun v_13 => (if z0_11 = 0 then some ((-1) - (Rd_wy rd_7), rd_7, pb_8, v_13, sp_10) else none)
def f_P_SD_readN (sd : Sd) (rd : Rd) (pb : Pb) (v : Br) (cu : Sy) (sp : Sy) : Option (Int32 × Rd × Pb × Br × Sy) := bd (f_Symbols_removeAll sp) <| fun sp_1 => bd (f_P_Reader_takeSymbols rd pb v sp_1) <| fun (r_2, rd_3, pb_4, v_5, sp_6) => (if r_2 = 0 then j_P_SD_readN_40_12 rd_3 pb_4 v_5 sp_6 0 else bd (f_P_Reader_takeExports rd_3 pb_4 v_5 sp_6) <| fun (r_16, rd_17, pb_18, v_19, sp_20) => (if r_16 = 0 then j_P_SD_readN_40_12 rd_17 pb_18 v_19 sp_20 0 else j_P_SD_readN_40_12 rd_17 pb_18 v_19 sp_20 1))
section
variable {p : Program} {l : Launch} {e : Env} {R : Room} {s : State} {m : MethodId} {args : Array Value} {below : List Frame} {meth : Method} {c : Code} {Q : State → Prop} {A : Nat → Prop}
set_option maxHeartbeats 4000000 in
set_option maxRecDepth 100000 in
theorem B_P_SD_readN {cells slots : Nat} {dC : Nat → ClassId} {dI : Nat → Nat → Nat} {cI cZ cJ : ClassId} {sd_a : Nat → Nat} {rd_a : Nat → Nat} {pb_a : Nat → Nat} {v_a v_b : Nat} {cu_a : Nat → Nat} {sp_a : Nat → Nat} {lk_w : Nat} {lk_wr : Nat} {sd : Sd} {rd : Rd} {pb : Pb} {v : Br} {cu : Sy} {sp : Sy} {res : Int32 × Rd × Pb × Br × Sy} (C0 : cxt p c m s args R cells slots R_SD c_SD_read tb 3 (dC, dI) vwCl (TYS cI cZ cJ) A 7 153)
    (hr61 : ∀ (H : Heap) (locs : List Loc) (ls : Array Slot) (v : Int32) (rd' : Rd) (pb' : Pb) (v' : Br) (sp' : Sy), va_P (dC, dI) vwCl (wSd cI cZ cJ sd_a lk_w v_a lk_wr (rd_a 0) (cu_a 0) (sp_a 0) sd ++ wRd cI cZ cJ rd_a (pb_a 0) rd' ++ wPb cI cZ cJ pb_a lk_w v_a pb' ++ wBr cI cZ cJ v_a v_b v' ++ wSy cI cZ cJ cu_a cu ++ wSy cI cZ cJ sp_a sp') H → va_D A (wSd cI cZ cJ sd_a lk_w v_a lk_wr (rd_a 0) (cu_a 0) (sp_a 0) sd ++ wRd cI cZ cJ rd_a (pb_a 0) rd' ++ wPb cI cZ cJ pb_a lk_w v_a pb' ++ wBr cI cZ cJ v_a v_b v' ++ wSy cI cZ cJ cu_a cu ++ wSy cI cZ cJ sp_a sp') → va_S A s.heap H locs → some (v, rd', pb', v', sp') = some res → W p l e R s m args below meth c H locs cells slots Q (F0 m 61 ls [.int v]))
    {H : Heap} {locs : List Loc} {ls : Array Slot} (hP : va_P (dC, dI) vwCl (wSd cI cZ cJ sd_a lk_w v_a lk_wr (rd_a 0) (cu_a 0) (sp_a 0) sd ++ wRd cI cZ cJ rd_a (pb_a 0) rd ++ wPb cI cZ cJ pb_a lk_w v_a pb ++ wBr cI cZ cJ v_a v_b v ++ wSy cI cZ cJ cu_a cu ++ wSy cI cZ cJ sp_a sp) H) (hD : va_D A (wSd cI cZ cJ sd_a lk_w v_a lk_wr (rd_a 0) (cu_a 0) (sp_a 0) sd ++ wRd cI cZ cJ rd_a (pb_a 0) rd ++ wPb cI cZ cJ pb_a lk_w v_a pb ++ wBr cI cZ cJ v_a v_b v ++ wSy cI cZ cJ cu_a cu ++ wSy cI cZ cJ sp_a sp)) (hS : va_S A s.heap H locs) (hl : lv_has ls 3 [(0, .ref (sd_a 0))]) (hf : f_P_SD_readN sd rd pb v cu sp = some res) : W p l e R s m args below meth c H locs cells slots Q (F0 m 0 ls []) := by
  obtain ⟨hx, hb, hml, hown, hts, hK, hA, hRf, hRl, hN, hRc⟩ := id C0
  rw [f_P_SD_readN] at hf
  refine lv_aload_n hx hb d_SD_read_0 rfl (lv_at hl 0 rfl) ?_
  refine va_get (D := (dC, dI)) (ci := 6) (v := .ref (sp_a 0)) (C := R_SD) (T := T_SD) (N := 7) hx hb hts in_SD hown hK hP 0 rfl rfl 6 (by decide) (hts _ t_264) (fun _ h9 => h9) rfl d_SD_read_1 ?_
  obtain ⟨sp_1, hf1, hf⟩ := bd_ex hf
  try dsimp only at hf
  have hPc := hP.sub (ws' := (wSy cI cZ cJ sp_a sp)) [15, 16, 17, 18, 19, 20, 21, 22, 23, 24] rfl
  have hDc := hD.sub (ws' := (wSy cI cZ cJ sp_a sp)) [15, 16, 17, 18, 19, 20, 21, 22, 23, 24] (by decide) rfl
  have hFc := va_free (wc := (wSy cI cZ cJ sp_a sp)) hD hS hA [15, 16, 17, 18, 19, 20, 21, 22, 23, 24] rfl
  refine va_callv (va_runV (As := []) (rest := []) ⟨hx, hb, hml, hown, hts⟩ (k_Symbols_removeAll l dC dI cI cZ cJ sp_a H.size hf1) (cwV 0 hts (gV t_437 t_438 t_439 t_62 t_440) rfl rfl rfl hd_Symbols_removeAll ⟨Nat.le_trans (Nat.le_of_ble_eq_true rfl) hRf, Nat.le_trans (Nat.le_of_ble_eq_true rfl) hRl⟩) ⟨kP_blind, va_recv hK hP (ci := 0) (q0 := 15) rfl rfl, kP_at hPc hK hDc hN⟩ rfl rfl hl.1 rfl (lv_room (Nat.le_of_ble_eq_true rfl)) d_SD_read_4 hRc) hS (fun q _ h => hFc q h) hFc (fun u t H1 locs ht hvm hw hB hz1 hk1 hS => ?_)
  obtain ⟨hP, hD⟩ := kQ_join (wr := (wSd cI cZ cJ sd_a lk_w v_a lk_wr (rd_a 0) (cu_a 0) (sp_a 0) sd ++ wRd cI cZ cJ rd_a (pb_a 0) rd ++ wPb cI cZ cJ pb_a lk_w v_a pb ++ wBr cI cZ cJ v_a v_b v ++ wSy cI cZ cJ cu_a cu)) (w1 := (wSy cI cZ cJ sp_a sp_1)) hP hD [15, 16, 17, 18, 19, 20, 21, 22, 23, 24] [0, 1, 2, 3, 4, 5, 6, 7, 8, 9, 10, 11, 12, 13, 14] rfl rfl (by decide) (by decide) ht hk1 hFc hB
  generalize H1 = H at hP hS ⊢
  have hP : va_P (dC, dI) vwCl (wSd cI cZ cJ sd_a lk_w v_a lk_wr (rd_a 0) (cu_a 0) (sp_a 0) sd ++ wRd cI cZ cJ rd_a (pb_a 0) rd ++ wPb cI cZ cJ pb_a lk_w v_a pb ++ wBr cI cZ cJ v_a v_b v ++ wSy cI cZ cJ cu_a cu ++ wSy cI cZ cJ sp_a sp_1) H := hP.sub [0, 1, 2, 3, 4, 5, 6, 7, 8, 9, 10, 11, 12, 13, 14, 15, 16, 17, 18, 19, 20, 21, 22, 23, 24] rfl
  have hD : va_D A (wSd cI cZ cJ sd_a lk_w v_a lk_wr (rd_a 0) (cu_a 0) (sp_a 0) sd ++ wRd cI cZ cJ rd_a (pb_a 0) rd ++ wPb cI cZ cJ pb_a lk_w v_a pb ++ wBr cI cZ cJ v_a v_b v ++ wSy cI cZ cJ cu_a cu ++ wSy cI cZ cJ sp_a sp_1) := hD.sub [0, 1, 2, 3, 4, 5, 6, 7, 8, 9, 10, 11, 12, 13, 14, 15, 16, 17, 18, 19, 20, 21, 22, 23, 24] (by decide) rfl
  refine lv_aload_n hx hb d_SD_read_7 rfl (lv_at hl 0 rfl) ?_
  refine va_get (D := (dC, dI)) (ci := 6) (v := .ref (rd_a 0)) (C := R_SD) (T := T_SD) (N := 7) hx hb hts in_SD hown hK hP 0 rfl rfl 4 (by decide) (hts _ t_262) (fun _ h9 => h9) rfl d_SD_read_8 ?_
  refine lv_aload_n hx hb d_SD_read_11 rfl (lv_at hl 0 rfl) ?_
  refine va_get (D := (dC, dI)) (ci := 6) (v := .ref (sp_a 0)) (C := R_SD) (T := T_SD) (N := 7) hx hb hts in_SD hown hK hP 0 rfl rfl 6 (by decide) (hts _ t_264) (fun _ h9 => h9) rfl d_SD_read_12 ?_
  obtain ⟨⟨r_2, rd_3, pb_4, v_5, sp_6⟩, hf1, hf⟩ := bd_ex hf
  try dsimp only at hf
  have hPc := hP.sub (ws' := (wRd cI cZ cJ rd_a (pb_a 0) rd ++ wPb cI cZ cJ pb_a lk_w v_a pb ++ wBr cI cZ cJ v_a v_b v ++ wSy cI cZ cJ sp_a sp_1)) [1, 2, 3, 4, 15, 16, 17, 18, 19, 20, 21, 22, 23, 24] rfl
  have hDc := hD.sub (ws' := (wRd cI cZ cJ rd_a (pb_a 0) rd ++ wPb cI cZ cJ pb_a lk_w v_a pb ++ wBr cI cZ cJ v_a v_b v ++ wSy cI cZ cJ sp_a sp_1)) [1, 2, 3, 4, 15, 16, 17, 18, 19, 20, 21, 22, 23, 24] (by decide) rfl
  have hFc := va_free (wc := (wRd cI cZ cJ rd_a (pb_a 0) rd ++ wPb cI cZ cJ pb_a lk_w v_a pb ++ wBr cI cZ cJ v_a v_b v ++ wSy cI cZ cJ sp_a sp_1)) hD hS hA [1, 2, 3, 4, 15, 16, 17, 18, 19, 20, 21, 22, 23, 24] rfl
  refine va_calli (va_runV (As := [.ref (sp_a 0)]) (rest := []) ⟨hx, hb, hml, hown, hts⟩ (k_P_Reader_takeSymbols l dC dI cI cZ cJ rd_a pb_a v_a v_b sp_a lk_w H.size hf1) (cwV 1 hts (gV t_441 t_442 t_443 t_61 t_444) rfl rfl rfl hd_Reader_takeSymbols ⟨Nat.le_trans (Nat.le_of_ble_eq_true rfl) hRf, Nat.le_trans (Nat.le_of_ble_eq_true rfl) hRl⟩) ⟨kP_blind, va_recv hK hP (ci := 5) (q0 := 1) rfl rfl, kP_at hPc hK hDc hN⟩ rfl rfl hl.1 rfl (lv_room (Nat.le_of_ble_eq_true rfl)) d_SD_read_15 hRc) hS (fun q _ h => hFc q h) hFc (fun r9 u t H1 locs ht hvm hw hB hz1 hk1 hS => ?_)
  rw [hw.1]
  obtain ⟨hP, hD⟩ := kQ_join (wr := (wSd cI cZ cJ sd_a lk_w v_a lk_wr (rd_a 0) (cu_a 0) (sp_a 0) sd ++ wSy cI cZ cJ cu_a cu)) (w1 := (wRd cI cZ cJ rd_a (pb_a 0) rd_3 ++ wPb cI cZ cJ pb_a lk_w v_a pb_4 ++ wBr cI cZ cJ v_a v_b v_5 ++ wSy cI cZ cJ sp_a sp_6)) hP hD [1, 2, 3, 4, 15, 16, 17, 18, 19, 20, 21, 22, 23, 24] [0, 5, 6, 7, 8, 9, 10, 11, 12, 13, 14] rfl rfl (by decide) (by decide) ht hk1 hFc hB
  generalize H1 = H at hP hS ⊢
  have hP : va_P (dC, dI) vwCl (wSd cI cZ cJ sd_a lk_w v_a lk_wr (rd_a 0) (cu_a 0) (sp_a 0) sd ++ wRd cI cZ cJ rd_a (pb_a 0) rd_3 ++ wPb cI cZ cJ pb_a lk_w v_a pb_4 ++ wBr cI cZ cJ v_a v_b v_5 ++ wSy cI cZ cJ cu_a cu ++ wSy cI cZ cJ sp_a sp_6) H := hP.sub [0, 11, 12, 13, 14, 1, 2, 3, 4, 5, 6, 7, 8, 9, 10, 15, 16, 17, 18, 19, 20, 21, 22, 23, 24] rfl
  have hD : va_D A (wSd cI cZ cJ sd_a lk_w v_a lk_wr (rd_a 0) (cu_a 0) (sp_a 0) sd ++ wRd cI cZ cJ rd_a (pb_a 0) rd_3 ++ wPb cI cZ cJ pb_a lk_w v_a pb_4 ++ wBr cI cZ cJ v_a v_b v_5 ++ wSy cI cZ cJ cu_a cu ++ wSy cI cZ cJ sp_a sp_6) := hD.sub [0, 11, 12, 13, 14, 1, 2, 3, 4, 5, 6, 7, 8, 9, 10, 15, 16, 17, 18, 19, 20, 21, 22, 23, 24] (by decide) rfl
  have J40_11 : ∀ (H : Heap) (locs : List Loc) (ls : Array Slot) (rd_7 : Rd) (pb_8 : Pb) (v_9 : Br) (sp_10 : Sy) (z0_11 : Int32), va_P (dC, dI) vwCl (wSd cI cZ cJ sd_a lk_w v_a lk_wr (rd_a 0) (cu_a 0) (sp_a 0) sd ++ wRd cI cZ cJ rd_a (pb_a 0) rd_7 ++ wPb cI cZ cJ pb_a lk_w v_a pb_8 ++ wBr cI cZ cJ v_a v_b v_9 ++ wSy cI cZ cJ cu_a cu ++ wSy cI cZ cJ sp_a sp_10) H → va_D A (wSd cI cZ cJ sd_a lk_w v_a lk_wr (rd_a 0) (cu_a 0) (sp_a 0) sd ++ wRd cI cZ cJ rd_a (pb_a 0) rd_7 ++ wPb cI cZ cJ pb_a lk_w v_a pb_8 ++ wBr cI cZ cJ v_a v_b v_9 ++ wSy cI cZ cJ cu_a cu ++ wSy cI cZ cJ sp_a sp_10) → va_S A s.heap H locs → lv_has ls 3 [(0, .ref (sd_a 0))] → j_P_SD_readN_40_12 rd_7 pb_8 v_9 sp_10 z0_11 = some res → W p l e R s m args below meth c H locs cells slots Q (F0 m 40 ls [.int z0_11]) := by
    intro H locs ls rd_7 pb_8 v_9 sp_10 z0_11 hP hD hS hl hf
    rw [j_P_SD_readN_40_12] at hf
    refine lv_istore_n (lv' := [(1, .int z0_11), (0, .ref (sd_a 0))]) hx hb d_SD_read_40 rfl hl (by decide) rfl (fun ls hl => ?_)
    refine lv_aload_n hx hb d_SD_read_41 rfl (lv_at hl 1 rfl) ?_
    refine va_get (D := (dC, dI)) (ci := 6) (v := .ref v_a) (C := R_SD) (T := T_SD) (N := 7) hx hb hts in_SD hown hK hP 0 rfl rfl 2 (by decide) (hts _ t_260) (fun _ h9 => h9) rfl d_SD_read_42 ?_
    obtain ⟨v_13, hf1, hf⟩ := bd_ex hf
    try dsimp only at hf
    have hPc := hP.sub (ws' := (wBr cI cZ cJ v_a v_b v_9)) [3, 4] rfl
    have hDc := hD.sub (ws' := (wBr cI cZ cJ v_a v_b v_9)) [3, 4] (by decide) rfl
    have hFc := va_free (wc := (wBr cI cZ cJ v_a v_b v_9)) hD hS hA [3, 4] rfl
    refine va_callv (va_runV (As := []) (rest := []) ⟨hx, hb, hml, hown, hts⟩ (k_ByteRow_removeAll l dC dI cI cZ cJ v_a v_b H.size hf1) (cwV 0 hts (gV t_545 t_303 t_304 t_56 t_305) rfl rfl rfl hd_ByteRow_removeAll ⟨Nat.le_trans (Nat.le_of_ble_eq_true rfl) hRf, Nat.le_trans (Nat.le_of_ble_eq_true rfl) hRl⟩) ⟨kP_blind, va_recv hK hP (ci := 1) (q0 := 3) rfl rfl, kP_at hPc hK hDc hN⟩ rfl rfl hl.1 rfl (lv_room (Nat.le_of_ble_eq_true rfl)) d_SD_read_45 hRc) hS (fun q _ h => hFc q h) hFc (fun u t H1 locs ht hvm hw hB hz1 hk1 hS => ?_)
    obtain ⟨hP, hD⟩ := kQ_join (wr := (wSd cI cZ cJ sd_a lk_w v_a lk_wr (rd_a 0) (cu_a 0) (sp_a 0) sd ++ wRd cI cZ cJ rd_a (pb_a 0) rd_7 ++ wPb cI cZ cJ pb_a lk_w v_a pb_8 ++ wSy cI cZ cJ cu_a cu ++ wSy cI cZ cJ sp_a sp_10)) (w1 := (wBr cI cZ cJ v_a v_b v_13)) hP hD [3, 4] [0, 1, 2, 5, 6, 7, 8, 9, 10, 11, 12, 13, 14, 15, 16, 17, 18, 19, 20, 21, 22, 23, 24] rfl rfl (by decide) (by decide) ht hk1 hFc hB
    generalize H1 = H at hP hS ⊢
    have hP : va_P (dC, dI) vwCl (wSd cI cZ cJ sd_a lk_w v_a lk_wr (rd_a 0) (cu_a 0) (sp_a 0) sd ++ wRd cI cZ cJ rd_a (pb_a 0) rd_7 ++ wPb cI cZ cJ pb_a lk_w v_a pb_8 ++ wBr cI cZ cJ v_a v_b v_13 ++ wSy cI cZ cJ cu_a cu ++ wSy cI cZ cJ sp_a sp_10) H := hP.sub [0, 1, 2, 23, 24, 3, 4, 5, 6, 7, 8, 9, 10, 11, 12, 13, 14, 15, 16, 17, 18, 19, 20, 21, 22] rfl
    have hD : va_D A (wSd cI cZ cJ sd_a lk_w v_a lk_wr (rd_a 0) (cu_a 0) (sp_a 0) sd ++ wRd cI cZ cJ rd_a (pb_a 0) rd_7 ++ wPb cI cZ cJ pb_a lk_w v_a pb_8 ++ wBr cI cZ cJ v_a v_b v_13 ++ wSy cI cZ cJ cu_a cu ++ wSy cI cZ cJ sp_a sp_10) := hD.sub [0, 1, 2, 23, 24, 3, 4, 5, 6, 7, 8, 9, 10, 11, 12, 13, 14, 15, 16, 17, 18, 19, 20, 21, 22] (by decide) rfl
    refine lv_iload_n hx hb d_SD_read_48 rfl (lv_at hl 0 rfl) ?_
    refine lv_if_ne (tgt := 62) hx hb d_SD_read_49 (by decide) (fun c_14 => ?_) (fun c_14 => ?_)
    · rw [if_neg c_14] at hf
      refine lv_aload_n hx hb d_SD_read_62 rfl (lv_at hl 1 rfl) ?_
      refine va_get (D := (dC, dI)) (ci := 6) (v := .ref (cu_a 0)) (C := R_SD) (T := T_SD) (N := 7) hx hb hts in_SD hown hK hP 0 rfl rfl 5 (by decide) (hts _ t_263) (fun _ h9 => h9) rfl d_SD_read_63 ?_
      refine lv_astore_n (lv' := [(2, .ref (cu_a 0)), (1, .int z0_11), (0, .ref (sd_a 0))]) hx hb d_SD_read_66 rfl hl (by decide) rfl (fun ls hl => ?_)
      refine lv_aload_n hx hb d_SD_read_67 rfl (lv_at hl 2 rfl) ?_
      refine lv_aload_n hx hb d_SD_read_68 rfl (lv_at hl 2 rfl) ?_
      refine va_get (D := (dC, dI)) (ci := 6) (v := .ref (sp_a 0)) (C := R_SD) (T := T_SD) (N := 7) hx hb hts in_SD hown hK hP 0 rfl rfl 6 (by decide) (hts _ t_264) (fun _ h9 => h9) rfl d_SD_read_69 ?_
      refine va_put (D := (dC, dI)) (ci := 6) (v := .ref (sp_a 0)) (ty := (.object "SymbolDictionaries$Symbols")) (C := R_SD) (T := T_SD) (N := 7) hx hb hts in_SD ty_SD tyok_SD nm_SD hown hK hP hD hS 0 rfl rfl 5 (by decide) (hts _ t_263) (fun _ h9 => h9) rfl (by decide +kernel) rfl rfl (Nat.le_of_ble_eq_true rfl) d_SD_read_72 (fun H locs hP hD hS => ?_)
      have hP : va_P (dC, dI) vwCl (wSd cI cZ cJ sd_a lk_w v_a lk_wr (rd_a 0) (sp_a 0) (sp_a 0) sd ++ wRd cI cZ cJ rd_a (pb_a 0) rd_7 ++ wPb cI cZ cJ pb_a lk_w v_a pb_8 ++ wBr cI cZ cJ v_a v_b v_13 ++ wSy cI cZ cJ cu_a cu ++ wSy cI cZ cJ sp_a sp_10) H := hP
      have hD : va_D A (wSd cI cZ cJ sd_a lk_w v_a lk_wr (rd_a 0) (sp_a 0) (sp_a 0) sd ++ wRd cI cZ cJ rd_a (pb_a 0) rd_7 ++ wPb cI cZ cJ pb_a lk_w v_a pb_8 ++ wBr cI cZ cJ v_a v_b v_13 ++ wSy cI cZ cJ cu_a cu ++ wSy cI cZ cJ sp_a sp_10) := hD
      refine lv_aload_n hx hb d_SD_read_75 rfl (lv_at hl 2 rfl) ?_
      refine lv_aload_n hx hb d_SD_read_76 rfl (lv_at hl 0 rfl) ?_
      refine va_put (D := (dC, dI)) (ci := 6) (v := .ref (cu_a 0)) (ty := (.object "SymbolDictionaries$Symbols")) (C := R_SD) (T := T_SD) (N := 7) hx hb hts in_SD ty_SD tyok_SD nm_SD hown hK hP hD hS 0 rfl rfl 6 (by decide) (hts _ t_264) (fun _ h9 => h9) rfl (by decide +kernel) rfl rfl (Nat.le_of_ble_eq_true rfl) d_SD_read_77 (fun H locs hP hD hS => ?_)
      have hP : va_P (dC, dI) vwCl (wSd cI cZ cJ sd_a lk_w v_a lk_wr (rd_a 0) (sp_a 0) (cu_a 0) sd ++ wRd cI cZ cJ rd_a (pb_a 0) rd_7 ++ wPb cI cZ cJ pb_a lk_w v_a pb_8 ++ wBr cI cZ cJ v_a v_b v_13 ++ wSy cI cZ cJ cu_a cu ++ wSy cI cZ cJ sp_a sp_10) H := hP
      have hD : va_D A (wSd cI cZ cJ sd_a lk_w v_a lk_wr (rd_a 0) (sp_a 0) (cu_a 0) sd ++ wRd cI cZ cJ rd_a (pb_a 0) rd_7 ++ wPb cI cZ cJ pb_a lk_w v_a pb_8 ++ wBr cI cZ cJ v_a v_b v_13 ++ wSy cI cZ cJ cu_a cu ++ wSy cI cZ cJ sp_a sp_10) := hD
      refine lv_aload_n hx hb d_SD_read_80 rfl (lv_at hl 2 rfl) ?_
      refine va_get (D := (dC, dI)) (ci := 6) (v := .ref (sp_a 0)) (C := R_SD) (T := T_SD) (N := 7) hx hb hts in_SD hown hK hP 0 rfl rfl 5 (by decide) (hts _ t_263) (fun _ h9 => h9) rfl d_SD_read_81 ?_
      refine va_get (D := (dC, dI)) (ci := 0) (v := .int (Sy_n sp_10)) (C := R_Symbols) (T := T_Symbols) (N := 10) hx hb hts in_Symbols hown hK hP 15 rfl rfl 7 (by decide) (hts _ t_232) (fun _ h9 => h9) rfl d_SD_read_84 ?_
      exact absurd hf (by simp)
    · rw [if_pos c_14] at hf
      refine lv_iconst (v := (-1)) hx hb d_SD_read_52 (by decide) ?_
      refine lv_aload_n hx hb d_SD_read_53 rfl (lv_at hl 1 rfl) ?_
      refine va_get (D := (dC, dI)) (ci := 6) (v := .ref (rd_a 0)) (C := R_SD) (T := T_SD) (N := 7) hx hb hts in_SD hown hK hP 0 rfl rfl 4 (by decide) (hts _ t_262) (fun _ h9 => h9) rfl d_SD_read_54 ?_
      refine va_get (D := (dC, dI)) (ci := 5) (v := .int (Rd_wy rd_7)) (C := R_Reader) (T := T_Reader) (N := 5) hx hb hts in_Reader hown hK hP 1 rfl rfl 0 (by decide) (hts _ t_184) (fun _ h9 => h9) rfl d_SD_read_57 ?_
      refine lv_isub hx hb d_SD_read_60 ?_
      exact hr61 _ _ _ ((-1) - (Rd_wy rd_7)) rd_7 pb_8 v_13 sp_10 hP hD hS hf
  refine lv_if_eq (tgt := 39) hx hb d_SD_read_18 (by decide) (fun c_15 => ?_) (fun c_15 => ?_)
  · rw [if_pos c_15] at hf
    refine lv_iconst (v := 0) hx hb d_SD_read_39 (by decide) ?_
    exact J40_11 _ _ _ rd_3 pb_4 v_5 sp_6 0 hP hD hS (lv_sub hl [0] rfl) hf
  · rw [if_neg c_15] at hf
    refine lv_aload_n hx hb d_SD_read_21 rfl (lv_at hl 0 rfl) ?_
    refine va_get (D := (dC, dI)) (ci := 6) (v := .ref (rd_a 0)) (C := R_SD) (T := T_SD) (N := 7) hx hb hts in_SD hown hK hP 0 rfl rfl 4 (by decide) (hts _ t_262) (fun _ h9 => h9) rfl d_SD_read_22 ?_
    refine lv_aload_n hx hb d_SD_read_25 rfl (lv_at hl 0 rfl) ?_
    refine va_get (D := (dC, dI)) (ci := 6) (v := .ref (sp_a 0)) (C := R_SD) (T := T_SD) (N := 7) hx hb hts in_SD hown hK hP 0 rfl rfl 6 (by decide) (hts _ t_264) (fun _ h9 => h9) rfl d_SD_read_26 ?_
    obtain ⟨⟨r_16, rd_17, pb_18, v_19, sp_20⟩, hf1, hf⟩ := bd_ex hf
    try dsimp only at hf
    have hPc := hP.sub (ws' := (wRd cI cZ cJ rd_a (pb_a 0) rd_3 ++ wPb cI cZ cJ pb_a lk_w v_a pb_4 ++ wBr cI cZ cJ v_a v_b v_5 ++ wSy cI cZ cJ sp_a sp_6)) [1, 2, 3, 4, 15, 16, 17, 18, 19, 20, 21, 22, 23, 24] rfl
    have hDc := hD.sub (ws' := (wRd cI cZ cJ rd_a (pb_a 0) rd_3 ++ wPb cI cZ cJ pb_a lk_w v_a pb_4 ++ wBr cI cZ cJ v_a v_b v_5 ++ wSy cI cZ cJ sp_a sp_6)) [1, 2, 3, 4, 15, 16, 17, 18, 19, 20, 21, 22, 23, 24] (by decide) rfl
    have hFc := va_free (wc := (wRd cI cZ cJ rd_a (pb_a 0) rd_3 ++ wPb cI cZ cJ pb_a lk_w v_a pb_4 ++ wBr cI cZ cJ v_a v_b v_5 ++ wSy cI cZ cJ sp_a sp_6)) hD hS hA [1, 2, 3, 4, 15, 16, 17, 18, 19, 20, 21, 22, 23, 24] rfl
    refine va_calli (va_runV (As := [.ref (sp_a 0)]) (rest := []) ⟨hx, hb, hml, hown, hts⟩ (k_P_Reader_takeExports l dC dI cI cZ cJ rd_a pb_a v_a v_b sp_a lk_w H.size hf1) (cwV 1 hts (gV t_541 t_542 t_543 t_61 t_544) rfl rfl rfl hd_Reader_takeExports ⟨Nat.le_trans (Nat.le_of_ble_eq_true rfl) hRf, Nat.le_trans (Nat.le_of_ble_eq_true rfl) hRl⟩) ⟨kP_blind, va_recv hK hP (ci := 5) (q0 := 1) rfl rfl, kP_at hPc hK hDc hN⟩ rfl rfl hl.1 rfl (lv_room (Nat.le_of_ble_eq_true rfl)) d_SD_read_29 hRc) hS (fun q _ h => hFc q h) hFc (fun r9 u t H1 locs ht hvm hw hB hz1 hk1 hS => ?_)
    rw [hw.1]
    obtain ⟨hP, hD⟩ := kQ_join (wr := (wSd cI cZ cJ sd_a lk_w v_a lk_wr (rd_a 0) (cu_a 0) (sp_a 0) sd ++ wSy cI cZ cJ cu_a cu)) (w1 := (wRd cI cZ cJ rd_a (pb_a 0) rd_17 ++ wPb cI cZ cJ pb_a lk_w v_a pb_18 ++ wBr cI cZ cJ v_a v_b v_19 ++ wSy cI cZ cJ sp_a sp_20)) hP hD [1, 2, 3, 4, 15, 16, 17, 18, 19, 20, 21, 22, 23, 24] [0, 5, 6, 7, 8, 9, 10, 11, 12, 13, 14] rfl rfl (by decide) (by decide) ht hk1 hFc hB
    generalize H1 = H at hP hS ⊢
    have hP : va_P (dC, dI) vwCl (wSd cI cZ cJ sd_a lk_w v_a lk_wr (rd_a 0) (cu_a 0) (sp_a 0) sd ++ wRd cI cZ cJ rd_a (pb_a 0) rd_17 ++ wPb cI cZ cJ pb_a lk_w v_a pb_18 ++ wBr cI cZ cJ v_a v_b v_19 ++ wSy cI cZ cJ cu_a cu ++ wSy cI cZ cJ sp_a sp_20) H := hP.sub [0, 11, 12, 13, 14, 1, 2, 3, 4, 5, 6, 7, 8, 9, 10, 15, 16, 17, 18, 19, 20, 21, 22, 23, 24] rfl
    have hD : va_D A (wSd cI cZ cJ sd_a lk_w v_a lk_wr (rd_a 0) (cu_a 0) (sp_a 0) sd ++ wRd cI cZ cJ rd_a (pb_a 0) rd_17 ++ wPb cI cZ cJ pb_a lk_w v_a pb_18 ++ wBr cI cZ cJ v_a v_b v_19 ++ wSy cI cZ cJ cu_a cu ++ wSy cI cZ cJ sp_a sp_20) := hD.sub [0, 11, 12, 13, 14, 1, 2, 3, 4, 5, 6, 7, 8, 9, 10, 15, 16, 17, 18, 19, 20, 21, 22, 23, 24] (by decide) rfl
    refine lv_if_eq (tgt := 39) hx hb d_SD_read_32 (by decide) (fun c_21 => ?_) (fun c_21 => ?_)
    · rw [if_pos c_21] at hf
      refine lv_iconst (v := 0) hx hb d_SD_read_39 (by decide) ?_
      exact J40_11 _ _ _ rd_17 pb_18 v_19 sp_20 0 hP hD hS (lv_sub hl [0] rfl) hf
    · rw [if_neg c_21] at hf
      refine lv_iconst (v := 1) hx hb d_SD_read_35 (by decide) ?_
      refine lv_goto (tgt := 40) hx hb d_SD_read_36 (by decide) ?_
      exact J40_11 _ _ _ rd_17 pb_18 v_19 sp_20 1 hP hD hS (lv_sub hl [0] rfl) hf
end
set_option maxHeartbeats 4000000 in
set_option maxRecDepth 100000 in
theorem k_P_SD_readN (l : Launch) (dC : Nat → ClassId) (dI : Nat → Nat → Nat) (cI cZ cJ : ClassId) (sd_a : Nat → Nat) (rd_a : Nat → Nat) (pb_a : Nat → Nat) (v_a v_b : Nat) (cu_a : Nat → Nat) (sp_a : Nat → Nat) (lk_w : Nat) (lk_wr : Nat) (sz : Nat) {sd : Sd} {rd : Rd} {pb : Pb} {v : Br} {cu : Sy} {sp : Sy} {r : Int32} {rd' : Rd} {pb' : Pb} {v' : Br} {sp' : Sy} (hf : f_P_SD_readN sd rd pb v cu sp = some (r, rd', pb', v', sp')) :
    Met l y_SD_read ws_SD_read ({ frames := 7, cells := 0, slots := 0, locals := 153 }) (va_Pc [.ref (sd_a 0)] (kP (dC, dI) vwCl (TYS cI cZ cJ) (wSd cI cZ cJ sd_a lk_w v_a lk_wr (rd_a 0) (cu_a 0) (sp_a 0) sd ++ wRd cI cZ cJ rd_a (pb_a 0) rd ++ wPb cI cZ cJ pb_a lk_w v_a pb ++ wBr cI cZ cJ v_a v_b v ++ wSy cI cZ cJ cu_a cu ++ wSy cI cZ cJ sp_a sp) sz)) (va_Qi (fun (q : Int32) (_ : Unit) => q = r) (fun _ t => kQ (dC, dI) vwCl (TYS cI cZ cJ) (wSd cI cZ cJ sd_a lk_w v_a lk_wr (rd_a 0) (cu_a 0) (sp_a 0) sd ++ wRd cI cZ cJ rd_a (pb_a 0) rd ++ wPb cI cZ cJ pb_a lk_w v_a pb ++ wBr cI cZ cJ v_a v_b v ++ wSy cI cZ cJ cu_a cu ++ wSy cI cZ cJ sp_a sp) sz (wSd cI cZ cJ sd_a lk_w v_a lk_wr (rd_a 0) (cu_a 0) (sp_a 0) sd ++ wRd cI cZ cJ rd_a (pb_a 0) rd' ++ wPb cI cZ cJ pb_a lk_w v_a pb' ++ wBr cI cZ cJ v_a v_b v' ++ wSy cI cZ cJ cu_a cu ++ wSy cI cZ cJ sp_a sp') t) (va_A (wSd cI cZ cJ sd_a lk_w v_a lk_wr (rd_a 0) (cu_a 0) (sp_a 0) sd ++ wRd cI cZ cJ rd_a (pb_a 0) rd ++ wPb cI cZ cJ pb_a lk_w v_a pb ++ wBr cI cZ cJ v_a v_b v ++ wSy cI cZ cJ cu_a cu ++ wSy cI cZ cJ sp_a sp) sz)) 0 0 (va_A (wSd cI cZ cJ sd_a lk_w v_a lk_wr (rd_a 0) (cu_a 0) (sp_a 0) sd ++ wRd cI cZ cJ rd_a (pb_a 0) rd ++ wPb cI cZ cJ pb_a lk_w v_a pb ++ wBr cI cZ cJ v_a v_b v ++ wSy cI cZ cJ cu_a cu ++ wSy cI cZ cJ sp_a sp) sz) := by
  refine Met.ofW (cc := c_SD_read) (maxL := 3) (ret := (some .int)) (by decide) rfl ?_
  intro p e s m args below meth c s₁ B hml hv
  obtain ⟨rfl, hsz, hP, hK, hD0, hN⟩ := hv
  have hr := B.returns
  have hlocks := B.notSynchronized
  subst hsz
  have hD := hD0.self (sz := s.heap.size)
  have hl := lv_entry ([.ref (sd_a 0)]) (n := 3) (Nat.le_of_ble_eq_true rfl)
  rw [lg_entry_eq]
  generalize (lg_sl ([.ref (sd_a 0)]) ++ List.replicate (3 - (lg_sl ([.ref (sd_a 0)])).length) Slot.unset).toArray = ls at hl ⊢
  refine B_P_SD_readN (A := va_A (wSd cI cZ cJ sd_a lk_w v_a lk_wr (rd_a 0) (cu_a 0) (sp_a 0) sd ++ wRd cI cZ cJ rd_a (pb_a 0) rd ++ wPb cI cZ cJ pb_a lk_w v_a pb ++ wBr cI cZ cJ v_a v_b v ++ wSy cI cZ cJ cu_a cu ++ wSy cI cZ cJ sp_a sp) s.heap.size) ⟨B.exec, B.bytes, hml, findClass_of_methodNamed B.named, fun w h => atoms_spec (ws := ws_SD_read) B.pre w (List.mem_cons_of_mem _ h), hK, fun q h => Or.inr h, Nat.le_of_ble_eq_true rfl, Nat.le_of_ble_eq_true rfl, hN, Nat.le_of_ble_eq_true rfl, Nat.le_of_ble_eq_true rfl⟩ (fun H locs ls v rd'1 pb'1 v'1 sp'1 hP hD hS hf => ?_) hP hD va_S.rf hl hf
  · cases hf
    exact W.iret B.exec B.bytes hr (fun t ht hW => ⟨⟨_, (), rfl, rfl, ⟨by rw [ht]; exact hP, va_K.moved hW.alike hK, hD⟩⟩, hS.F ht⟩) hS.2.2 d_SD_read_61

/-! P_SD_readY -/
def j_P_SD_readY_40_12 (rd_7 : Rd) (pb_8 : Pb) (v_9 : Br) (sp_10 : Sy) (z0_11 : Int32) : Option (Int32 × Rd × Pb × Br × Sy) := bd (f_ByteRow_removeAll v_9) <| fun v_13 => (if z0_11 = 0 then none else some (Sy_n sp_10, rd_7, pb_8, v_13, sp_10))
def f_P_SD_readY (sd : Sd) (rd : Rd) (pb : Pb) (v : Br) (cu : Sy) (sp : Sy) : Option (Int32 × Rd × Pb × Br × Sy) := bd (f_Symbols_removeAll sp) <| fun sp_1 => bd (f_P_Reader_takeSymbols rd pb v sp_1) <| fun (r_2, rd_3, pb_4, v_5, sp_6) => (if r_2 = 0 then j_P_SD_readY_40_12 rd_3 pb_4 v_5 sp_6 0 else bd (f_P_Reader_takeExports rd_3 pb_4 v_5 sp_6) <| fun (r_16, rd_17, pb_18, v_19, sp_20) => (if r_16 = 0 then j_P_SD_readY_40_12 rd_17 pb_18 v_19 sp_20 0 else j_P_SD_readY_40_12 rd_17 pb_18 v_19 sp_20 1))
section
variable {p : Program} {l : Launch} {e : Env} {R : Room} {s : State} {m : MethodId} {args : Array Value} {below : List Frame} {meth : Method} {c : Code} {Q : State → Prop} {A : Nat → Prop}
set_option maxHeartbeats 4000000 in
set_option maxRecDepth 100000 in
theorem B_P_SD_readY {cells slots : Nat} {dC : Nat → ClassId} {dI : Nat → Nat → Nat} {cI cZ cJ : ClassId} {sd_a : Nat → Nat} {rd_a : Nat → Nat} {pb_a : Nat → Nat} {v_a v_b : Nat} {cu_a : Nat → Nat} {sp_a : Nat → Nat} {lk_w : Nat} {lk_wr : Nat} {sd : Sd} {rd : Rd} {pb : Pb} {v : Br} {cu : Sy} {sp : Sy} {res : Int32 × Rd × Pb × Br × Sy} (C0 : cxt p c m s args R cells slots R_SD c_SD_read tb 3 (dC, dI) vwCl (TYS cI cZ cJ) A 7 153)
    (hr87 : ∀ (H : Heap) (locs : List Loc) (ls : Array Slot) (v : Int32) (rd' : Rd) (pb' : Pb) (v' : Br) (sp' : Sy), va_P (dC, dI) vwCl (wSd cI cZ cJ sd_a lk_w v_a lk_wr (rd_a 0) (sp_a 0) (cu_a 0) sd ++ wRd cI cZ cJ rd_a (pb_a 0) rd' ++ wPb cI cZ cJ pb_a lk_w v_a pb' ++ wBr cI cZ cJ v_a v_b v' ++ wSy cI cZ cJ cu_a cu ++ wSy cI cZ cJ sp_a sp') H → va_D A (wSd cI cZ cJ sd_a lk_w v_a lk_wr (rd_a 0) (sp_a 0) (cu_a 0) sd ++ wRd cI cZ cJ rd_a (pb_a 0) rd' ++ wPb cI cZ cJ pb_a lk_w v_a pb' ++ wBr cI cZ cJ v_a v_b v' ++ wSy cI cZ cJ cu_a cu ++ wSy cI cZ cJ sp_a sp') → va_S A s.heap H locs → some (v, rd', pb', v', sp') = some res → W p l e R s m args below meth c H locs cells slots Q (F0 m 87 ls [.int v]))
    {H : Heap} {locs : List Loc} {ls : Array Slot} (hP : va_P (dC, dI) vwCl (wSd cI cZ cJ sd_a lk_w v_a lk_wr (rd_a 0) (cu_a 0) (sp_a 0) sd ++ wRd cI cZ cJ rd_a (pb_a 0) rd ++ wPb cI cZ cJ pb_a lk_w v_a pb ++ wBr cI cZ cJ v_a v_b v ++ wSy cI cZ cJ cu_a cu ++ wSy cI cZ cJ sp_a sp) H) (hD : va_D A (wSd cI cZ cJ sd_a lk_w v_a lk_wr (rd_a 0) (cu_a 0) (sp_a 0) sd ++ wRd cI cZ cJ rd_a (pb_a 0) rd ++ wPb cI cZ cJ pb_a lk_w v_a pb ++ wBr cI cZ cJ v_a v_b v ++ wSy cI cZ cJ cu_a cu ++ wSy cI cZ cJ sp_a sp)) (hS : va_S A s.heap H locs) (hl : lv_has ls 3 [(0, .ref (sd_a 0))]) (hf : f_P_SD_readY sd rd pb v cu sp = some res) : W p l e R s m args below meth c H locs cells slots Q (F0 m 0 ls []) := by
  obtain ⟨hx, hb, hml, hown, hts, hK, hA, hRf, hRl, hN, hRc⟩ := id C0
  rw [f_P_SD_readY] at hf
  refine lv_aload_n hx hb d_SD_read_0 rfl (lv_at hl 0 rfl) ?_
  refine va_get (D := (dC, dI)) (ci := 6) (v := .ref (sp_a 0)) (C := R_SD) (T := T_SD) (N := 7) hx hb hts in_SD hown hK hP 0 rfl rfl 6 (by decide) (hts _ t_264) (fun _ h9 => h9) rfl d_SD_read_1 ?_
  obtain ⟨sp_1, hf1, hf⟩ := bd_ex hf
  try dsimp only at hf
  have hPc := hP.sub (ws' := (wSy cI cZ cJ sp_a sp)) [15, 16, 17, 18, 19, 20, 21, 22, 23, 24] rfl
  have hDc := hD.sub (ws' := (wSy cI cZ cJ sp_a sp)) [15, 16, 17, 18, 19, 20, 21, 22, 23, 24] (by decide) rfl
  have hFc := va_free (wc := (wSy cI cZ cJ sp_a sp)) hD hS hA [15, 16, 17, 18, 19, 20, 21, 22, 23, 24] rfl
  refine va_callv (va_runV (As := []) (rest := []) ⟨hx, hb, hml, hown, hts⟩ (k_Symbols_removeAll l dC dI cI cZ cJ sp_a H.size hf1) (cwV 0 hts (gV t_437 t_438 t_439 t_62 t_440) rfl rfl rfl hd_Symbols_removeAll ⟨Nat.le_trans (Nat.le_of_ble_eq_true rfl) hRf, Nat.le_trans (Nat.le_of_ble_eq_true rfl) hRl⟩) ⟨kP_blind, va_recv hK hP (ci := 0) (q0 := 15) rfl rfl, kP_at hPc hK hDc hN⟩ rfl rfl hl.1 rfl (lv_room (Nat.le_of_ble_eq_true rfl)) d_SD_read_4 hRc) hS (fun q _ h => hFc q h) hFc (fun u t H1 locs ht hvm hw hB hz1 hk1 hS => ?_)
  obtain ⟨hP, hD⟩ := kQ_join (wr := (wSd cI cZ cJ sd_a lk_w v_a lk_wr (rd_a 0) (cu_a 0) (sp_a 0) sd ++ wRd cI cZ cJ rd_a (pb_a 0) rd ++ wPb cI cZ cJ pb_a lk_w v_a pb ++ wBr cI cZ cJ v_a v_b v ++ wSy cI cZ cJ cu_a cu)) (w1 := (wSy cI cZ cJ sp_a sp_1)) hP hD [15, 16, 17, 18, 19, 20, 21, 22, 23, 24] [0, 1, 2, 3, 4, 5, 6, 7, 8, 9, 10, 11, 12, 13, 14] rfl rfl (by decide) (by decide) ht hk1 hFc hB
  generalize H1 = H at hP hS ⊢
  have hP : va_P (dC, dI) vwCl (wSd cI cZ cJ sd_a lk_w v_a lk_wr (rd_a 0) (cu_a 0) (sp_a 0) sd ++ wRd cI cZ cJ rd_a (pb_a 0) rd ++ wPb cI cZ cJ pb_a lk_w v_a pb ++ wBr cI cZ cJ v_a v_b v ++ wSy cI cZ cJ cu_a cu ++ wSy cI cZ cJ sp_a sp_1) H := hP.sub [0, 1, 2, 3, 4, 5, 6, 7, 8, 9, 10, 11, 12, 13, 14, 15, 16, 17, 18, 19, 20, 21, 22, 23, 24] rfl
  have hD : va_D A (wSd cI cZ cJ sd_a lk_w v_a lk_wr (rd_a 0) (cu_a 0) (sp_a 0) sd ++ wRd cI cZ cJ rd_a (pb_a 0) rd ++ wPb cI cZ cJ pb_a lk_w v_a pb ++ wBr cI cZ cJ v_a v_b v ++ wSy cI cZ cJ cu_a cu ++ wSy cI cZ cJ sp_a sp_1) := hD.sub [0, 1, 2, 3, 4, 5, 6, 7, 8, 9, 10, 11, 12, 13, 14, 15, 16, 17, 18, 19, 20, 21, 22, 23, 24] (by decide) rfl
  refine lv_aload_n hx hb d_SD_read_7 rfl (lv_at hl 0 rfl) ?_
  refine va_get (D := (dC, dI)) (ci := 6) (v := .ref (rd_a 0)) (C := R_SD) (T := T_SD) (N := 7) hx hb hts in_SD hown hK hP 0 rfl rfl 4 (by decide) (hts _ t_262) (fun _ h9 => h9) rfl d_SD_read_8 ?_
  refine lv_aload_n hx hb d_SD_read_11 rfl (lv_at hl 0 rfl) ?_
  refine va_get (D := (dC, dI)) (ci := 6) (v := .ref (sp_a 0)) (C := R_SD) (T := T_SD) (N := 7) hx hb hts in_SD hown hK hP 0 rfl rfl 6 (by decide) (hts _ t_264) (fun _ h9 => h9) rfl d_SD_read_12 ?_
  obtain ⟨⟨r_2, rd_3, pb_4, v_5, sp_6⟩, hf1, hf⟩ := bd_ex hf
  try dsimp only at hf
  have hPc := hP.sub (ws' := (wRd cI cZ cJ rd_a (pb_a 0) rd ++ wPb cI cZ cJ pb_a lk_w v_a pb ++ wBr cI cZ cJ v_a v_b v ++ wSy cI cZ cJ sp_a sp_1)) [1, 2, 3, 4, 15, 16, 17, 18, 19, 20, 21, 22, 23, 24] rfl
  have hDc := hD.sub (ws' := (wRd cI cZ cJ rd_a (pb_a 0) rd ++ wPb cI cZ cJ pb_a lk_w v_a pb ++ wBr cI cZ cJ v_a v_b v ++ wSy cI cZ cJ sp_a sp_1)) [1, 2, 3, 4, 15, 16, 17, 18, 19, 20, 21, 22, 23, 24] (by decide) rfl
  have hFc := va_free (wc := (wRd cI cZ cJ rd_a (pb_a 0) rd ++ wPb cI cZ cJ pb_a lk_w v_a pb ++ wBr cI cZ cJ v_a v_b v ++ wSy cI cZ cJ sp_a sp_1)) hD hS hA [1, 2, 3, 4, 15, 16, 17, 18, 19, 20, 21, 22, 23, 24] rfl
  refine va_calli (va_runV (As := [.ref (sp_a 0)]) (rest := []) ⟨hx, hb, hml, hown, hts⟩ (k_P_Reader_takeSymbols l dC dI cI cZ cJ rd_a pb_a v_a v_b sp_a lk_w H.size hf1) (cwV 1 hts (gV t_441 t_442 t_443 t_61 t_444) rfl rfl rfl hd_Reader_takeSymbols ⟨Nat.le_trans (Nat.le_of_ble_eq_true rfl) hRf, Nat.le_trans (Nat.le_of_ble_eq_true rfl) hRl⟩) ⟨kP_blind, va_recv hK hP (ci := 5) (q0 := 1) rfl rfl, kP_at hPc hK hDc hN⟩ rfl rfl hl.1 rfl (lv_room (Nat.le_of_ble_eq_true rfl)) d_SD_read_15 hRc) hS (fun q _ h => hFc q h) hFc (fun r9 u t H1 locs ht hvm hw hB hz1 hk1 hS => ?_)
  rw [hw.1]
  obtain ⟨hP, hD⟩ := kQ_join (wr := (wSd cI cZ cJ sd_a lk_w v_a lk_wr (rd_a 0) (cu_a 0) (sp_a 0) sd ++ wSy cI cZ cJ cu_a cu)) (w1 := (wRd cI cZ cJ rd_a (pb_a 0) rd_3 ++ wPb cI cZ cJ pb_a lk_w v_a pb_4 ++ wBr cI cZ cJ v_a v_b v_5 ++ wSy cI cZ cJ sp_a sp_6)) hP hD [1, 2, 3, 4, 15, 16, 17, 18, 19, 20, 21, 22, 23, 24] [0, 5, 6, 7, 8, 9, 10, 11, 12, 13, 14] rfl rfl (by decide) (by decide) ht hk1 hFc hB
  generalize H1 = H at hP hS ⊢
  have hP : va_P (dC, dI) vwCl (wSd cI cZ cJ sd_a lk_w v_a lk_wr (rd_a 0) (cu_a 0) (sp_a 0) sd ++ wRd cI cZ cJ rd_a (pb_a 0) rd_3 ++ wPb cI cZ cJ pb_a lk_w v_a pb_4 ++ wBr cI cZ cJ v_a v_b v_5 ++ wSy cI cZ cJ cu_a cu ++ wSy cI cZ cJ sp_a sp_6) H := hP.sub [0, 11, 12, 13, 14, 1, 2, 3, 4, 5, 6, 7, 8, 9, 10, 15, 16, 17, 18, 19, 20, 21, 22, 23, 24] rfl
  have hD : va_D A (wSd cI cZ cJ sd_a lk_w v_a lk_wr (rd_a 0) (cu_a 0) (sp_a 0) sd ++ wRd cI cZ cJ rd_a (pb_a 0) rd_3 ++ wPb cI cZ cJ pb_a lk_w v_a pb_4 ++ wBr cI cZ cJ v_a v_b v_5 ++ wSy cI cZ cJ cu_a cu ++ wSy cI cZ cJ sp_a sp_6) := hD.sub [0, 11, 12, 13, 14, 1, 2, 3, 4, 5, 6, 7, 8, 9, 10, 15, 16, 17, 18, 19, 20, 21, 22, 23, 24] (by decide) rfl
  have J40_11 : ∀ (H : Heap) (locs : List Loc) (ls : Array Slot) (rd_7 : Rd) (pb_8 : Pb) (v_9 : Br) (sp_10 : Sy) (z0_11 : Int32), va_P (dC, dI) vwCl (wSd cI cZ cJ sd_a lk_w v_a lk_wr (rd_a 0) (cu_a 0) (sp_a 0) sd ++ wRd cI cZ cJ rd_a (pb_a 0) rd_7 ++ wPb cI cZ cJ pb_a lk_w v_a pb_8 ++ wBr cI cZ cJ v_a v_b v_9 ++ wSy cI cZ cJ cu_a cu ++ wSy cI cZ cJ sp_a sp_10) H → va_D A (wSd cI cZ cJ sd_a lk_w v_a lk_wr (rd_a 0) (cu_a 0) (sp_a 0) sd ++ wRd cI cZ cJ rd_a (pb_a 0) rd_7 ++ wPb cI cZ cJ pb_a lk_w v_a pb_8 ++ wBr cI cZ cJ v_a v_b v_9 ++ wSy cI cZ cJ cu_a cu ++ wSy cI cZ cJ sp_a sp_10) → va_S A s.heap H locs → lv_has ls 3 [(0, .ref (sd_a 0))] → j_P_SD_readY_40_12 rd_7 pb_8 v_9 sp_10 z0_11 = some res → W p l e R s m args below meth c H locs cells slots Q (F0 m 40 ls [.int z0_11]) := by
    intro H locs ls rd_7 pb_8 v_9 sp_10 z0_11 hP hD hS hl hf
    rw [j_P_SD_readY_40_12] at hf
    refine lv_istore_n (lv' := [(1, .int z0_11), (0, .ref (sd_a 0))]) hx hb d_SD_read_40 rfl hl (by decide) rfl (fun ls hl => ?_)
    refine lv_aload_n hx hb d_SD_read_41 rfl (lv_at hl 1 rfl) ?_
    refine va_get (D := (dC, dI)) (ci := 6) (v := .ref v_a) (C := R_SD) (T := T_SD) (N := 7) hx hb hts in_SD hown hK hP 0 rfl rfl 2 (by decide) (hts _ t_260) (fun _ h9 => h9) rfl d_SD_read_42 ?_
    obtain ⟨v_13, hf1, hf⟩ := bd_ex hf
    try dsimp only at hf
    have hPc := hP.sub (ws' := (wBr cI cZ cJ v_a v_b v_9)) [3, 4] rfl
    have hDc := hD.sub (ws' := (wBr cI cZ cJ v_a v_b v_9)) [3, 4] (by decide) rfl
    have hFc := va_free (wc := (wBr cI cZ cJ v_a v_b v_9)) hD hS hA [3, 4] rfl
    refine va_callv (va_runV (As := []) (rest := []) ⟨hx, hb, hml, hown, hts⟩ (k_ByteRow_removeAll l dC dI cI cZ cJ v_a v_b H.size hf1) (cwV 0 hts (gV t_545 t_303 t_304 t_56 t_305) rfl rfl rfl hd_ByteRow_removeAll ⟨Nat.le_trans (Nat.le_of_ble_eq_true rfl) hRf, Nat.le_trans (Nat.le_of_ble_eq_true rfl) hRl⟩) ⟨kP_blind, va_recv hK hP (ci := 1) (q0 := 3) rfl rfl, kP_at hPc hK hDc hN⟩ rfl rfl hl.1 rfl (lv_room (Nat.le_of_ble_eq_true rfl)) d_SD_read_45 hRc) hS (fun q _ h => hFc q h) hFc (fun u t H1 locs ht hvm hw hB hz1 hk1 hS => ?_)
    obtain ⟨hP, hD⟩ := kQ_join (wr := (wSd cI cZ cJ sd_a lk_w v_a lk_wr (rd_a 0) (cu_a 0) (sp_a 0) sd ++ wRd cI cZ cJ rd_a (pb_a 0) rd_7 ++ wPb cI cZ cJ pb_a lk_w v_a pb_8 ++ wSy cI cZ cJ cu_a cu ++ wSy cI cZ cJ sp_a sp_10)) (w1 := (wBr cI cZ cJ v_a v_b v_13)) hP hD [3, 4] [0, 1, 2, 5, 6, 7, 8, 9, 10, 11, 12, 13, 14, 15, 16, 17, 18, 19, 20, 21, 22, 23, 24] rfl rfl (by decide) (by decide) ht hk1 hFc hB
    generalize H1 = H at hP hS ⊢
    have hP : va_P (dC, dI) vwCl (wSd cI cZ cJ sd_a lk_w v_a lk_wr (rd_a 0) (cu_a 0) (sp_a 0) sd ++ wRd cI cZ cJ rd_a (pb_a 0) rd_7 ++ wPb cI cZ cJ pb_a lk_w v_a pb_8 ++ wBr cI cZ cJ v_a v_b v_13 ++ wSy cI cZ cJ cu_a cu ++ wSy cI cZ cJ sp_a sp_10) H := hP.sub [0, 1, 2, 23, 24, 3, 4, 5, 6, 7, 8, 9, 10, 11, 12, 13, 14, 15, 16, 17, 18, 19, 20, 21, 22] rfl
    have hD : va_D A (wSd cI cZ cJ sd_a lk_w v_a lk_wr (rd_a 0) (cu_a 0) (sp_a 0) sd ++ wRd cI cZ cJ rd_a (pb_a 0) rd_7 ++ wPb cI cZ cJ pb_a lk_w v_a pb_8 ++ wBr cI cZ cJ v_a v_b v_13 ++ wSy cI cZ cJ cu_a cu ++ wSy cI cZ cJ sp_a sp_10) := hD.sub [0, 1, 2, 23, 24, 3, 4, 5, 6, 7, 8, 9, 10, 11, 12, 13, 14, 15, 16, 17, 18, 19, 20, 21, 22] (by decide) rfl
    refine lv_iload_n hx hb d_SD_read_48 rfl (lv_at hl 0 rfl) ?_
    refine lv_if_ne (tgt := 62) hx hb d_SD_read_49 (by decide) (fun c_14 => ?_) (fun c_14 => ?_)
    · rw [if_neg c_14] at hf
      refine lv_aload_n hx hb d_SD_read_62 rfl (lv_at hl 1 rfl) ?_
      refine va_get (D := (dC, dI)) (ci := 6) (v := .ref (cu_a 0)) (C := R_SD) (T := T_SD) (N := 7) hx hb hts in_SD hown hK hP 0 rfl rfl 5 (by decide) (hts _ t_263) (fun _ h9 => h9) rfl d_SD_read_63 ?_
      refine lv_astore_n (lv' := [(2, .ref (cu_a 0)), (1, .int z0_11), (0, .ref (sd_a 0))]) hx hb d_SD_read_66 rfl hl (by decide) rfl (fun ls hl => ?_)
      refine lv_aload_n hx hb d_SD_read_67 rfl (lv_at hl 2 rfl) ?_
      refine lv_aload_n hx hb d_SD_read_68 rfl (lv_at hl 2 rfl) ?_
      refine va_get (D := (dC, dI)) (ci := 6) (v := .ref (sp_a 0)) (C := R_SD) (T := T_SD) (N := 7) hx hb hts in_SD hown hK hP 0 rfl rfl 6 (by decide) (hts _ t_264) (fun _ h9 => h9) rfl d_SD_read_69 ?_
      refine va_put (D := (dC, dI)) (ci := 6) (v := .ref (sp_a 0)) (ty := (.object "SymbolDictionaries$Symbols")) (C := R_SD) (T := T_SD) (N := 7) hx hb hts in_SD ty_SD tyok_SD nm_SD hown hK hP hD hS 0 rfl rfl 5 (by decide) (hts _ t_263) (fun _ h9 => h9) rfl (by decide +kernel) rfl rfl (Nat.le_of_ble_eq_true rfl) d_SD_read_72 (fun H locs hP hD hS => ?_)
      have hP : va_P (dC, dI) vwCl (wSd cI cZ cJ sd_a lk_w v_a lk_wr (rd_a 0) (sp_a 0) (sp_a 0) sd ++ wRd cI cZ cJ rd_a (pb_a 0) rd_7 ++ wPb cI cZ cJ pb_a lk_w v_a pb_8 ++ wBr cI cZ cJ v_a v_b v_13 ++ wSy cI cZ cJ cu_a cu ++ wSy cI cZ cJ sp_a sp_10) H := hP
      have hD : va_D A (wSd cI cZ cJ sd_a lk_w v_a lk_wr (rd_a 0) (sp_a 0) (sp_a 0) sd ++ wRd cI cZ cJ rd_a (pb_a 0) rd_7 ++ wPb cI cZ cJ pb_a lk_w v_a pb_8 ++ wBr cI cZ cJ v_a v_b v_13 ++ wSy cI cZ cJ cu_a cu ++ wSy cI cZ cJ sp_a sp_10) := hD
      refine lv_aload_n hx hb d_SD_read_75 rfl (lv_at hl 2 rfl) ?_
      refine lv_aload_n hx hb d_SD_read_76 rfl (lv_at hl 0 rfl) ?_
      refine va_put (D := (dC, dI)) (ci := 6) (v := .ref (cu_a 0)) (ty := (.object "SymbolDictionaries$Symbols")) (C := R_SD) (T := T_SD) (N := 7) hx hb hts in_SD ty_SD tyok_SD nm_SD hown hK hP hD hS 0 rfl rfl 6 (by decide) (hts _ t_264) (fun _ h9 => h9) rfl (by decide +kernel) rfl rfl (Nat.le_of_ble_eq_true rfl) d_SD_read_77 (fun H locs hP hD hS => ?_)
      have hP : va_P (dC, dI) vwCl (wSd cI cZ cJ sd_a lk_w v_a lk_wr (rd_a 0) (sp_a 0) (cu_a 0) sd ++ wRd cI cZ cJ rd_a (pb_a 0) rd_7 ++ wPb cI cZ cJ pb_a lk_w v_a pb_8 ++ wBr cI cZ cJ v_a v_b v_13 ++ wSy cI cZ cJ cu_a cu ++ wSy cI cZ cJ sp_a sp_10) H := hP
      have hD : va_D A (wSd cI cZ cJ sd_a lk_w v_a lk_wr (rd_a 0) (sp_a 0) (cu_a 0) sd ++ wRd cI cZ cJ rd_a (pb_a 0) rd_7 ++ wPb cI cZ cJ pb_a lk_w v_a pb_8 ++ wBr cI cZ cJ v_a v_b v_13 ++ wSy cI cZ cJ cu_a cu ++ wSy cI cZ cJ sp_a sp_10) := hD
      refine lv_aload_n hx hb d_SD_read_80 rfl (lv_at hl 2 rfl) ?_
      refine va_get (D := (dC, dI)) (ci := 6) (v := .ref (sp_a 0)) (C := R_SD) (T := T_SD) (N := 7) hx hb hts in_SD hown hK hP 0 rfl rfl 5 (by decide) (hts _ t_263) (fun _ h9 => h9) rfl d_SD_read_81 ?_
      refine va_get (D := (dC, dI)) (ci := 0) (v := .int (Sy_n sp_10)) (C := R_Symbols) (T := T_Symbols) (N := 10) hx hb hts in_Symbols hown hK hP 15 rfl rfl 7 (by decide) (hts _ t_232) (fun _ h9 => h9) rfl d_SD_read_84 ?_
      exact hr87 _ _ _ (Sy_n sp_10) rd_7 pb_8 v_13 sp_10 hP hD hS hf
    · rw [if_pos c_14] at hf
      refine lv_iconst (v := (-1)) hx hb d_SD_read_52 (by decide) ?_
      refine lv_aload_n hx hb d_SD_read_53 rfl (lv_at hl 1 rfl) ?_
      refine va_get (D := (dC, dI)) (ci := 6) (v := .ref (rd_a 0)) (C := R_SD) (T := T_SD) (N := 7) hx hb hts in_SD hown hK hP 0 rfl rfl 4 (by decide) (hts _ t_262) (fun _ h9 => h9) rfl d_SD_read_54 ?_
      refine va_get (D := (dC, dI)) (ci := 5) (v := .int (Rd_wy rd_7)) (C := R_Reader) (T := T_Reader) (N := 5) hx hb hts in_Reader hown hK hP 1 rfl rfl 0 (by decide) (hts _ t_184) (fun _ h9 => h9) rfl d_SD_read_57 ?_
      refine lv_isub hx hb d_SD_read_60 ?_
      exact absurd hf (by simp)
  refine lv_if_eq (tgt := 39) hx hb d_SD_read_18 (by decide) (fun c_15 => ?_) (fun c_15 => ?_)
  · rw [if_pos c_15] at hf
    refine lv_iconst (v := 0) hx hb d_SD_read_39 (by decide) ?_
    exact J40_11 _ _ _ rd_3 pb_4 v_5 sp_6 0 hP hD hS (lv_sub hl [0] rfl) hf
  · rw [if_neg c_15] at hf
    refine lv_aload_n hx hb d_SD_read_21 rfl (lv_at hl 0 rfl) ?_
    refine va_get (D := (dC, dI)) (ci := 6) (v := .ref (rd_a 0)) (C := R_SD) (T := T_SD) (N := 7) hx hb hts in_SD hown hK hP 0 rfl rfl 4 (by decide) (hts _ t_262) (fun _ h9 => h9) rfl d_SD_read_22 ?_
    refine lv_aload_n hx hb d_SD_read_25 rfl (lv_at hl 0 rfl) ?_
    refine va_get (D := (dC, dI)) (ci := 6) (v := .ref (sp_a 0)) (C := R_SD) (T := T_SD) (N := 7) hx hb hts in_SD hown hK hP 0 rfl rfl 6 (by decide) (hts _ t_264) (fun _ h9 => h9) rfl d_SD_read_26 ?_
    obtain ⟨⟨r_16, rd_17, pb_18, v_19, sp_20⟩, hf1, hf⟩ := bd_ex hf
    try dsimp only at hf
    have hPc := hP.sub (ws' := (wRd cI cZ cJ rd_a (pb_a 0) rd_3 ++ wPb cI cZ cJ pb_a lk_w v_a pb_4 ++ wBr cI cZ cJ v_a v_b v_5 ++ wSy cI cZ cJ sp_a sp_6)) [1, 2, 3, 4, 15, 16, 17, 18, 19, 20, 21, 22, 23, 24] rfl
    have hDc := hD.sub (ws' := (wRd cI cZ cJ rd_a (pb_a 0) rd_3 ++ wPb cI cZ cJ pb_a lk_w v_a pb_4 ++ wBr cI cZ cJ v_a v_b v_5 ++ wSy cI cZ cJ sp_a sp_6)) [1, 2, 3, 4, 15, 16, 17, 18, 19, 20, 21, 22, 23, 24] (by decide) rfl
    have hFc := va_free (wc := (wRd cI cZ cJ rd_a (pb_a 0) rd_3 ++ wPb cI cZ cJ pb_a lk_w v_a pb_4 ++ wBr cI cZ cJ v_a v_b v_5 ++ wSy cI cZ cJ sp_a sp_6)) hD hS hA [1, 2, 3, 4, 15, 16, 17, 18, 19, 20, 21, 22, 23, 24] rfl
    refine va_calli (va_runV (As := [.ref (sp_a 0)]) (rest := []) ⟨hx, hb, hml, hown, hts⟩ (k_P_Reader_takeExports l dC dI cI cZ cJ rd_a pb_a v_a v_b sp_a lk_w H.size hf1) (cwV 1 hts (gV t_541 t_542 t_543 t_61 t_544) rfl rfl rfl hd_Reader_takeExports ⟨Nat.le_trans (Nat.le_of_ble_eq_true rfl) hRf, Nat.le_trans (Nat.le_of_ble_eq_true rfl) hRl⟩) ⟨kP_blind, va_recv hK hP (ci := 5) (q0 := 1) rfl rfl, kP_at hPc hK hDc hN⟩ rfl rfl hl.1 rfl (lv_room (Nat.le_of_ble_eq_true rfl)) d_SD_read_29 hRc) hS (fun q _ h => hFc q h) hFc (fun r9 u t H1 locs ht hvm hw hB hz1 hk1 hS => ?_)
    rw [hw.1]
    obtain ⟨hP, hD⟩ := kQ_join (wr := (wSd cI cZ cJ sd_a lk_w v_a lk_wr (rd_a 0) (cu_a 0) (sp_a 0) sd ++ wSy cI cZ cJ cu_a cu)) (w1 := (wRd cI cZ cJ rd_a (pb_a 0) rd_17 ++ wPb cI cZ cJ pb_a lk_w v_a pb_18 ++ wBr cI cZ cJ v_a v_b v_19 ++ wSy cI cZ cJ sp_a sp_20)) hP hD [1, 2, 3, 4, 15, 16, 17, 18, 19, 20, 21, 22, 23, 24] [0, 5, 6, 7, 8, 9, 10, 11, 12, 13, 14] rfl rfl (by decide) (by decide) ht hk1 hFc hB
    generalize H1 = H at hP hS ⊢
    have hP : va_P (dC, dI) vwCl (wSd cI cZ cJ sd_a lk_w v_a lk_wr (rd_a 0) (cu_a 0) (sp_a 0) sd ++ wRd cI cZ cJ rd_a (pb_a 0) rd_17 ++ wPb cI cZ cJ pb_a lk_w v_a pb_18 ++ wBr cI cZ cJ v_a v_b v_19 ++ wSy cI cZ cJ cu_a cu ++ wSy cI cZ cJ sp_a sp_20) H := hP.sub [0, 11, 12, 13, 14, 1, 2, 3, 4, 5, 6, 7, 8, 9, 10, 15, 16, 17, 18, 19, 20, 21, 22, 23, 24] rfl
    have hD : va_D A (wSd cI cZ cJ sd_a lk_w v_a lk_wr (rd_a 0) (cu_a 0) (sp_a 0) sd ++ wRd cI cZ cJ rd_a (pb_a 0) rd_17 ++ wPb cI cZ cJ pb_a lk_w v_a pb_18 ++ wBr cI cZ cJ v_a v_b v_19 ++ wSy cI cZ cJ cu_a cu ++ wSy cI cZ cJ sp_a sp_20) := hD.sub [0, 11, 12, 13, 14, 1, 2, 3, 4, 5, 6, 7, 8, 9, 10, 15, 16, 17, 18, 19, 20, 21, 22, 23, 24] (by decide) rfl
    refine lv_if_eq (tgt := 39) hx hb d_SD_read_32 (by decide) (fun c_21 => ?_) (fun c_21 => ?_)
    · rw [if_pos c_21] at hf
      refine lv_iconst (v := 0) hx hb d_SD_read_39 (by decide) ?_
      exact J40_11 _ _ _ rd_17 pb_18 v_19 sp_20 0 hP hD hS (lv_sub hl [0] rfl) hf
    · rw [if_neg c_21] at hf
      refine lv_iconst (v := 1) hx hb d_SD_read_35 (by decide) ?_
      refine lv_goto (tgt := 40) hx hb d_SD_read_36 (by decide) ?_
      exact J40_11 _ _ _ rd_17 pb_18 v_19 sp_20 1 hP hD hS (lv_sub hl [0] rfl) hf
end
set_option maxHeartbeats 4000000 in
set_option maxRecDepth 100000 in
theorem k_P_SD_readY (l : Launch) (dC : Nat → ClassId) (dI : Nat → Nat → Nat) (cI cZ cJ : ClassId) (sd_a : Nat → Nat) (rd_a : Nat → Nat) (pb_a : Nat → Nat) (v_a v_b : Nat) (cu_a : Nat → Nat) (sp_a : Nat → Nat) (lk_w : Nat) (lk_wr : Nat) (sz : Nat) {sd : Sd} {rd : Rd} {pb : Pb} {v : Br} {cu : Sy} {sp : Sy} {r : Int32} {rd' : Rd} {pb' : Pb} {v' : Br} {sp' : Sy} (hf : f_P_SD_readY sd rd pb v cu sp = some (r, rd', pb', v', sp')) :
    Met l y_SD_read ws_SD_read ({ frames := 7, cells := 0, slots := 0, locals := 153 }) (va_Pc [.ref (sd_a 0)] (kP (dC, dI) vwCl (TYS cI cZ cJ) (wSd cI cZ cJ sd_a lk_w v_a lk_wr (rd_a 0) (cu_a 0) (sp_a 0) sd ++ wRd cI cZ cJ rd_a (pb_a 0) rd ++ wPb cI cZ cJ pb_a lk_w v_a pb ++ wBr cI cZ cJ v_a v_b v ++ wSy cI cZ cJ cu_a cu ++ wSy cI cZ cJ sp_a sp) sz)) (va_Qi (fun (q : Int32) (_ : Unit) => q = r) (fun _ t => kQ (dC, dI) vwCl (TYS cI cZ cJ) (wSd cI cZ cJ sd_a lk_w v_a lk_wr (rd_a 0) (cu_a 0) (sp_a 0) sd ++ wRd cI cZ cJ rd_a (pb_a 0) rd ++ wPb cI cZ cJ pb_a lk_w v_a pb ++ wBr cI cZ cJ v_a v_b v ++ wSy cI cZ cJ cu_a cu ++ wSy cI cZ cJ sp_a sp) sz (wSd cI cZ cJ sd_a lk_w v_a lk_wr (rd_a 0) (sp_a 0) (cu_a 0) sd ++ wRd cI cZ cJ rd_a (pb_a 0) rd' ++ wPb cI cZ cJ pb_a lk_w v_a pb' ++ wBr cI cZ cJ v_a v_b v' ++ wSy cI cZ cJ cu_a cu ++ wSy cI cZ cJ sp_a sp') t) (va_A (wSd cI cZ cJ sd_a lk_w v_a lk_wr (rd_a 0) (cu_a 0) (sp_a 0) sd ++ wRd cI cZ cJ rd_a (pb_a 0) rd ++ wPb cI cZ cJ pb_a lk_w v_a pb ++ wBr cI cZ cJ v_a v_b v ++ wSy cI cZ cJ cu_a cu ++ wSy cI cZ cJ sp_a sp) sz)) 0 0 (va_A (wSd cI cZ cJ sd_a lk_w v_a lk_wr (rd_a 0) (cu_a 0) (sp_a 0) sd ++ wRd cI cZ cJ rd_a (pb_a 0) rd ++ wPb cI cZ cJ pb_a lk_w v_a pb ++ wBr cI cZ cJ v_a v_b v ++ wSy cI cZ cJ cu_a cu ++ wSy cI cZ cJ sp_a sp) sz) := by
  refine Met.ofW (cc := c_SD_read) (maxL := 3) (ret := (some .int)) (by decide) rfl ?_
  intro p e s m args below meth c s₁ B hml hv
  obtain ⟨rfl, hsz, hP, hK, hD0, hN⟩ := hv
  have hr := B.returns
  have hlocks := B.notSynchronized
  subst hsz
  have hD := hD0.self (sz := s.heap.size)
  have hl := lv_entry ([.ref (sd_a 0)]) (n := 3) (Nat.le_of_ble_eq_true rfl)
  rw [lg_entry_eq]
  generalize (lg_sl ([.ref (sd_a 0)]) ++ List.replicate (3 - (lg_sl ([.ref (sd_a 0)])).length) Slot.unset).toArray = ls at hl ⊢
  refine B_P_SD_readY (A := va_A (wSd cI cZ cJ sd_a lk_w v_a lk_wr (rd_a 0) (cu_a 0) (sp_a 0) sd ++ wRd cI cZ cJ rd_a (pb_a 0) rd ++ wPb cI cZ cJ pb_a lk_w v_a pb ++ wBr cI cZ cJ v_a v_b v ++ wSy cI cZ cJ cu_a cu ++ wSy cI cZ cJ sp_a sp) s.heap.size) ⟨B.exec, B.bytes, hml, findClass_of_methodNamed B.named, fun w h => atoms_spec (ws := ws_SD_read) B.pre w (List.mem_cons_of_mem _ h), hK, fun q h => Or.inr h, Nat.le_of_ble_eq_true rfl, Nat.le_of_ble_eq_true rfl, hN, Nat.le_of_ble_eq_true rfl, Nat.le_of_ble_eq_true rfl⟩ (fun H locs ls v rd'1 pb'1 v'1 sp'1 hP hD hS hf => ?_) hP hD va_S.rf hl hf
  · cases hf
    exact W.iret B.exec B.bytes hr (fun t ht hW => ⟨⟨_, (), rfl, rfl, ⟨by rw [ht]; exact hP, va_K.moved hW.alike hK, hD⟩⟩, hS.F ht⟩) hS.2.2 d_SD_read_87

/-! C_SD_readN -/
def j_C_SD_readN_40_12 (rd_7 : Rd) (cb_8 : Cb) (v_9 : Br) (sp_10 : Sy) (z0_11 : Int32) : Option (Int32 × Rd × Cb × Br × Sy) := bd (f_ByteRow_removeAll v_9) <| fun v_13 => (if z0_11 = 0 then some ((-1) - (Rd_wy rd_7), rd_7, cb_8, v_13, sp_10) else none)
def f_C_SD_readN (sd : Sd) (rd : Rd) (cb : Cb) (v : Br) (cu : Sy) (sp : Sy) : Option (Int32 × Rd × Cb × Br × Sy) := bd (f_Symbols_removeAll sp) <| fun sp_1 => bd (f_C_Reader_takeSymbols rd cb v sp_1) <| fun (r_2, rd_3, cb_4, v_5, sp_6) => (if r_2 = 0 then j_C_SD_readN_40_12 rd_3 cb_4 v_5 sp_6 0 else bd (f_C_Reader_takeExports rd_3 cb_4 v_5 sp_6) <| fun (r_16, rd_17, cb_18, v_19, sp_20) => (if r_16 = 0 then j_C_SD_readN_40_12 rd_17 cb_18 v_19 sp_20 0 else j_C_SD_readN_40_12 rd_17 cb_18 v_19 sp_20 1))
section
variable {p : Program} {l : Launch} {e : Env} {R : Room} {s : State} {m : MethodId} {args : Array Value} {below : List Frame} {meth : Method} {c : Code} {Q : State → Prop} {A : Nat → Prop}
set_option maxHeartbeats 4000000 in
set_option maxRecDepth 100000 in
theorem B_C_SD_readN {cells slots : Nat} {dC : Nat → ClassId} {dI : Nat → Nat → Nat} {cI cZ cJ : ClassId} {sd_a : Nat → Nat} {rd_a : Nat → Nat} {cb_a : Nat → Nat} {v_a v_b : Nat} {cu_a : Nat → Nat} {sp_a : Nat → Nat} {lk_w : Nat} {lk_wr : Nat} {sd : Sd} {rd : Rd} {cb : Cb} {v : Br} {cu : Sy} {sp : Sy} {res : Int32 × Rd × Cb × Br × Sy} (C0 : cxt p c m s args R cells slots R_SD c_SD_read tb 3 (dC, dI) vwCl (TYS cI cZ cJ) A 8 179)
    (hr61 : ∀ (H : Heap) (locs : List Loc) (ls : Array Slot) (v : Int32) (rd' : Rd) (cb' : Cb) (v' : Br) (sp' : Sy), va_P (dC, dI) vwCl (wSd cI cZ cJ sd_a lk_w v_a lk_wr (rd_a 0) (cu_a 0) (sp_a 0) sd ++ wRd cI cZ cJ rd_a (cb_a 0) rd' ++ wCb cI cZ cJ cb_a lk_w v_a cb' ++ wBr cI cZ cJ v_a v_b v' ++ wSy cI cZ cJ cu_a cu ++ wSy cI cZ cJ sp_a sp') H → va_D A (wSd cI cZ cJ sd_a lk_w v_a lk_wr (rd_a 0) (cu_a 0) (sp_a 0) sd ++ wRd cI cZ cJ rd_a (cb_a 0) rd' ++ wCb cI cZ cJ cb_a lk_w v_a cb' ++ wBr cI cZ cJ v_a v_b v' ++ wSy cI cZ cJ cu_a cu ++ wSy cI cZ cJ sp_a sp') → va_S A s.heap H locs → some (v, rd', cb', v', sp') = some res → W p l e R s m args below meth c H locs cells slots Q (F0 m 61 ls [.int v]))
    {H : Heap} {locs : List Loc} {ls : Array Slot} (hP : va_P (dC, dI) vwCl (wSd cI cZ cJ sd_a lk_w v_a lk_wr (rd_a 0) (cu_a 0) (sp_a 0) sd ++ wRd cI cZ cJ rd_a (cb_a 0) rd ++ wCb cI cZ cJ cb_a lk_w v_a cb ++ wBr cI cZ cJ v_a v_b v ++ wSy cI cZ cJ cu_a cu ++ wSy cI cZ cJ sp_a sp) H) (hD : va_D A (wSd cI cZ cJ sd_a lk_w v_a lk_wr (rd_a 0) (cu_a 0) (sp_a 0) sd ++ wRd cI cZ cJ rd_a (cb_a 0) rd ++ wCb cI cZ cJ cb_a lk_w v_a cb ++ wBr cI cZ cJ v_a v_b v ++ wSy cI cZ cJ cu_a cu ++ wSy cI cZ cJ sp_a sp)) (hS : va_S A s.heap H locs) (hl : lv_has ls 3 [(0, .ref (sd_a 0))]) (hf : f_C_SD_readN sd rd cb v cu sp = some res) : W p l e R s m args below meth c H locs cells slots Q (F0 m 0 ls []) := by
  obtain ⟨hx, hb, hml, hown, hts, hK, hA, hRf, hRl, hN, hRc⟩ := id C0
  rw [f_C_SD_readN] at hf
  refine lv_aload_n hx hb d_SD_read_0 rfl (lv_at hl 0 rfl) ?_
  refine va_get (D := (dC, dI)) (ci := 6) (v := .ref (sp_a 0)) (C := R_SD) (T := T_SD) (N := 7) hx hb hts in_SD hown hK hP 0 rfl rfl 6 (by decide) (hts _ t_264) (fun _ h9 => h9) rfl d_SD_read_1 ?_
  obtain ⟨sp_1, hf1, hf⟩ := bd_ex hf
  try dsimp only at hf
  have hPc := hP.sub (ws' := (wSy cI cZ cJ sp_a sp)) [16, 17, 18, 19, 20, 21, 22, 23, 24, 25] rfl
  have hDc := hD.sub (ws' := (wSy cI cZ cJ sp_a sp)) [16, 17, 18, 19, 20, 21, 22, 23, 24, 25] (by decide) rfl
  have hFc := va_free (wc := (wSy cI cZ cJ sp_a sp)) hD hS hA [16, 17, 18, 19, 20, 21, 22, 23, 24, 25] rfl
  refine va_callv (va_runV (As := []) (rest := []) ⟨hx, hb, hml, hown, hts⟩ (k_Symbols_removeAll l dC dI cI cZ cJ sp_a H.size hf1) (cwV 0 hts (gV t_437 t_438 t_439 t_62 t_440) rfl rfl rfl hd_Symbols_removeAll ⟨Nat.le_trans (Nat.le_of_ble_eq_true rfl) hRf, Nat.le_trans (Nat.le_of_ble_eq_true rfl) hRl⟩) ⟨kP_blind, va_recv hK hP (ci := 0) (q0 := 16) rfl rfl, kP_at hPc hK hDc hN⟩ rfl rfl hl.1 rfl (lv_room (Nat.le_of_ble_eq_true rfl)) d_SD_read_4 hRc) hS (fun q _ h => hFc q h) hFc (fun u t H1 locs ht hvm hw hB hz1 hk1 hS => ?_)
  obtain ⟨hP, hD⟩ := kQ_join (wr := (wSd cI cZ cJ sd_a lk_w v_a lk_wr (rd_a 0) (cu_a 0) (sp_a 0) sd ++ wRd cI cZ cJ rd_a (cb_a 0) rd ++ wCb cI cZ cJ cb_a lk_w v_a cb ++ wBr cI cZ cJ v_a v_b v ++ wSy cI cZ cJ cu_a cu)) (w1 := (wSy cI cZ cJ sp_a sp_1)) hP hD [16, 17, 18, 19, 20, 21, 22, 23, 24, 25] [0, 1, 2, 3, 4, 5, 6, 7, 8, 9, 10, 11, 12, 13, 14, 15] rfl rfl (by decide) (by decide) ht hk1 hFc hB
  generalize H1 = H at hP hS ⊢
  have hP : va_P (dC, dI) vwCl (wSd cI cZ cJ sd_a lk_w v_a lk_wr (rd_a 0) (cu_a 0) (sp_a 0) sd ++ wRd cI cZ cJ rd_a (cb_a 0) rd ++ wCb cI cZ cJ cb_a lk_w v_a cb ++ wBr cI cZ cJ v_a v_b v ++ wSy cI cZ cJ cu_a cu ++ wSy cI cZ cJ sp_a sp_1) H := hP.sub [0, 1, 2, 3, 4, 5, 6, 7, 8, 9, 10, 11, 12, 13, 14, 15, 16, 17, 18, 19, 20, 21, 22, 23, 24, 25] rfl
  have hD : va_D A (wSd cI cZ cJ sd_a lk_w v_a lk_wr (rd_a 0) (cu_a 0) (sp_a 0) sd ++ wRd cI cZ cJ rd_a (cb_a 0) rd ++ wCb cI cZ cJ cb_a lk_w v_a cb ++ wBr cI cZ cJ v_a v_b v ++ wSy cI cZ cJ cu_a cu ++ wSy cI cZ cJ sp_a sp_1) := hD.sub [0, 1, 2, 3, 4, 5, 6, 7, 8, 9, 10, 11, 12, 13, 14, 15, 16, 17, 18, 19, 20, 21, 22, 23, 24, 25] (by decide) rfl
  refine lv_aload_n hx hb d_SD_read_7 rfl (lv_at hl 0 rfl) ?_
  refine va_get (D := (dC, dI)) (ci := 6) (v := .ref (rd_a 0)) (C := R_SD) (T := T_SD) (N := 7) hx hb hts in_SD hown hK hP 0 rfl rfl 4 (by decide) (hts _ t_262) (fun _ h9 => h9) rfl d_SD_read_8 ?_
  refine lv_aload_n hx hb d_SD_read_11 rfl (lv_at hl 0 rfl) ?_
  refine va_get (D := (dC, dI)) (ci := 6) (v := .ref (sp_a 0)) (C := R_SD) (T := T_SD) (N := 7) hx hb hts in_SD hown hK hP 0 rfl rfl 6 (by decide) (hts _ t_264) (fun _ h9 => h9) rfl d_SD_read_12 ?_
  obtain ⟨⟨r_2, rd_3, cb_4, v_5, sp_6⟩, hf1, hf⟩ := bd_ex hf
  try dsimp only at hf
  have hPc := hP.sub (ws' := (wRd cI cZ cJ rd_a (cb_a 0) rd ++ wCb cI cZ cJ cb_a lk_w v_a cb ++ wBr cI cZ cJ v_a v_b v ++ wSy cI cZ cJ sp_a sp_1)) [1, 2, 3, 4, 5, 16, 17, 18, 19, 20, 21, 22, 23, 24, 25] rfl
  have hDc := hD.sub (ws' := (wRd cI cZ cJ rd_a (cb_a 0) rd ++ wCb cI cZ cJ cb_a lk_w v_a cb ++ wBr cI cZ cJ v_a v_b v ++ wSy cI cZ cJ sp_a sp_1)) [1, 2, 3, 4, 5, 16, 17, 18, 19, 20, 21, 22, 23, 24, 25] (by decide) rfl
  have hFc := va_free (wc := (wRd cI cZ cJ rd_a (cb_a 0) rd ++ wCb cI cZ cJ cb_a lk_w v_a cb ++ wBr cI cZ cJ v_a v_b v ++ wSy cI cZ cJ sp_a sp_1)) hD hS hA [1, 2, 3, 4, 5, 16, 17, 18, 19, 20, 21, 22, 23, 24, 25] rfl
  refine va_calli (va_runV (As := [.ref (sp_a 0)]) (rest := []) ⟨hx, hb, hml, hown, hts⟩ (k_C_Reader_takeSymbols l dC dI cI cZ cJ rd_a cb_a v_a v_b sp_a lk_w H.size hf1) (cwV 1 hts (gV t_441 t_442 t_443 t_61 t_444) rfl rfl rfl hd_Reader_takeSymbols ⟨Nat.le_trans (Nat.le_of_ble_eq_true rfl) hRf, Nat.le_trans (Nat.le_of_ble_eq_true rfl) hRl⟩) ⟨kP_blind, va_recv hK hP (ci := 5) (q0 := 1) rfl rfl, kP_at hPc hK hDc hN⟩ rfl rfl hl.1 rfl (lv_room (Nat.le_of_ble_eq_true rfl)) d_SD_read_15 hRc) hS (fun q _ h => hFc q h) hFc (fun r9 u t H1 locs ht hvm hw hB hz1 hk1 hS => ?_)
  rw [hw.1]
  obtain ⟨hP, hD⟩ := kQ_join (wr := (wSd cI cZ cJ sd_a lk_w v_a lk_wr (rd_a 0) (cu_a 0) (sp_a 0) sd ++ wSy cI cZ cJ cu_a cu)) (w1 := (wRd cI cZ cJ rd_a (cb_a 0) rd_3 ++ wCb cI cZ cJ cb_a lk_w v_a cb_4 ++ wBr cI cZ cJ v_a v_b v_5 ++ wSy cI cZ cJ sp_a sp_6)) hP hD [1, 2, 3, 4, 5, 16, 17, 18, 19, 20, 21, 22, 23, 24, 25] [0, 6, 7, 8, 9, 10, 11, 12, 13, 14, 15] rfl rfl (by decide) (by decide) ht hk1 hFc hB
  generalize H1 = H at hP hS ⊢
  have hP : va_P (dC, dI) vwCl (wSd cI cZ cJ sd_a lk_w v_a lk_wr (rd_a 0) (cu_a 0) (sp_a 0) sd ++ wRd cI cZ cJ rd_a (cb_a 0) rd_3 ++ wCb cI cZ cJ cb_a lk_w v_a cb_4 ++ wBr cI cZ cJ v_a v_b v_5 ++ wSy cI cZ cJ cu_a cu ++ wSy cI cZ cJ sp_a sp_6) H := hP.sub [0, 11, 12, 13, 14, 15, 1, 2, 3, 4, 5, 6, 7, 8, 9, 10, 16, 17, 18, 19, 20, 21, 22, 23, 24, 25] rfl
  have hD : va_D A (wSd cI cZ cJ sd_a lk_w v_a lk_wr (rd_a 0) (cu_a 0) (sp_a 0) sd ++ wRd cI cZ cJ rd_a (cb_a 0) rd_3 ++ wCb cI cZ cJ cb_a lk_w v_a cb_4 ++ wBr cI cZ cJ v_a v_b v_5 ++ wSy cI cZ cJ cu_a cu ++ wSy cI cZ cJ sp_a sp_6) := hD.sub [0, 11, 12, 13, 14, 15, 1, 2, 3, 4, 5, 6, 7, 8, 9, 10, 16, 17, 18, 19, 20, 21, 22, 23, 24, 25] (by decide) rfl
  have J40_11 : ∀ (H : Heap) (locs : List Loc) (ls : Array Slot) (rd_7 : Rd) (cb_8 : Cb) (v_9 : Br) (sp_10 : Sy) (z0_11 : Int32), va_P (dC, dI) vwCl (wSd cI cZ cJ sd_a lk_w v_a lk_wr (rd_a 0) (cu_a 0) (sp_a 0) sd ++ wRd cI cZ cJ rd_a (cb_a 0) rd_7 ++ wCb cI cZ cJ cb_a lk_w v_a cb_8 ++ wBr cI cZ cJ v_a v_b v_9 ++ wSy cI cZ cJ cu_a cu ++ wSy cI cZ cJ sp_a sp_10) H → va_D A (wSd cI cZ cJ sd_a lk_w v_a lk_wr (rd_a 0) (cu_a 0) (sp_a 0) sd ++ wRd cI cZ cJ rd_a (cb_a 0) rd_7 ++ wCb cI cZ cJ cb_a lk_w v_a cb_8 ++ wBr cI cZ cJ v_a v_b v_9 ++ wSy cI cZ cJ cu_a cu ++ wSy cI cZ cJ sp_a sp_10) → va_S A s.heap H locs → lv_has ls 3 [(0, .ref (sd_a 0))] → j_C_SD_readN_40_12 rd_7 cb_8 v_9 sp_10 z0_11 = some res → W p l e R s m args below meth c H locs cells slots Q (F0 m 40 ls [.int z0_11]) := by
    intro H locs ls rd_7 cb_8 v_9 sp_10 z0_11 hP hD hS hl hf
    rw [j_C_SD_readN_40_12] at hf
    refine lv_istore_n (lv' := [(1, .int z0_11), (0, .ref (sd_a 0))]) hx hb d_SD_read_40 rfl hl (by decide) rfl (fun ls hl => ?_)
    refine lv_aload_n hx hb d_SD_read_41 rfl (lv_at hl 1 rfl) ?_
    refine va_get (D := (dC, dI)) (ci := 6) (v := .ref v_a) (C := R_SD) (T := T_SD) (N := 7) hx hb hts in_SD hown hK hP 0 rfl rfl 2 (by decide) (hts _ t_260) (fun _ h9 => h9) rfl d_SD_read_42 ?_
    obtain ⟨v_13, hf1, hf⟩ := bd_ex hf
    try dsimp only at hf
    have hPc := hP.sub (ws' := (wBr cI cZ cJ v_a v_b v_9)) [4, 5] rfl
    have hDc := hD.sub (ws' := (wBr cI cZ cJ v_a v_b v_9)) [4, 5] (by decide) rfl
    have hFc := va_free (wc := (wBr cI cZ cJ v_a v_b v_9)) hD hS hA [4, 5] rfl
    refine va_callv (va_runV (As := []) (rest := []) ⟨hx, hb, hml, hown, hts⟩ (k_ByteRow_removeAll l dC dI cI cZ cJ v_a v_b H.size hf1) (cwV 0 hts (gV t_545 t_303 t_304 t_56 t_305) rfl rfl rfl hd_ByteRow_removeAll ⟨Nat.le_trans (Nat.le_of_ble_eq_true rfl) hRf, Nat.le_trans (Nat.le_of_ble_eq_true rfl) hRl⟩) ⟨kP_blind, va_recv hK hP (ci := 1) (q0 := 4) rfl rfl, kP_at hPc hK hDc hN⟩ rfl rfl hl.1 rfl (lv_room (Nat.le_of_ble_eq_true rfl)) d_SD_read_45 hRc) hS (fun q _ h => hFc q h) hFc (fun u t H1 locs ht hvm hw hB hz1 hk1 hS => ?_)
    obtain ⟨hP, hD⟩ := kQ_join (wr := (wSd cI cZ cJ sd_a lk_w v_a lk_wr (rd_a 0) (cu_a 0) (sp_a 0) sd ++ wRd cI cZ cJ rd_a (cb_a 0) rd_7 ++ wCb cI cZ cJ cb_a lk_w v_a cb_8 ++ wSy cI cZ cJ cu_a cu ++ wSy cI cZ cJ sp_a sp_10)) (w1 := (wBr cI cZ cJ v_a v_b v_13)) hP hD [4, 5] [0, 1, 2, 3, 6, 7, 8, 9, 10, 11, 12, 13, 14, 15, 16, 17, 18, 19, 20, 21, 22, 23, 24, 25] rfl rfl (by decide) (by decide) ht hk1 hFc hB
    generalize H1 = H at hP hS ⊢
    have hP : va_P (dC, dI) vwCl (wSd cI cZ cJ sd_a lk_w v_a lk_wr (rd_a 0) (cu_a 0) (sp_a 0) sd ++ wRd cI cZ cJ rd_a (cb_a 0) rd_7 ++ wCb cI cZ cJ cb_a lk_w v_a cb_8 ++ wBr cI cZ cJ v_a v_b v_13 ++ wSy cI cZ cJ cu_a cu ++ wSy cI cZ cJ sp_a sp_10) H := hP.sub [0, 1, 2, 3, 24, 25, 4, 5, 6, 7, 8, 9, 10, 11, 12, 13, 14, 15, 16, 17, 18, 19, 20, 21, 22, 23] rfl
    have hD : va_D A (wSd cI cZ cJ sd_a lk_w v_a lk_wr (rd_a 0) (cu_a 0) (sp_a 0) sd ++ wRd cI cZ cJ rd_a (cb_a 0) rd_7 ++ wCb cI cZ cJ cb_a lk_w v_a cb_8 ++ wBr cI cZ cJ v_a v_b v_13 ++ wSy cI cZ cJ cu_a cu ++ wSy cI cZ cJ sp_a sp_10) := hD.sub [0, 1, 2, 3, 24, 25, 4, 5, 6, 7, 8, 9, 10, 11, 12, 13, 14, 15, 16, 17, 18, 19, 20, 21, 22, 23] (by decide) rfl
    refine lv_iload_n hx hb d_SD_read_48 rfl (lv_at hl 0 rfl) ?_
    refine lv_if_ne (tgt := 62) hx hb d_SD_read_49 (by decide) (fun c_14 => ?_) (fun c_14 => ?_)
    · rw [if_neg c_14] at hf
      refine lv_aload_n hx hb d_SD_read_62 rfl (lv_at hl 1 rfl) ?_
      refine va_get (D := (dC, dI)) (ci := 6) (v := .ref (cu_a 0)) (C := R_SD) (T := T_SD) (N := 7) hx hb hts in_SD hown hK hP 0 rfl rfl 5 (by decide) (hts _ t_263) (fun _ h9 => h9) rfl d_SD_read_63 ?_
      refine lv_astore_n (lv' := [(2, .ref (cu_a 0)), (1, .int z0_11), (0, .ref (sd_a 0))]) hx hb d_SD_read_66 rfl hl (by decide) rfl (fun ls hl => ?_)
      refine lv_aload_n hx hb d_SD_read_67 rfl (lv_at hl 2 rfl) ?_
      refine lv_aload_n hx hb d_SD_read_68 rfl (lv_at hl 2 rfl) ?_
      refine va_get (D := (dC, dI)) (ci := 6) (v := .ref (sp_a 0)) (C := R_SD) (T := T_SD) (N := 7) hx hb hts in_SD hown hK hP 0 rfl rfl 6 (by decide) (hts _ t_264) (fun _ h9 => h9) rfl d_SD_read_69 ?_
      refine va_put (D := (dC, dI)) (ci := 6) (v := .ref (sp_a 0)) (ty := (.object "SymbolDictionaries$Symbols")) (C := R_SD) (T := T_SD) (N := 7) hx hb hts in_SD ty_SD tyok_SD nm_SD hown hK hP hD hS 0 rfl rfl 5 (by decide) (hts _ t_263) (fun _ h9 => h9) rfl (by decide +kernel) rfl rfl (Nat.le_of_ble_eq_true rfl) d_SD_read_72 (fun H locs hP hD hS => ?_)
      have hP : va_P (dC, dI) vwCl (wSd cI cZ cJ sd_a lk_w v_a lk_wr (rd_a 0) (sp_a 0) (sp_a 0) sd ++ wRd cI cZ cJ rd_a (cb_a 0) rd_7 ++ wCb cI cZ cJ cb_a lk_w v_a cb_8 ++ wBr cI cZ cJ v_a v_b v_13 ++ wSy cI cZ cJ cu_a cu ++ wSy cI cZ cJ sp_a sp_10) H := hP
      have hD : va_D A (wSd cI cZ cJ sd_a lk_w v_a lk_wr (rd_a 0) (sp_a 0) (sp_a 0) sd ++ wRd cI cZ cJ rd_a (cb_a 0) rd_7 ++ wCb cI cZ cJ cb_a lk_w v_a cb_8 ++ wBr cI cZ cJ v_a v_b v_13 ++ wSy cI cZ cJ cu_a cu ++ wSy cI cZ cJ sp_a sp_10) := hD
      refine lv_aload_n hx hb d_SD_read_75 rfl (lv_at hl 2 rfl) ?_
      refine lv_aload_n hx hb d_SD_read_76 rfl (lv_at hl 0 rfl) ?_
      refine va_put (D := (dC, dI)) (ci := 6) (v := .ref (cu_a 0)) (ty := (.object "SymbolDictionaries$Symbols")) (C := R_SD) (T := T_SD) (N := 7) hx hb hts in_SD ty_SD tyok_SD nm_SD hown hK hP hD hS 0 rfl rfl 6 (by decide) (hts _ t_264) (fun _ h9 => h9) rfl (by decide +kernel) rfl rfl (Nat.le_of_ble_eq_true rfl) d_SD_read_77 (fun H locs hP hD hS => ?_)
      have hP : va_P (dC, dI) vwCl (wSd cI cZ cJ sd_a lk_w v_a lk_wr (rd_a 0) (sp_a 0) (cu_a 0) sd ++ wRd cI cZ cJ rd_a (cb_a 0) rd_7 ++ wCb cI cZ cJ cb_a lk_w v_a cb_8 ++ wBr cI cZ cJ v_a v_b v_13 ++ wSy cI cZ cJ cu_a cu ++ wSy cI cZ cJ sp_a sp_10) H := hP
      have hD : va_D A (wSd cI cZ cJ sd_a lk_w v_a lk_wr (rd_a 0) (sp_a 0) (cu_a 0) sd ++ wRd cI cZ cJ rd_a (cb_a 0) rd_7 ++ wCb cI cZ cJ cb_a lk_w v_a cb_8 ++ wBr cI cZ cJ v_a v_b v_13 ++ wSy cI cZ cJ cu_a cu ++ wSy cI cZ cJ sp_a sp_10) := hD
      refine lv_aload_n hx hb d_SD_read_80 rfl (lv_at hl 2 rfl) ?_
      refine va_get (D := (dC, dI)) (ci := 6) (v := .ref (sp_a 0)) (C := R_SD) (T := T_SD) (N := 7) hx hb hts in_SD hown hK hP 0 rfl rfl 5 (by decide) (hts _ t_263) (fun _ h9 => h9) rfl d_SD_read_81 ?_
      refine va_get (D := (dC, dI)) (ci := 0) (v := .int (Sy_n sp_10)) (C := R_Symbols) (T := T_Symbols) (N := 10) hx hb hts in_Symbols hown hK hP 16 rfl rfl 7 (by decide) (hts _ t_232) (fun _ h9 => h9) rfl d_SD_read_84 ?_
      exact absurd hf (by simp)
    · rw [if_pos c_14] at hf
      refine lv_iconst (v := (-1)) hx hb d_SD_read_52 (by decide) ?_
      refine lv_aload_n hx hb d_SD_read_53 rfl (lv_at hl 1 rfl) ?_
      refine va_get (D := (dC, dI)) (ci := 6) (v := .ref (rd_a 0)) (C := R_SD) (T := T_SD) (N := 7) hx hb hts in_SD hown hK hP 0 rfl rfl 4 (by decide) (hts _ t_262) (fun _ h9 => h9) rfl d_SD_read_54 ?_
      refine va_get (D := (dC, dI)) (ci := 5) (v := .int (Rd_wy rd_7)) (C := R_Reader) (T := T_Reader) (N := 5) hx hb hts in_Reader hown hK hP 1 rfl rfl 0 (by decide) (hts _ t_184) (fun _ h9 => h9) rfl d_SD_read_57 ?_
      refine lv_isub hx hb d_SD_read_60 ?_
      exact hr61 _ _ _ ((-1) - (Rd_wy rd_7)) rd_7 cb_8 v_13 sp_10 hP hD hS hf
  refine lv_if_eq (tgt := 39) hx hb d_SD_read_18 (by decide) (fun c_15 => ?_) (fun c_15 => ?_)
  · rw [if_pos c_15] at hf
    refine lv_iconst (v := 0) hx hb d_SD_read_39 (by decide) ?_
    exact J40_11 _ _ _ rd_3 cb_4 v_5 sp_6 0 hP hD hS (lv_sub hl [0] rfl) hf
  · rw [if_neg c_15] at hf
    refine lv_aload_n hx hb d_SD_read_21 rfl (lv_at hl 0 rfl) ?_
    refine va_get (D := (dC, dI)) (ci := 6) (v := .ref (rd_a 0)) (C := R_SD) (T := T_SD) (N := 7) hx hb hts in_SD hown hK hP 0 rfl rfl 4 (by decide) (hts _ t_262) (fun _ h9 => h9) rfl d_SD_read_22 ?_
    refine lv_aload_n hx hb d_SD_read_25 rfl (lv_at hl 0 rfl) ?_
    refine va_get (D := (dC, dI)) (ci := 6) (v := .ref (sp_a 0)) (C := R_SD) (T := T_SD) (N := 7) hx hb hts in_SD hown hK hP 0 rfl rfl 6 (by decide) (hts _ t_264) (fun _ h9 => h9) rfl d_SD_read_26 ?_
    obtain ⟨⟨r_16, rd_17, cb_18, v_19, sp_20⟩, hf1, hf⟩ := bd_ex hf
    try dsimp only at hf
    have hPc := hP.sub (ws' := (wRd cI cZ cJ rd_a (cb_a 0) rd_3 ++ wCb cI cZ cJ cb_a lk_w v_a cb_4 ++ wBr cI cZ cJ v_a v_b v_5 ++ wSy cI cZ cJ sp_a sp_6)) [1, 2, 3, 4, 5, 16, 17, 18, 19, 20, 21, 22, 23, 24, 25] rfl
    have hDc := hD.sub (ws' := (wRd cI cZ cJ rd_a (cb_a 0) rd_3 ++ wCb cI cZ cJ cb_a lk_w v_a cb_4 ++ wBr cI cZ cJ v_a v_b v_5 ++ wSy cI cZ cJ sp_a sp_6)) [1, 2, 3, 4, 5, 16, 17, 18, 19, 20, 21, 22, 23, 24, 25] (by decide) rfl
    have hFc := va_free (wc := (wRd cI cZ cJ rd_a (cb_a 0) rd_3 ++ wCb cI cZ cJ cb_a lk_w v_a cb_4 ++ wBr cI cZ cJ v_a v_b v_5 ++ wSy cI cZ cJ sp_a sp_6)) hD hS hA [1, 2, 3, 4, 5, 16, 17, 18, 19, 20, 21, 22, 23, 24, 25] rfl
    refine va_calli (va_runV (As := [.ref (sp_a 0)]) (rest := []) ⟨hx, hb, hml, hown, hts⟩ (k_C_Reader_takeExports l dC dI cI cZ cJ rd_a cb_a v_a v_b sp_a lk_w H.size hf1) (cwV 1 hts (gV t_541 t_542 t_543 t_61 t_544) rfl rfl rfl hd_Reader_takeExports ⟨Nat.le_trans (Nat.le_of_ble_eq_true rfl) hRf, Nat.le_trans (Nat.le_of_ble_eq_true rfl) hRl⟩) ⟨kP_blind, va_recv hK hP (ci := 5) (q0 := 1) rfl rfl, kP_at hPc hK hDc hN⟩ rfl rfl hl.1 rfl (lv_room (Nat.le_of_ble_eq_true rfl)) d_SD_read_29 hRc) hS (fun q _ h => hFc q h) hFc (fun r9 u t H1 locs ht hvm hw hB hz1 hk1 hS => ?_)
    rw [hw.1]
    obtain ⟨hP, hD⟩ := kQ_join (wr := (wSd cI cZ cJ sd_a lk_w v_a lk_wr (rd_a 0) (cu_a 0) (sp_a 0) sd ++ wSy cI cZ cJ cu_a cu)) (w1 := (wRd cI cZ cJ rd_a (cb_a 0) rd_17 ++ wCb cI cZ cJ cb_a lk_w v_a cb_18 ++ wBr cI cZ cJ v_a v_b v_19 ++ wSy cI cZ cJ sp_a sp_20)) hP hD [1, 2, 3, 4, 5, 16, 17, 18, 19, 20, 21, 22, 23, 24, 25] [0, 6, 7, 8, 9, 10, 11, 12, 13, 14, 15] rfl rfl (by decide) (by decide) ht hk1 hFc hB
    generalize H1 = H at hP hS ⊢
    have hP : va_P (dC, dI) vwCl (wSd cI cZ cJ sd_a lk_w v_a lk_wr (rd_a 0) (cu_a 0) (sp_a 0) sd ++ wRd cI cZ cJ rd_a (cb_a 0) rd_17 ++ wCb cI cZ cJ cb_a lk_w v_a cb_18 ++ wBr cI cZ cJ v_a v_b v_19 ++ wSy cI cZ cJ cu_a cu ++ wSy cI cZ cJ sp_a sp_20) H := hP.sub [0, 11, 12, 13, 14, 15, 1, 2, 3, 4, 5, 6, 7, 8, 9, 10, 16, 17, 18, 19, 20, 21, 22, 23, 24, 25] rfl
    have hD : va_D A (wSd cI cZ cJ sd_a lk_w v_a lk_wr (rd_a 0) (cu_a 0) (sp_a 0) sd ++ wRd cI cZ cJ rd_a (cb_a 0) rd_17 ++ wCb cI cZ cJ cb_a lk_w v_a cb_18 ++ wBr cI cZ cJ v_a v_b v_19 ++ wSy cI cZ cJ cu_a cu ++ wSy cI cZ cJ sp_a sp_20) := hD.sub [0, 11, 12, 13, 14, 15, 1, 2, 3, 4, 5, 6, 7, 8, 9, 10, 16, 17, 18, 19, 20, 21, 22, 23, 24, 25] (by decide) rfl
    refine lv_if_eq (tgt := 39) hx hb d_SD_read_32 (by decide) (fun c_21 => ?_) (fun c_21 => ?_)
    · rw [if_pos c_21] at hf
      refine lv_iconst (v := 0) hx hb d_SD_read_39 (by decide) ?_
      exact J40_11 _ _ _ rd_17 cb_18 v_19 sp_20 0 hP hD hS (lv_sub hl [0] rfl) hf
    · rw [if_neg c_21] at hf
      refine lv_iconst (v := 1) hx hb d_SD_read_35 (by decide) ?_
      refine lv_goto (tgt := 40) hx hb d_SD_read_36 (by decide) ?_
      exact J40_11 _ _ _ rd_17 cb_18 v_19 sp_20 1 hP hD hS (lv_sub hl [0] rfl) hf
end
set_option maxHeartbeats 4000000 in
set_option maxRecDepth 100000 in
theorem k_C_SD_readN (l : Launch) (dC : Nat → ClassId) (dI : Nat → Nat → Nat) (cI cZ cJ : ClassId) (sd_a : Nat → Nat) (rd_a : Nat → Nat) (cb_a : Nat → Nat) (v_a v_b : Nat) (cu_a : Nat → Nat) (sp_a : Nat → Nat) (lk_w : Nat) (lk_wr : Nat) (sz : Nat) {sd : Sd} {rd : Rd} {cb : Cb} {v : Br} {cu : Sy} {sp : Sy} {r : Int32} {rd' : Rd} {cb' : Cb} {v' : Br} {sp' : Sy} (hf : f_C_SD_readN sd rd cb v cu sp = some (r, rd', cb', v', sp')) :
    Met l y_SD_read ws_SD_read ({ frames := 8, cells := 0, slots := 0, locals := 179 }) (va_Pc [.ref (sd_a 0)] (kP (dC, dI) vwCl (TYS cI cZ cJ) (wSd cI cZ cJ sd_a lk_w v_a lk_wr (rd_a 0) (cu_a 0) (sp_a 0) sd ++ wRd cI cZ cJ rd_a (cb_a 0) rd ++ wCb cI cZ cJ cb_a lk_w v_a cb ++ wBr cI cZ cJ v_a v_b v ++ wSy cI cZ cJ cu_a cu ++ wSy cI cZ cJ sp_a sp) sz)) (va_Qi (fun (q : Int32) (_ : Unit) => q = r) (fun _ t => kQ (dC, dI) vwCl (TYS cI cZ cJ) (wSd cI cZ cJ sd_a lk_w v_a lk_wr (rd_a 0) (cu_a 0) (sp_a 0) sd ++ wRd cI cZ cJ rd_a (cb_a 0) rd ++ wCb cI cZ cJ cb_a lk_w v_a cb ++ wBr cI cZ cJ v_a v_b v ++ wSy cI cZ cJ cu_a cu ++ wSy cI cZ cJ sp_a sp) sz (wSd cI cZ cJ sd_a lk_w v_a lk_wr (rd_a 0) (cu_a 0) (sp_a 0) sd ++ wRd cI cZ cJ rd_a (cb_a 0) rd' ++ wCb cI cZ cJ cb_a lk_w v_a cb' ++ wBr cI cZ cJ v_a v_b v' ++ wSy cI cZ cJ cu_a cu ++ wSy cI cZ cJ sp_a sp') t) (va_A (wSd cI cZ cJ sd_a lk_w v_a lk_wr (rd_a 0) (cu_a 0) (sp_a 0) sd ++ wRd cI cZ cJ rd_a (cb_a 0) rd ++ wCb cI cZ cJ cb_a lk_w v_a cb ++ wBr cI cZ cJ v_a v_b v ++ wSy cI cZ cJ cu_a cu ++ wSy cI cZ cJ sp_a sp) sz)) 0 0 (va_A (wSd cI cZ cJ sd_a lk_w v_a lk_wr (rd_a 0) (cu_a 0) (sp_a 0) sd ++ wRd cI cZ cJ rd_a (cb_a 0) rd ++ wCb cI cZ cJ cb_a lk_w v_a cb ++ wBr cI cZ cJ v_a v_b v ++ wSy cI cZ cJ cu_a cu ++ wSy cI cZ cJ sp_a sp) sz) := by
  refine Met.ofW (cc := c_SD_read) (maxL := 3) (ret := (some .int)) (by decide) rfl ?_
  intro p e s m args below meth c s₁ B hml hv
  obtain ⟨rfl, hsz, hP, hK, hD0, hN⟩ := hv
  have hr := B.returns
  have hlocks := B.notSynchronized
  subst hsz
  have hD := hD0.self (sz := s.heap.size)
  have hl := lv_entry ([.ref (sd_a 0)]) (n := 3) (Nat.le_of_ble_eq_true rfl)
  rw [lg_entry_eq]
  generalize (lg_sl ([.ref (sd_a 0)]) ++ List.replicate (3 - (lg_sl ([.ref (sd_a 0)])).length) Slot.unset).toArray = ls at hl ⊢
  refine B_C_SD_readN (A := va_A (wSd cI cZ cJ sd_a lk_w v_a lk_wr (rd_a 0) (cu_a 0) (sp_a 0) sd ++ wRd cI cZ cJ rd_a (cb_a 0) rd ++ wCb cI cZ cJ cb_a lk_w v_a cb ++ wBr cI cZ cJ v_a v_b v ++ wSy cI cZ cJ cu_a cu ++ wSy cI cZ cJ sp_a sp) s.heap.size) ⟨B.exec, B.bytes, hml, findClass_of_methodNamed B.named, fun w h => atoms_spec (ws := ws_SD_read) B.pre w (List.mem_cons_of_mem _ h), hK, fun q h => Or.inr h, Nat.le_of_ble_eq_true rfl, Nat.le_of_ble_eq_true rfl, hN, Nat.le_of_ble_eq_true rfl, Nat.le_of_ble_eq_true rfl⟩ (fun H locs ls v rd'1 cb'1 v'1 sp'1 hP hD hS hf => ?_) hP hD va_S.rf hl hf
  · cases hf
    exact W.iret B.exec B.bytes hr (fun t ht hW => ⟨⟨_, (), rfl, rfl, ⟨by rw [ht]; exact hP, va_K.moved hW.alike hK, hD⟩⟩, hS.F ht⟩) hS.2.2 d_SD_read_61

/-! C_SD_readY -/
def j_C_SD_readY_40_12 (rd_7 : Rd) (cb_8 : Cb) (v_9 : Br) (sp_10 : Sy) (z0_11 : Int32) : Option (Int32 × Rd × Cb × Br × Sy) := bd (f_ByteRow_removeAll v_9) <| fun v_13 => (if z0_11 = 0 then none else some (Sy_n sp_10, rd_7, cb_8, v_13, sp_10))
def f_C_SD_readY (sd : Sd) (rd : Rd) (cb : Cb) (v : Br) (cu : Sy) (sp : Sy) : Option (Int32 × Rd × Cb × Br × Sy) := bd (f_Symbols_removeAll sp) <| fun sp_1 => bd (f_C_Reader_takeSymbols rd cb v sp_1) <| fun (r_2, rd_3, cb_4, v_5, sp_6) => (if r_2 = 0 then j_C_SD_readY_40_12 rd_3 cb_4 v_5 sp_6 0 else bd (f_C_Reader_takeExports rd_3 cb_4 v_5 sp_6) <| fun (r_16, rd_17, cb_18, v_19, sp_20) => (if r_16 = 0 then j_C_SD_readY_40_12 rd_17 cb_18 v_19 sp_20 0 else j_C_SD_readY_40_12 rd_17 cb_18 v_19 sp_20 1))
section
variable {p : Program} {l : Launch} {e : Env} {R : Room} {s : State} {m : MethodId} {args : Array Value} {below : List Frame} {meth : Method} {c : Code} {Q : State → Prop} {A : Nat → Prop}
set_option maxHeartbeats 4000000 in
set_option maxRecDepth 100000 in
theorem B_C_SD_readY {cells slots : Nat} {dC : Nat → ClassId} {dI : Nat → Nat → Nat} {cI cZ cJ : ClassId} {sd_a : Nat → Nat} {rd_a : Nat → Nat} {cb_a : Nat → Nat} {v_a v_b : Nat} {cu_a : Nat → Nat} {sp_a : Nat → Nat} {lk_w : Nat} {lk_wr : Nat} {sd : Sd} {rd : Rd} {cb : Cb} {v : Br} {cu : Sy} {sp : Sy} {res : Int32 × Rd × Cb × Br × Sy} (C0 : cxt p c m s args R cells slots R_SD c_SD_read tb 3 (dC, dI) vwCl (TYS cI cZ cJ) A 8 179)
    (hr87 : ∀ (H : Heap) (locs : List Loc) (ls : Array Slot) (v : Int32) (rd' : Rd) (cb' : Cb) (v' : Br) (sp' : Sy), va_P (dC, dI) vwCl (wSd cI cZ cJ sd_a lk_w v_a lk_wr (rd_a 0) (sp_a 0) (cu_a 0) sd ++ wRd cI cZ cJ rd_a (cb_a 0) rd' ++ wCb cI cZ cJ cb_a lk_w v_a cb' ++ wBr cI cZ cJ v_a v_b v' ++ wSy cI cZ cJ cu_a cu ++ wSy cI cZ cJ sp_a sp') H → va_D A (wSd cI cZ cJ sd_a lk_w v_a lk_wr (rd_a 0) (sp_a 0) (cu_a 0) sd ++ wRd cI cZ cJ rd_a (cb_a 0) rd' ++ wCb cI cZ cJ cb_a lk_w v_a cb' ++ wBr cI cZ cJ v_a v_b v' ++ wSy cI cZ cJ cu_a cu ++ wSy cI cZ cJ sp_a sp') → va_S A s.heap H locs → some (v, rd', cb', v', sp') = some res → W p l e R s m args below meth c H locs cells slots Q (F0 m 87 ls [.int v]))
    {H : Heap} {locs : List Loc} {ls : Array Slot} (hP : va_P (dC, dI) vwCl (wSd cI cZ cJ sd_a lk_w v_a lk_wr (rd_a 0) (cu_a 0) (sp_a 0) sd ++ wRd cI cZ cJ rd_a (cb_a 0) rd ++ wCb cI cZ cJ cb_a lk_w v_a cb ++ wBr cI cZ cJ v_a v_b v ++ wSy cI cZ cJ cu_a cu ++ wSy cI cZ cJ sp_a sp) H) (hD : va_D A (wSd cI cZ cJ sd_a lk_w v_a lk_wr (rd_a 0) (cu_a 0) (sp_a 0) sd ++ wRd cI cZ cJ rd_a (cb_a 0) rd ++ wCb cI cZ cJ cb_a lk_w v_a cb ++ wBr cI cZ cJ v_a v_b v ++ wSy cI cZ cJ cu_a cu ++ wSy cI cZ cJ sp_a sp)) (hS : va_S A s.heap H locs) (hl : lv_has ls 3 [(0, .ref (sd_a 0))]) (hf : f_C_SD_readY sd rd cb v cu sp = some res) : W p l e R s m args below meth c H locs cells slots Q (F0 m 0 ls []) := by
  obtain ⟨hx, hb, hml, hown, hts, hK, hA, hRf, hRl, hN, hRc⟩ := id C0
  rw [f_C_SD_readY] at hf
  refine lv_aload_n hx hb d_SD_read_0 rfl (lv_at hl 0 rfl) ?_
  refine va_get (D := (dC, dI)) (ci := 6) (v := .ref (sp_a 0)) (C := R_SD) (T := T_SD) (N := 7) hx hb hts in_SD hown hK hP 0 rfl rfl 6 (by decide) (hts _ t_264) (fun _ h9 => h9) rfl d_SD_read_1 ?_
  obtain ⟨sp_1, hf1, hf⟩ := bd_ex hf
  try dsimp only at hf
  have hPc := hP.sub (ws' := (wSy cI cZ cJ sp_a sp)) [16, 17, 18, 19, 20, 21, 22, 23, 24, 25] rfl
  have hDc := hD.sub (ws' := (wSy cI cZ cJ sp_a sp)) [16, 17, 18, 19, 20, 21, 22, 23, 24, 25] (by decide) rfl
  have hFc := va_free (wc := (wSy cI cZ cJ sp_a sp)) hD hS hA [16, 17, 18, 19, 20, 21, 22, 23, 24, 25] rfl
  refine va_callv (va_runV (As := []) (rest := []) ⟨hx, hb, hml, hown, hts⟩ (k_Symbols_removeAll l dC dI cI cZ cJ sp_a H.size hf1) (cwV 0 hts (gV t_437 t_438 t_439 t_62 t_440) rfl rfl rfl hd_Symbols_removeAll ⟨Nat.le_trans (Nat.le_of_ble_eq_true rfl) hRf, Nat.le_trans (Nat.le_of_ble_eq_true rfl) hRl⟩) ⟨kP_blind, va_recv hK hP (ci := 0) (q0 := 16) rfl rfl, kP_at hPc hK hDc hN⟩ rfl rfl hl.1 rfl (lv_room (Nat.le_of_ble_eq_true rfl)) d_SD_read_4 hRc) hS (fun q _ h => hFc q h) hFc (fun u t H1 locs ht hvm hw hB hz1 hk1 hS => ?_)
  obtain ⟨hP, hD⟩ := kQ_join (wr := (wSd cI cZ cJ sd_a lk_w v_a lk_wr (rd_a 0) (cu_a 0) (sp_a 0) sd ++ wRd cI cZ cJ rd_a (cb_a 0) rd ++ wCb cI cZ cJ cb_a lk_w v_a cb ++ wBr cI cZ cJ v_a v_b v ++ wSy cI cZ cJ cu_a cu)) (w1 := (wSy cI cZ cJ sp_a sp_1)) hP hD [16, 17, 18, 19, 20, 21, 22, 23, 24, 25] [0, 1, 2, 3, 4, 5, 6, 7, 8, 9, 10, 11, 12, 13, 14, 15] rfl rfl (by decide) (by decide) ht hk1 hFc hB
  generalize H1 = H at hP hS ⊢
  have hP : va_P (dC, dI) vwCl (wSd cI cZ cJ sd_a lk_w v_a lk_wr (rd_a 0) (cu_a 0) (sp_a 0) sd ++ wRd cI cZ cJ rd_a (cb_a 0) rd ++ wCb cI cZ cJ cb_a lk_w v_a cb ++ wBr cI cZ cJ v_a v_b v ++ wSy cI cZ cJ cu_a cu ++ wSy cI cZ cJ sp_a sp_1) H := hP.sub [0, 1, 2, 3, 4, 5, 6, 7, 8, 9, 10, 11, 12, 13, 14, 15, 16, 17, 18, 19, 20, 21, 22, 23, 24, 25] rfl
  have hD : va_D A (wSd cI cZ cJ sd_a lk_w v_a lk_wr (rd_a 0) (cu_a 0) (sp_a 0) sd ++ wRd cI cZ cJ rd_a (cb_a 0) rd ++ wCb cI cZ cJ cb_a lk_w v_a cb ++ wBr cI cZ cJ v_a v_b v ++ wSy cI cZ cJ cu_a cu ++ wSy cI cZ cJ sp_a sp_1) := hD.sub [0, 1, 2, 3, 4, 5, 6, 7, 8, 9, 10, 11, 12, 13, 14, 15, 16, 17, 18, 19, 20, 21, 22, 23, 24, 25] (by decide) rfl
  refine lv_aload_n hx hb d_SD_read_7 rfl (lv_at hl 0 rfl) ?_
  refine va_get (D := (dC, dI)) (ci := 6) (v := .ref (rd_a 0)) (C := R_SD) (T := T_SD) (N := 7) hx hb hts in_SD hown hK hP 0 rfl rfl 4 (by decide) (hts _ t_262) (fun _ h9 => h9) rfl d_SD_read_8 ?_
  refine lv_aload_n hx hb d_SD_read_11 rfl (lv_at hl 0 rfl) ?_
  refine va_get (D := (dC, dI)) (ci := 6) (v := .ref (sp_a 0)) (C := R_SD) (T := T_SD) (N := 7) hx hb hts in_SD hown hK hP 0 rfl rfl 6 (by decide) (hts _ t_264) (fun _ h9 => h9) rfl d_SD_read_12 ?_
  obtain ⟨⟨r_2, rd_3, cb_4, v_5, sp_6⟩, hf1, hf⟩ := bd_ex hf
  try dsimp only at hf
  have hPc := hP.sub (ws' := (wRd cI cZ cJ rd_a (cb_a 0) rd ++ wCb cI cZ cJ cb_a lk_w v_a cb ++ wBr cI cZ cJ v_a v_b v ++ wSy cI cZ cJ sp_a sp_1)) [1, 2, 3, 4, 5, 16, 17, 18, 19, 20, 21, 22, 23, 24, 25] rfl
  have hDc := hD.sub (ws' := (wRd cI cZ cJ rd_a (cb_a 0) rd ++ wCb cI cZ cJ cb_a lk_w v_a cb ++ wBr cI cZ cJ v_a v_b v ++ wSy cI cZ cJ sp_a sp_1)) [1, 2, 3, 4, 5, 16, 17, 18, 19, 20, 21, 22, 23, 24, 25] (by decide) rfl
  have hFc := va_free (wc := (wRd cI cZ cJ rd_a (cb_a 0) rd ++ wCb cI cZ cJ cb_a lk_w v_a cb ++ wBr cI cZ cJ v_a v_b v ++ wSy cI cZ cJ sp_a sp_1)) hD hS hA [1, 2, 3, 4, 5, 16, 17, 18, 19, 20, 21, 22, 23, 24, 25] rfl
  refine va_calli (va_runV (As := [.ref (sp_a 0)]) (rest := []) ⟨hx, hb, hml, hown, hts⟩ (k_C_Reader_takeSymbols l dC dI cI cZ cJ rd_a cb_a v_a v_b sp_a lk_w H.size hf1) (cwV 1 hts (gV t_441 t_442 t_443 t_61 t_444) rfl rfl rfl hd_Reader_takeSymbols ⟨Nat.le_trans (Nat.le_of_ble_eq_true rfl) hRf, Nat.le_trans (Nat.le_of_ble_eq_true rfl) hRl⟩) ⟨kP_blind, va_recv hK hP (ci := 5) (q0 := 1) rfl rfl, kP_at hPc hK hDc hN⟩ rfl rfl hl.1 rfl (lv_room (Nat.le_of_ble_eq_true rfl)) d_SD_read_15 hRc) hS (fun q _ h => hFc q h) hFc (fun r9 u t H1 locs ht hvm hw hB hz1 hk1 hS => ?_)
  rw [hw.1]
  obtain ⟨hP, hD⟩ := kQ_join (wr := (wSd cI cZ cJ sd_a lk_w v_a lk_wr (rd_a 0) (cu_a 0) (sp_a 0) sd ++ wSy cI cZ cJ cu_a cu)) (w1 := (wRd cI cZ cJ rd_a (cb_a 0) rd_3 ++ wCb cI cZ cJ cb_a lk_w v_a cb_4 ++ wBr cI cZ cJ v_a v_b v_5 ++ wSy cI cZ cJ sp_a sp_6)) hP hD [1, 2, 3, 4, 5, 16, 17, 18, 19, 20, 21, 22, 23, 24, 25] [0, 6, 7, 8, 9, 10, 11, 12, 13, 14, 15] rfl rfl (by decide) (by decide) ht hk1 hFc hB
  generalize H1 = H at hP hS ⊢
  have hP : va_P (dC, dI) vwCl (wSd cI cZ cJ sd_a lk_w v_a lk_wr (rd_a 0) (cu_a 0) (sp_a 0) sd ++ wRd cI cZ cJ rd_a (cb_a 0) rd_3 ++ wCb cI cZ cJ cb_a lk_w v_a cb_4 ++ wBr cI cZ cJ v_a v_b v_5 ++ wSy cI cZ cJ cu_a cu ++ wSy cI cZ cJ sp_a sp_6) H := hP.sub [0, 11, 12, 13, 14, 15, 1, 2, 3, 4, 5, 6, 7, 8, 9, 10, 16, 17, 18, 19, 20, 21, 22, 23, 24, 25] rfl
  have hD : va_D A (wSd cI cZ cJ sd_a lk_w v_a lk_wr (rd_a 0) (cu_a 0) (sp_a 0) sd ++ wRd cI cZ cJ rd_a (cb_a 0) rd_3 ++ wCb cI cZ cJ cb_a lk_w v_a cb_4 ++ wBr cI cZ cJ v_a v_b v_5 ++ wSy cI cZ cJ cu_a cu ++ wSy cI cZ cJ sp_a sp_6) := hD.sub [0, 11, 12, 13, 14, 15, 1, 2, 3, 4, 5, 6, 7, 8, 9, 10, 16, 17, 18, 19, 20, 21, 22, 23, 24, 25] (by decide) rfl
  have J40_11 : ∀ (H : Heap) (locs : List Loc) (ls : Array Slot) (rd_7 : Rd) (cb_8 : Cb) (v_9 : Br) (sp_10 : Sy) (z0_11 : Int32), va_P (dC, dI) vwCl (wSd cI cZ cJ sd_a lk_w v_a lk_wr (rd_a 0) (cu_a 0) (sp_a 0) sd ++ wRd cI cZ cJ rd_a (cb_a 0) rd_7 ++ wCb cI cZ cJ cb_a lk_w v_a cb_8 ++ wBr cI cZ cJ v_a v_b v_9 ++ wSy cI cZ cJ cu_a cu ++ wSy cI cZ cJ sp_a sp_10) H → va_D A (wSd cI cZ cJ sd_a lk_w v_a lk_wr (rd_a 0) (cu_a 0) (sp_a 0) sd ++ wRd cI cZ cJ rd_a (cb_a 0) rd_7 ++ wCb cI cZ cJ cb_a lk_w v_a cb_8 ++ wBr cI cZ cJ v_a v_b v_9 ++ wSy cI cZ cJ cu_a cu ++ wSy cI cZ cJ sp_a sp_10) → va_S A s.heap H locs → lv_has ls 3 [(0, .ref (sd_a 0))] → j_C_SD_readY_40_12 rd_7 cb_8 v_9 sp_10 z0_11 = some res → W p l e R s m args below meth c H locs cells slots Q (F0 m 40 ls [.int z0_11]) := by
    intro H locs ls rd_7 cb_8 v_9 sp_10 z0_11 hP hD hS hl hf
    rw [j_C_SD_readY_40_12] at hf
    refine lv_istore_n (lv' := [(1, .int z0_11), (0, .ref (sd_a 0))]) hx hb d_SD_read_40 rfl hl (by decide) rfl (fun ls hl => ?_)
    refine lv_aload_n hx hb d_SD_read_41 rfl (lv_at hl 1 rfl) ?_
    refine va_get (D := (dC, dI)) (ci := 6) (v := .ref v_a) (C := R_SD) (T := T_SD) (N := 7) hx hb hts in_SD hown hK hP 0 rfl rfl 2 (by decide) (hts _ t_260) (fun _ h9 => h9) rfl d_SD_read_42 ?_
    obtain ⟨v_13, hf1, hf⟩ := bd_ex hf
    try dsimp only at hf
    have hPc := hP.sub (ws' := (wBr cI cZ cJ v_a v_b v_9)) [4, 5] rfl
    have hDc := hD.sub (ws' := (wBr cI cZ cJ v_a v_b v_9)) [4, 5] (by decide) rfl
    have hFc := va_free (wc := (wBr cI cZ cJ v_a v_b v_9)) hD hS hA [4, 5] rfl
    refine va_callv (va_runV (As := []) (rest := []) ⟨hx, hb, hml, hown, hts⟩ (k_ByteRow_removeAll l dC dI cI cZ cJ v_a v_b H.size hf1) (cwV 0 hts (gV t_545 t_303 t_304 t_56 t_305) rfl rfl rfl hd_ByteRow_removeAll ⟨Nat.le_trans (Nat.le_of_ble_eq_true rfl) hRf, Nat.le_trans (Nat.le_of_ble_eq_true rfl) hRl⟩) ⟨kP_blind, va_recv hK hP (ci := 1) (q0 := 4) rfl rfl, kP_at hPc hK hDc hN⟩ rfl rfl hl.1 rfl (lv_room (Nat.le_of_ble_eq_true rfl)) d_SD_read_45 hRc) hS (fun q _ h => hFc q h) hFc (fun u t H1 locs ht hvm hw hB hz1 hk1 hS => ?_)
    obtain ⟨hP, hD⟩ := kQ_join (wr := (wSd cI cZ cJ sd_a lk_w v_a lk_wr (rd_a 0) (cu_a 0) (sp_a 0) sd ++ wRd cI cZ cJ rd_a (cb_a 0) rd_7 ++ wCb cI cZ cJ cb_a lk_w v_a cb_8 ++ wSy cI cZ cJ cu_a cu ++ wSy cI cZ cJ sp_a sp_10)) (w1 := (wBr cI cZ cJ v_a v_b v_13)) hP hD [4, 5] [0, 1, 2, 3, 6, 7, 8, 9, 10, 11, 12, 13, 14, 15, 16, 17, 18, 19, 20, 21, 22, 23, 24, 25] rfl rfl (by decide) (by decide) ht hk1 hFc hB
    generalize H1 = H at hP hS ⊢
    have hP : va_P (dC, dI) vwCl (wSd cI cZ cJ sd_a lk_w v_a lk_wr (rd_a 0) (cu_a 0) (sp_a 0) sd ++ wRd cI cZ cJ rd_a (cb_a 0) rd_7 ++ wCb cI cZ cJ cb_a lk_w v_a cb_8 ++ wBr cI cZ cJ v_a v_b v_13 ++ wSy cI cZ cJ cu_a cu ++ wSy cI cZ cJ sp_a sp_10) H := hP.sub [0, 1, 2, 3, 24, 25, 4, 5, 6, 7, 8, 9, 10, 11, 12, 13, 14, 15, 16, 17, 18, 19, 20, 21, 22, 23] rfl
    have hD : va_D A (wSd cI cZ cJ sd_a lk_w v_a lk_wr (rd_a 0) (cu_a 0) (sp_a 0) sd ++ wRd cI cZ cJ rd_a (cb_a 0) rd_7 ++ wCb cI cZ cJ cb_a lk_w v_a cb_8 ++ wBr cI cZ cJ v_a v_b v_13 ++ wSy cI cZ cJ cu_a cu ++ wSy cI cZ cJ sp_a sp_10) := hD.sub [0, 1, 2, 3, 24, 25, 4, 5, 6, 7, 8, 9, 10, 11, 12, 13, 14, 15, 16, 17, 18, 19, 20, 21, 22, 23] (by decide) rfl
    refine lv_iload_n hx hb d_SD_read_48 rfl (lv_at hl 0 rfl) ?_
    refine lv_if_ne (tgt := 62) hx hb d_SD_read_49 (by decide) (fun c_14 => ?_) (fun c_14 => ?_)
    · rw [if_neg c_14] at hf
      refine lv_aload_n hx hb d_SD_read_62 rfl (lv_at hl 1 rfl) ?_
      refine va_get (D := (dC, dI)) (ci := 6) (v := .ref (cu_a 0)) (C := R_SD) (T := T_SD) (N := 7) hx hb hts in_SD hown hK hP 0 rfl rfl 5 (by decide) (hts _ t_263) (fun _ h9 => h9) rfl d_SD_read_63 ?_
      refine lv_astore_n (lv' := [(2, .ref (cu_a 0)), (1, .int z0_11), (0, .ref (sd_a 0))]) hx hb d_SD_read_66 rfl hl (by decide) rfl (fun ls hl => ?_)
      refine lv_aload_n hx hb d_SD_read_67 rfl (lv_at hl 2 rfl) ?_
      refine lv_aload_n hx hb d_SD_read_68 rfl (lv_at hl 2 rfl) ?_
      refine va_get (D := (dC, dI)) (ci := 6) (v := .ref (sp_a 0)) (C := R_SD) (T := T_SD) (N := 7) hx hb hts in_SD hown hK hP 0 rfl rfl 6 (by decide) (hts _ t_264) (fun _ h9 => h9) rfl d_SD_read_69 ?_
      refine va_put (D := (dC, dI)) (ci := 6) (v := .ref (sp_a 0)) (ty := (.object "SymbolDictionaries$Symbols")) (C := R_SD) (T := T_SD) (N := 7) hx hb hts in_SD ty_SD tyok_SD nm_SD hown hK hP hD hS 0 rfl rfl 5 (by decide) (hts _ t_263) (fun _ h9 => h9) rfl (by decide +kernel) rfl rfl (Nat.le_of_ble_eq_true rfl) d_SD_read_72 (fun H locs hP hD hS => ?_)
      have hP : va_P (dC, dI) vwCl (wSd cI cZ cJ sd_a lk_w v_a lk_wr (rd_a 0) (sp_a 0) (sp_a 0) sd ++ wRd cI cZ cJ rd_a (cb_a 0) rd_7 ++ wCb cI cZ cJ cb_a lk_w v_a cb_8 ++ wBr cI cZ cJ v_a v_b v_13 ++ wSy cI cZ cJ cu_a cu ++ wSy cI cZ cJ sp_a sp_10) H := hP
      have hD : va_D A (wSd cI cZ cJ sd_a lk_w v_a lk_wr (rd_a 0) (sp_a 0) (sp_a 0) sd ++ wRd cI cZ cJ rd_a (cb_a 0) rd_7 ++ wCb cI cZ cJ cb_a lk_w v_a cb_8 ++ wBr cI cZ cJ v_a v_b v_13 ++ wSy cI cZ cJ cu_a cu ++ wSy cI cZ cJ sp_a sp_10) := hD
      refine lv_aload_n hx hb d_SD_read_75 rfl (lv_at hl 2 rfl) ?_
      refine lv_aload_n hx hb d_SD_read_76 rfl (lv_at hl 0 rfl) ?_
      refine va_put (D := (dC, dI)) (ci := 6) (v := .ref (cu_a 0)) (ty := (.object "SymbolDictionaries$Symbols")) (C := R_SD) (T := T_SD) (N := 7) hx hb hts in_SD ty_SD tyok_SD nm_SD hown hK hP hD hS 0 rfl rfl 6 (by decide) (hts _ t_264) (fun _ h9 => h9) rfl (by decide +kernel) rfl rfl (Nat.le_of_ble_eq_true rfl) d_SD_read_77 (fun H locs hP hD hS => ?_)
      have hP : va_P (dC, dI) vwCl (wSd cI cZ cJ sd_a lk_w v_a lk_wr (rd_a 0) (sp_a 0) (cu_a 0) sd ++ wRd cI cZ cJ rd_a (cb_a 0) rd_7 ++ wCb cI cZ cJ cb_a lk_w v_a cb_8 ++ wBr cI cZ cJ v_a v_b v_13 ++ wSy cI cZ cJ cu_a cu ++ wSy cI cZ cJ sp_a sp_10) H := hP
      have hD : va_D A (wSd cI cZ cJ sd_a lk_w v_a lk_wr (rd_a 0) (sp_a 0) (cu_a 0) sd ++ wRd cI cZ cJ rd_a (cb_a 0) rd_7 ++ wCb cI cZ cJ cb_a lk_w v_a cb_8 ++ wBr cI cZ cJ v_a v_b v_13 ++ wSy cI cZ cJ cu_a cu ++ wSy cI cZ cJ sp_a sp_10) := hD
      refine lv_aload_n hx hb d_SD_read_80 rfl (lv_at hl 2 rfl) ?_
      refine va_get (D := (dC, dI)) (ci := 6) (v := .ref (sp_a 0)) (C := R_SD) (T := T_SD) (N := 7) hx hb hts in_SD hown hK hP 0 rfl rfl 5 (by decide) (hts _ t_263) (fun _ h9 => h9) rfl d_SD_read_81 ?_
      refine va_get (D := (dC, dI)) (ci := 0) (v := .int (Sy_n sp_10)) (C := R_Symbols) (T := T_Symbols) (N := 10) hx hb hts in_Symbols hown hK hP 16 rfl rfl 7 (by decide) (hts _ t_232) (fun _ h9 => h9) rfl d_SD_read_84 ?_
      exact hr87 _ _ _ (Sy_n sp_10) rd_7 cb_8 v_13 sp_10 hP hD hS hf
    · rw [if_pos c_14] at hf
      refine lv_iconst (v := (-1)) hx hb d_SD_read_52 (by decide) ?_
      refine lv_aload_n hx hb d_SD_read_53 rfl (lv_at hl 1 rfl) ?_
      refine va_get (D := (dC, dI)) (ci := 6) (v := .ref (rd_a 0)) (C := R_SD) (T := T_SD) (N := 7) hx hb hts in_SD hown hK hP 0 rfl rfl 4 (by decide) (hts _ t_262) (fun _ h9 => h9) rfl d_SD_read_54 ?_
      refine va_get (D := (dC, dI)) (ci := 5) (v := .int (Rd_wy rd_7)) (C := R_Reader) (T := T_Reader) (N := 5) hx hb hts in_Reader hown hK hP 1 rfl rfl 0 (by decide) (hts _ t_184) (fun _ h9 => h9) rfl d_SD_read_57 ?_
      refine lv_isub hx hb d_SD_read_60 ?_
      exact absurd hf (by simp)
  refine lv_if_eq (tgt := 39) hx hb d_SD_read_18 (by decide) (fun c_15 => ?_) (fun c_15 => ?_)
  · rw [if_pos c_15] at hf
    refine lv_iconst (v := 0) hx hb d_SD_read_39 (by decide) ?_
    exact J40_11 _ _ _ rd_3 cb_4 v_5 sp_6 0 hP hD hS (lv_sub hl [0] rfl) hf
  · rw [if_neg c_15] at hf
    refine lv_aload_n hx hb d_SD_read_21 rfl (lv_at hl 0 rfl) ?_
    refine va_get (D := (dC, dI)) (ci := 6) (v := .ref (rd_a 0)) (C := R_SD) (T := T_SD) (N := 7) hx hb hts in_SD hown hK hP 0 rfl rfl 4 (by decide) (hts _ t_262) (fun _ h9 => h9) rfl d_SD_read_22 ?_
    refine lv_aload_n hx hb d_SD_read_25 rfl (lv_at hl 0 rfl) ?_
    refine va_get (D := (dC, dI)) (ci := 6) (v := .ref (sp_a 0)) (C := R_SD) (T := T_SD) (N := 7) hx hb hts in_SD hown hK hP 0 rfl rfl 6 (by decide) (hts _ t_264) (fun _ h9 => h9) rfl d_SD_read_26 ?_
    obtain ⟨⟨r_16, rd_17, cb_18, v_19, sp_20⟩, hf1, hf⟩ := bd_ex hf
    try dsimp only at hf
    have hPc := hP.sub (ws' := (wRd cI cZ cJ rd_a (cb_a 0) rd_3 ++ wCb cI cZ cJ cb_a lk_w v_a cb_4 ++ wBr cI cZ cJ v_a v_b v_5 ++ wSy cI cZ cJ sp_a sp_6)) [1, 2, 3, 4, 5, 16, 17, 18, 19, 20, 21, 22, 23, 24, 25] rfl
    have hDc := hD.sub (ws' := (wRd cI cZ cJ rd_a (cb_a 0) rd_3 ++ wCb cI cZ cJ cb_a lk_w v_a cb_4 ++ wBr cI cZ cJ v_a v_b v_5 ++ wSy cI cZ cJ sp_a sp_6)) [1, 2, 3, 4, 5, 16, 17, 18, 19, 20, 21, 22, 23, 24, 25] (by decide) rfl
    have hFc := va_free (wc := (wRd cI cZ cJ rd_a (cb_a 0) rd_3 ++ wCb cI cZ cJ cb_a lk_w v_a cb_4 ++ wBr cI cZ cJ v_a v_b v_5 ++ wSy cI cZ cJ sp_a sp_6)) hD hS hA [1, 2, 3, 4, 5, 16, 17, 18, 19, 20, 21, 22, 23, 24, 25] rfl
    refine va_calli (va_runV (As := [.ref (sp_a 0)]) (rest := []) ⟨hx, hb, hml, hown, hts⟩ (k_C_Reader_takeExports l dC dI cI cZ cJ rd_a cb_a v_a v_b sp_a lk_w H.size hf1) (cwV 1 hts (gV t_541 t_542 t_543 t_61 t_544) rfl rfl rfl hd_Reader_takeExports ⟨Nat.le_trans (Nat.le_of_ble_eq_true rfl) hRf, Nat.le_trans (Nat.le_of_ble_eq_true rfl) hRl⟩) ⟨kP_blind, va_recv hK hP (ci := 5) (q0 := 1) rfl rfl, kP_at hPc hK hDc hN⟩ rfl rfl hl.1 rfl (lv_room (Nat.le_of_ble_eq_true rfl)) d_SD_read_29 hRc) hS (fun q _ h => hFc q h) hFc (fun r9 u t H1 locs ht hvm hw hB hz1 hk1 hS => ?_)
    rw [hw.1]
    obtain ⟨hP, hD⟩ := kQ_join (wr := (wSd cI cZ cJ sd_a lk_w v_a lk_wr (rd_a 0) (cu_a 0) (sp_a 0) sd ++ wSy cI cZ cJ cu_a cu)) (w1 := (wRd cI cZ cJ rd_a (cb_a 0) rd_17 ++ wCb cI cZ cJ cb_a lk_w v_a cb_18 ++ wBr cI cZ cJ v_a v_b v_19 ++ wSy cI cZ cJ sp_a sp_20)) hP hD [1, 2, 3, 4, 5, 16, 17, 18, 19, 20, 21, 22, 23, 24, 25] [0, 6, 7, 8, 9, 10, 11, 12, 13, 14, 15] rfl rfl (by decide) (by decide) ht hk1 hFc hB
    generalize H1 = H at hP hS ⊢
    have hP : va_P (dC, dI) vwCl (wSd cI cZ cJ sd_a lk_w v_a lk_wr (rd_a 0) (cu_a 0) (sp_a 0) sd ++ wRd cI cZ cJ rd_a (cb_a 0) rd_17 ++ wCb cI cZ cJ cb_a lk_w v_a cb_18 ++ wBr cI cZ cJ v_a v_b v_19 ++ wSy cI cZ cJ cu_a cu ++ wSy cI cZ cJ sp_a sp_20) H := hP.sub [0, 11, 12, 13, 14, 15, 1, 2, 3, 4, 5, 6, 7, 8, 9, 10, 16, 17, 18, 19, 20, 21, 22, 23, 24, 25] rfl
    have hD : va_D A (wSd cI cZ cJ sd_a lk_w v_a lk_wr (rd_a 0) (cu_a 0) (sp_a 0) sd ++ wRd cI cZ cJ rd_a (cb_a 0) rd_17 ++ wCb cI cZ cJ cb_a lk_w v_a cb_18 ++ wBr cI cZ cJ v_a v_b v_19 ++ wSy cI cZ cJ cu_a cu ++ wSy cI cZ cJ sp_a sp_20) := hD.sub [0, 11, 12, 13, 14, 15, 1, 2, 3, 4, 5, 6, 7, 8, 9, 10, 16, 17, 18, 19, 20, 21, 22, 23, 24, 25] (by decide) rfl
    refine lv_if_eq (tgt := 39) hx hb d_SD_read_32 (by decide) (fun c_21 => ?_) (fun c_21 => ?_)
    · rw [if_pos c_21] at hf
      refine lv_iconst (v := 0) hx hb d_SD_read_39 (by decide) ?_
      exact J40_11 _ _ _ rd_17 cb_18 v_19 sp_20 0 hP hD hS (lv_sub hl [0] rfl) hf
    · rw [if_neg c_21] at hf
      refine lv_iconst (v := 1) hx hb d_SD_read_35 (by decide) ?_
      refine lv_goto (tgt := 40) hx hb d_SD_read_36 (by decide) ?_
      exact J40_11 _ _ _ rd_17 cb_18 v_19 sp_20 1 hP hD hS (lv_sub hl [0] rfl) hf
end
set_option maxHeartbeats 4000000 in
set_option maxRecDepth 100000 in
theorem k_C_SD_readY (l : Launch) (dC : Nat → ClassId) (dI : Nat → Nat → Nat) (cI cZ cJ : ClassId) (sd_a : Nat → Nat) (rd_a : Nat → Nat) (cb_a : Nat → Nat) (v_a v_b : Nat) (cu_a : Nat → Nat) (sp_a : Nat → Nat) (lk_w : Nat) (lk_wr : Nat) (sz : Nat) {sd : Sd} {rd : Rd} {cb : Cb} {v : Br} {cu : Sy} {sp : Sy} {r : Int32} {rd' : Rd} {cb' : Cb} {v' : Br} {sp' : Sy} (hf : f_C_SD_readY sd rd cb v cu sp = some (r, rd', cb', v', sp')) :
    Met l y_SD_read ws_SD_read ({ frames := 8, cells := 0, slots := 0, locals := 179 }) (va_Pc [.ref (sd_a 0)] (kP (dC, dI) vwCl (TYS cI cZ cJ) (wSd cI cZ cJ sd_a lk_w v_a lk_wr (rd_a 0) (cu_a 0) (sp_a 0) sd ++ wRd cI cZ cJ rd_a (cb_a 0) rd ++ wCb cI cZ cJ cb_a lk_w v_a cb ++ wBr cI cZ cJ v_a v_b v ++ wSy cI cZ cJ cu_a cu ++ wSy cI cZ cJ sp_a sp) sz)) (va_Qi (fun (q : Int32) (_ : Unit) => q = r) (fun _ t => kQ (dC, dI) vwCl (TYS cI cZ cJ) (wSd cI cZ cJ sd_a lk_w v_a lk_wr (rd_a 0) (cu_a 0) (sp_a 0) sd ++ wRd cI cZ cJ rd_a (cb_a 0) rd ++ wCb cI cZ cJ cb_a lk_w v_a cb ++ wBr cI cZ cJ v_a v_b v ++ wSy cI cZ cJ cu_a cu ++ wSy cI cZ cJ sp_a sp) sz (wSd cI cZ cJ sd_a lk_w v_a lk_wr (rd_a 0) (sp_a 0) (cu_a 0) sd ++ wRd cI cZ cJ rd_a (cb_a 0) rd' ++ wCb cI cZ cJ cb_a lk_w v_a cb' ++ wBr cI cZ cJ v_a v_b v' ++ wSy cI cZ cJ cu_a cu ++ wSy cI cZ cJ sp_a sp') t) (va_A (wSd cI cZ cJ sd_a lk_w v_a lk_wr (rd_a 0) (cu_a 0) (sp_a 0) sd ++ wRd cI cZ cJ rd_a (cb_a 0) rd ++ wCb cI cZ cJ cb_a lk_w v_a cb ++ wBr cI cZ cJ v_a v_b v ++ wSy cI cZ cJ cu_a cu ++ wSy cI cZ cJ sp_a sp) sz)) 0 0 (va_A (wSd cI cZ cJ sd_a lk_w v_a lk_wr (rd_a 0) (cu_a 0) (sp_a 0) sd ++ wRd cI cZ cJ rd_a (cb_a 0) rd ++ wCb cI cZ cJ cb_a lk_w v_a cb ++ wBr cI cZ cJ v_a v_b v ++ wSy cI cZ cJ cu_a cu ++ wSy cI cZ cJ sp_a sp) sz) := by
  refine Met.ofW (cc := c_SD_read) (maxL := 3) (ret := (some .int)) (by decide) rfl ?_
  intro p e s m args below meth c s₁ B hml hv
  obtain ⟨rfl, hsz, hP, hK, hD0, hN⟩ := hv
  have hr := B.returns
  have hlocks := B.notSynchronized
  subst hsz
  have hD := hD0.self (sz := s.heap.size)
  have hl := lv_entry ([.ref (sd_a 0)]) (n := 3) (Nat.le_of_ble_eq_true rfl)
  rw [lg_entry_eq]
  generalize (lg_sl ([.ref (sd_a 0)]) ++ List.replicate (3 - (lg_sl ([.ref (sd_a 0)])).length) Slot.unset).toArray = ls at hl ⊢
  refine B_C_SD_readY (A := va_A (wSd cI cZ cJ sd_a lk_w v_a lk_wr (rd_a 0) (cu_a 0) (sp_a 0) sd ++ wRd cI cZ cJ rd_a (cb_a 0) rd ++ wCb cI cZ cJ cb_a lk_w v_a cb ++ wBr cI cZ cJ v_a v_b v ++ wSy cI cZ cJ cu_a cu ++ wSy cI cZ cJ sp_a sp) s.heap.size) ⟨B.exec, B.bytes, hml, findClass_of_methodNamed B.named, fun w h => atoms_spec (ws := ws_SD_read) B.pre w (List.mem_cons_of_mem _ h), hK, fun q h => Or.inr h, Nat.le_of_ble_eq_true rfl, Nat.le_of_ble_eq_true rfl, hN, Nat.le_of_ble_eq_true rfl, Nat.le_of_ble_eq_true rfl⟩ (fun H locs ls v rd'1 cb'1 v'1 sp'1 hP hD hS hf => ?_) hP hD va_S.rf hl hf
  · cases hf
    exact W.iret B.exec B.bytes hr (fun t ht hW => ⟨⟨_, (), rfl, rfl, ⟨by rw [ht]; exact hP, va_K.moved hW.alike hK, hD⟩⟩, hS.F ht⟩) hS.2.2 d_SD_read_87

