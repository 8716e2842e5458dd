theorem t_559 : (.codeWith y_Law_symbol c_Law_symbol 5 (some .int) [((0), (10), (13), (13)), ((0), (10), (17), (15))] : Cond) ∈ tb := List.mem_filter.mpr ⟨List.mem_of_getElem? (i := 559) (by decide +kernel), by decide +kernel⟩
theorem t_53 : (.initialized R_Law : Cond) ∈ tb := List.mem_filter.mpr ⟨List.mem_of_getElem? (i := 53) (by decide +kernel), by decide +kernel⟩
theorem t_557 : (.methodLink R_Law 76 y_Law_symbol : Cond) ∈ tb := List.mem_filter.mpr ⟨List.mem_of_getElem? (i := 557) (by decide +kernel), by decide +kernel⟩
theorem t_558 : (.static y_Law_symbol : Cond) ∈ tb := List.mem_filter.mpr ⟨List.mem_of_getElem? (i := 558) (by decide +kernel), by decide +kernel⟩
theorem t_910 : (.methodLink R_Law 79 y_Model_symbol : Cond) ∈ tb := List.mem_filter.mpr ⟨List.mem_of_getElem? (i := 910) (by decide +kernel), by decide +kernel⟩
theorem t_911 : (.instanceMethod y_Model_symbol : Cond) ∈ tb := List.mem_filter.mpr ⟨List.mem_of_getElem? (i := 911) (by decide +kernel), by decide +kernel⟩
theorem t_912 : (.selects R_Model y_Model_symbol y_Model_symbol : Cond) ∈ tb := List.mem_filter.mpr ⟨List.mem_of_getElem? (i := 912) (by decide +kernel), by decide +kernel⟩
theorem t_913 : (.code y_Model_symbol c_Model_symbol 5 (some .int) : Cond) ∈ tb := List.mem_filter.mpr ⟨List.mem_of_getElem? (i := 913) (by decide +kernel), by decide +kernel⟩
theorem t_906 : (.methodLink R_Law 80 y_Model_thrown : Cond) ∈ tb := List.mem_filter.mpr ⟨List.mem_of_getElem? (i := 906) (by decide +kernel), by decide +kernel⟩
theorem t_907 : (.instanceMethod y_Model_thrown : Cond) ∈ tb := List.mem_filter.mpr ⟨List.mem_of_getElem? (i := 907) (by decide +kernel), by decide +kernel⟩
theorem t_908 : (.selects R_Model y_Model_thrown y_Model_thrown : Cond) ∈ tb := List.mem_filter.mpr ⟨List.mem_of_getElem? (i := 908) (by decide +kernel), by decide +kernel⟩
theorem t_909 : (.code y_Model_thrown c_Model_thrown 1 (some .int) : Cond) ∈ tb := List.mem_filter.mpr ⟨List.mem_of_getElem? (i := 909) (by decide +kernel), by decide +kernel⟩
theorem t_654 : (.codeWith y_Law_put c_Law_put 7 (some .int) [((0), (21), (24), (21))] : Cond) ∈ tb := List.mem_filter.mpr ⟨List.mem_of_getElem? (i := 654) (by decide +kernel), by decide +kernel⟩
theorem t_652 : (.methodLink R_Law 83 y_Law_put : Cond) ∈ tb := List.mem_filter.mpr ⟨List.mem_of_getElem? (i := 652) (by decide +kernel), by decide +kernel⟩
theorem t_653 : (.static y_Law_put : Cond) ∈ tb := List.mem_filter.mpr ⟨List.mem_of_getElem? (i := 653) (by decide +kernel), by decide +kernel⟩
theorem t_918 : (.methodLink R_Law 86 y_Model_put : Cond) ∈ tb := List.mem_filter.mpr ⟨List.mem_of_getElem? (i := 918) (by decide +kernel), by decide +kernel⟩
theorem t_919 : (.instanceMethod y_Model_put : Cond) ∈ tb := List.mem_filter.mpr ⟨List.mem_of_getElem? (i := 919) (by decide +kernel), by decide +kernel⟩
theorem t_920 : (.selects R_Model y_Model_put y_Model_put : Cond) ∈ tb := List.mem_filter.mpr ⟨List.mem_of_getElem? (i := 920) (by decide +kernel), by decide +kernel⟩
theorem t_921 : (.code y_Model_put c_Model_put 6 (some .boolean) : Cond) ∈ tb := List.mem_filter.mpr ⟨List.mem_of_getElem? (i := 921) (by decide +kernel), by decide +kernel⟩
theorem t_692 : (.codeWith y_Law_row c_Law_row 6 (some .int) [((0), (12), (15), (21))] : Cond) ∈ tb := List.mem_filter.mpr ⟨List.mem_of_getElem? (i := 692) (by decide +kernel), by decide +kernel⟩
theorem t_690 : (.methodLink R_Law 87 y_Law_row : Cond) ∈ tb := List.mem_filter.mpr ⟨List.mem_of_getElem? (i := 690) (by decide +kernel), by decide +kernel⟩
theorem t_691 : (.static y_Law_row : Cond) ∈ tb := List.mem_filter.mpr ⟨List.mem_of_getElem? (i := 691) (by decide +kernel), by decide +kernel⟩
theorem t_934 : (.methodLink R_Law 90 y_Model_row : Cond) ∈ tb := List.mem_filter.mpr ⟨List.mem_of_getElem? (i := 934) (by decide +kernel), by decide +kernel⟩
theorem t_935 : (.instanceMethod y_Model_row : Cond) ∈ tb := List.mem_filter.mpr ⟨List.mem_of_getElem? (i := 935) (by decide +kernel), by decide +kernel⟩
theorem t_936 : (.selects R_Model y_Model_row y_Model_row : Cond) ∈ tb := List.mem_filter.mpr ⟨List.mem_of_getElem? (i := 936) (by decide +kernel), by decide +kernel⟩
theorem t_937 : (.code y_Model_row c_Model_row 4 (some .int) : Cond) ∈ tb := List.mem_filter.mpr ⟨List.mem_of_getElem? (i := 937) (by decide +kernel), by decide +kernel⟩
set_option maxHeartbeats 8000000 in
set_option maxRecDepth 100000 in
theorem L_P_symbol {p : Program} {l : Launch} {e : Env} {R : Room} {s : State} {m : MethodId} {args : Array Value} {below : List Frame} {meth : Method} {c : Code} {Q : State → Prop} {A : Nat → Prop} {dC : Nat → ClassId} {dI : Nat → Nat → Nat} {cI cZ cJ : ClassId} {sd_a cu_a sp_a : Nat → Nat} {w_a w_b v_a v_b : Nat} {wr_a rd_a pb_a mo_a ou_a : Nat → Nat} {sd : Sd} {cu sp : Sy} {w v : Br} {wr : Wr} {rd : Rd} {pb : Pb} {mo : Mo} {ou : Ou} {b L : Nat} {xs : Nat → Int32} {i : Int32} {j : Nat} {Rl : Sd → Sy → Sy → Br → Br → Wr → Rd → Pb → Mo → Prop} (hl9 : l.stackTraces = false) (C0 : lcx p c m s args R (dC, dI) (TYS cI cZ cJ) A b L xs i j) (hRb : ∀ sd cu sp w v wr rd pb mo, Rl sd cu sp w v wr rd pb mo → Br_byL w ≤ 40000 ∧ Br_byL v ≤ 40000) (hR0 : Rl sd cu sp w v wr rd pb mo) (hT0 : T_P_symbol Rl sd cu sp w v wr rd pb mo (xs (i + 1).toNatClampNeg) (xs (i + 2).toNatClampNeg))
    (hk : ∀ (H : Heap) (locs : List Loc) (ls : Array Slot) (cu_a sp_a : Nat → Nat) (w_b v_b : Nat) (cu sp : Sy) (w v : Br) (wr : Wr) (rd : Rd) (pb : Pb) (mo : Mo) (ou : Ou), Rl sd cu sp w v wr rd pb mo → va_P (dC, dI) vwCl (wSd cI cZ cJ sd_a w_a v_a (wr_a 0) (rd_a 0) (cu_a 0) (sp_a 0) sd ++ wSy cI cZ cJ cu_a cu ++ wSy cI cZ cJ sp_a sp ++ wBr cI cZ cJ w_a w_b w ++ wBr cI cZ cJ v_a v_b v ++ wWr cI cZ cJ wr_a (pb_a 0) wr ++ wRd cI cZ cJ rd_a (pb_a 0) rd ++ wPb cI cZ cJ pb_a w_a v_a pb ++ wMo cI cZ cJ mo_a mo ++ wOu cI cZ cJ ou_a ou) H → va_D A (wSd cI cZ cJ sd_a w_a v_a (wr_a 0) (rd_a 0) (cu_a 0) (sp_a 0) sd ++ wSy cI cZ cJ cu_a cu ++ wSy cI cZ cJ sp_a sp ++ wBr cI cZ cJ w_a w_b w ++ wBr cI cZ cJ v_a v_b v ++ wWr cI cZ cJ wr_a (pb_a 0) wr ++ wRd cI cZ cJ rd_a (pb_a 0) rd ++ wPb cI cZ cJ pb_a w_a v_a pb ++ wMo cI cZ cJ mo_a mo ++ wOu cI cZ cJ ou_a ou) → va_S A s.heap H locs → lv_has ls 7 [(0, .ref b), (1, .ref (sd_a 0)), (2, .ref (mo_a 0)), (3, .ref (ou_a 0)), (4, .int i)] → W p l e R s m args below meth c H locs (j + 1 + Br_byL w + Br_byL v) (6 * (j + 1) + 2 * Br_byL w + 2 * Br_byL v) Q (F0 m 1131 ls []))
    {H : Heap} {locs : List Loc} {ls : Array Slot} (hP : va_P (dC, dI) vwCl (wSd cI cZ cJ sd_a w_a v_a (wr_a 0) (rd_a 0) (cu_a 0) (sp_a 0) sd ++ wSy cI cZ cJ cu_a cu ++ wSy cI cZ cJ sp_a sp ++ wBr cI cZ cJ w_a w_b w ++ wBr cI cZ cJ v_a v_b v ++ wWr cI cZ cJ wr_a (pb_a 0) wr ++ wRd cI cZ cJ rd_a (pb_a 0) rd ++ wPb cI cZ cJ pb_a w_a v_a pb ++ wMo cI cZ cJ mo_a mo ++ wOu cI cZ cJ ou_a ou) H) (hD : va_D A (wSd cI cZ cJ sd_a w_a v_a (wr_a 0) (rd_a 0) (cu_a 0) (sp_a 0) sd ++ wSy cI cZ cJ cu_a cu ++ wSy cI cZ cJ sp_a sp ++ wBr cI cZ cJ w_a w_b w ++ wBr cI cZ cJ v_a v_b v ++ wWr cI cZ cJ wr_a (pb_a 0) wr ++ wRd cI cZ cJ rd_a (pb_a 0) rd ++ wPb cI cZ cJ pb_a w_a v_a pb ++ wMo cI cZ cJ mo_a mo ++ wOu cI cZ cJ ou_a ou)) (hS : va_S A s.heap H locs) (hl : lv_has ls 7 [(0, .ref b), (1, .ref (sd_a 0)), (2, .ref (mo_a 0)), (3, .ref (ou_a 0)), (4, .int i)]) : W p l e R s m args below meth c H locs (j + Br_byL w + Br_byL v) (6 * j + 2 * Br_byL w + 2 * Br_byL v) Q (F0 m 132 ls []) := by
  obtain ⟨hx, hb, hml, hown, hts, hK, hA, hA2, hRf, hRl, hN, hT, hX, hX0, hbl, hin, hj, hRc, hRs⟩ := C0
  have hbA : ¬ A b := fun h => absurd (hA2 b h) (Nat.not_le.mpr hbl)
  obtain ⟨hw0, hv0⟩ := hRb _ _ _ _ _ _ _ _ _ hR0
  unfold T_P_symbol at hT0
  rcases hT0 with ⟨r, cu', mo', hf, hg, hcode, hrel⟩ | ⟨hf, q, mo', hg, hcode, hrel⟩ | ⟨hf, q, mo', hg, hcode, hrel⟩
  · obtain ⟨ou', heou⟩ : ∃ z : Ou, z = (vp_updL (Ou_f ou) 0 r.toInt64) := ⟨_, rfl⟩
    have hf1 : f_Law_symbol sd cu ou (xs (i + 1).toNatClampNeg) (xs (i + 2).toNatClampNeg) = some (0, cu', ou') := by
      rw [f_Law_symbol, hf, bd_s, heou]
      rfl
    have hou : Ou_f ou' (0 : Int32).toNatClampNeg = r.toInt64 := by rw [heou]; exact updL_at _ _ _
    refine lv_aload_n hx hb d_law_132 rfl (lv_at hl 1 rfl) ?_
    refine lv_aload_n hx hb d_law_133 rfl (lv_at hl 0 rfl) ?_
    refine lv_iload hx hb d_law_134 (lv_at hl 4 rfl) ?_
    refine lv_iconst (v := 1) hx hb d_law_136 (by decide) ?_
    refine lv_iadd hx hb d_law_137 ?_
    refine va_sld hx hb hX0 hbl hbA hS (hin 1 (by decide) (by decide)) d_law_138 ?_
    refine lv_aload_n hx hb d_law_139 rfl (lv_at hl 0 rfl) ?_
    refine lv_iload hx hb d_law_140 (lv_at hl 4 rfl) ?_
    refine lv_iconst (v := 2) hx hb d_law_142 (by decide) ?_
    refine lv_iadd hx hb d_law_143 ?_
    refine va_sld hx hb hX0 hbl hbA hS (hin 2 (by decide) (by decide)) d_law_144 ?_
    refine lv_aload_n hx hb d_law_145 rfl (lv_at hl 3 rfl) ?_
    have hPc := hP.sub (ws' := (wSd cI cZ cJ sd_a w_a v_a (wr_a 0) (rd_a 0) (cu_a 0) (sp_a 0) sd ++ wSy cI cZ cJ cu_a cu ++ wOu cI cZ cJ ou_a ou)) [0, 1, 2, 3, 4, 5, 6, 7, 8, 9, 10, 46] rfl
    have hDc := hD.sub (ws' := (wSd cI cZ cJ sd_a w_a v_a (wr_a 0) (rd_a 0) (cu_a 0) (sp_a 0) sd ++ wSy cI cZ cJ cu_a cu ++ wOu cI cZ cJ ou_a ou)) [0, 1, 2, 3, 4, 5, 6, 7, 8, 9, 10, 46] (by decide) rfl
    have hFc := va_free (wc := (wSd cI cZ cJ sd_a w_a v_a (wr_a 0) (rd_a 0) (cu_a 0) (sp_a 0) sd ++ wSy cI cZ cJ cu_a cu ++ wOu cI cZ cJ ou_a ou)) hD hS hA [0, 1, 2, 3, 4, 5, 6, 7, 8, 9, 10, 46] rfl
    refine va_calli (w_runS (As := [.ref (sd_a 0), .int (xs (i + 1).toNatClampNeg), .int (xs (i + 2).toNatClampNeg), .ref (ou_a 0)]) (rest := []) ⟨hx, hb, hml, hown, hts⟩ (k_Law_symbol l dC dI cI cZ cJ sd_a cu_a ou_a w_a v_a (wr_a 0) (rd_a 0) (sp_a 0) H.size hf1) (cwH_of 4 hts t_559 rfl rfl t_53 t_557 t_558 hd_Law_symbol.2 ⟨Nat.le_trans (Nat.le_of_ble_eq_true rfl) hRf, Nat.le_trans (Nat.le_of_ble_eq_true rfl) hRl⟩) ⟨kP_blind, kP_at hPc hK hDc hN⟩ rfl rfl hl.1 rfl (lv_room (Nat.le_of_ble_eq_true rfl)) d_law_146 ⟨by omega, by omega⟩) hS (fun q _ h => hFc q h) hFc (fun r9 u t H1 locs ht hvm hw hB hz1 hk1 hS => ?_)
    rw [hw]
    obtain ⟨hP, hD⟩ := kQ_join (wr := (wSy cI cZ cJ sp_a sp ++ wBr cI cZ cJ w_a w_b w ++ wBr cI cZ cJ v_a v_b v ++ wWr cI cZ cJ wr_a (pb_a 0) wr ++ wRd cI cZ cJ rd_a (pb_a 0) rd ++ wPb cI cZ cJ pb_a w_a v_a pb ++ wMo cI cZ cJ mo_a mo)) (w1 := (wSd cI cZ cJ sd_a w_a v_a (wr_a 0) (rd_a 0) (cu_a 0) (sp_a 0) sd ++ wSy cI cZ cJ cu_a cu' ++ wOu cI cZ cJ ou_a ou')) hP hD [0, 1, 2, 3, 4, 5, 6, 7, 8, 9, 10, 46] [11, 12, 13, 14, 15, 16, 17, 18, 19, 20, 21, 22, 23, 24, 25, 26, 27, 28, 29, 30, 31, 32, 33, 34, 35, 36, 37, 38, 39, 40, 41, 42, 43, 44, 45] rfl rfl (by decide) (by decide) ht hk1 hFc hB
    generalize H1 = H at hP hS ⊢
    have hP : va_P (dC, dI) vwCl (wSd cI cZ cJ sd_a w_a v_a (wr_a 0) (rd_a 0) (cu_a 0) (sp_a 0) sd ++ wSy cI cZ cJ cu_a cu' ++ wSy cI cZ cJ sp_a sp ++ wBr cI cZ cJ w_a w_b w ++ wBr cI cZ cJ v_a v_b v ++ wWr cI cZ cJ wr_a (pb_a 0) wr ++ wRd cI cZ cJ rd_a (pb_a 0) rd ++ wPb cI cZ cJ pb_a w_a v_a pb ++ wMo cI cZ cJ mo_a mo ++ wOu cI cZ cJ ou_a ou') H := hP.sub [35, 36, 37, 38, 39, 40, 41, 42, 43, 44, 45, 0, 1, 2, 3, 4, 5, 6, 7, 8, 9, 10, 11, 12, 13, 14, 15, 16, 17, 18, 19, 20, 21, 22, 23, 24, 25, 26, 27, 28, 29, 30, 31, 32, 33, 34, 46] rfl
    have hD : va_D A (wSd cI cZ cJ sd_a w_a v_a (wr_a 0) (rd_a 0) (cu_a 0) (sp_a 0) sd ++ wSy cI cZ cJ cu_a cu' ++ wSy cI cZ cJ sp_a sp ++ wBr cI cZ cJ w_a w_b w ++ wBr cI cZ cJ v_a v_b v ++ wWr cI cZ cJ wr_a (pb_a 0) wr ++ wRd cI cZ cJ rd_a (pb_a 0) rd ++ wPb cI cZ cJ pb_a w_a v_a pb ++ wMo cI cZ cJ mo_a mo ++ wOu cI cZ cJ ou_a ou') := hD.sub [35, 36, 37, 38, 39, 40, 41, 42, 43, 44, 45, 0, 1, 2, 3, 4, 5, 6, 7, 8, 9, 10, 11, 12, 13, 14, 15, 16, 17, 18, 19, 20, 21, 22, 23, 24, 25, 26, 27, 28, 29, 30, 31, 32, 33, 34, 46] (by decide) rfl
    refine lv_istore (lv' := [(5, .int 0), (0, .ref b), (1, .ref (sd_a 0)), (2, .ref (mo_a 0)), (3, .ref (ou_a 0)), (4, .int i)]) hx hb d_law_149 hl (by decide) rfl (fun ls hl => ?_)
    refine lv_aload_n hx hb d_law_151 rfl (lv_at hl 3 rfl) ?_
    refine lv_aload_n hx hb d_law_152 rfl (lv_at hl 1 rfl) ?_
    refine lv_iload hx hb d_law_153 (lv_at hl 5 rfl) ?_
    refine lv_iconst (v := 1) hx hb d_law_155 (by decide) ?_
    refine lv_iadd hx hb d_law_156 ?_
    refine va_sld hx hb hX0 hbl hbA hS (hin 1 (by decide) (by decide)) d_law_157 ?_
    refine lv_aload_n hx hb d_law_158 rfl (lv_at hl 1 rfl) ?_
    refine lv_iload hx hb d_law_159 (lv_at hl 5 rfl) ?_
    refine lv_iconst (v := 2) hx hb d_law_161 (by decide) ?_
    refine lv_iadd hx hb d_law_162 ?_
    refine va_sld hx hb hX0 hbl hbA hS (hin 2 (by decide) (by decide)) d_law_163 ?_
    have hPc := hP.sub (ws' := (wMo cI cZ cJ mo_a mo)) [30, 31, 32, 33, 34, 35, 36, 37, 38, 39, 40, 41, 42, 43, 44, 45] rfl
    have hDc := hD.sub (ws' := (wMo cI cZ cJ mo_a mo)) [30, 31, 32, 33, 34, 35, 36, 37, 38, 39, 40, 41, 42, 43, 44, 45] (by decide) rfl
    have hFc := va_free (wc := (wMo cI cZ cJ mo_a mo)) hD hS hA [30, 31, 32, 33, 34, 35, 36, 37, 38, 39, 40, 41, 42, 43, 44, 45] rfl
    refine va_calli (va_runV (As := [.int (xs (i + 1).toNatClampNeg), .int (xs (i + 2).toNatClampNeg)]) (rest := []) ⟨hx, hb, hml, hown, hts⟩ (k_Model_symbol l dC dI cI cZ cJ mo_a H.size hg) (cwV 2 hts (gV t_910 t_911 t_912 t_63 t_913) rfl rfl rfl hd_Model_symbol ⟨Nat.le_trans (Nat.le_of_ble_eq_true rfl) hRf, Nat.le_trans (Nat.le_of_ble_eq_true rfl) hRl⟩) ⟨kP_blind, va_recv hK hP (ci := 7) (q0 := 30) rfl rfl, kP_at hPc hK hDc hN⟩ rfl rfl hl.1 rfl (lv_room (Nat.le_of_ble_eq_true rfl)) d_law_164 ⟨by omega, by omega⟩) hS (fun q _ h => hFc q h) hFc (fun r9 u t H1 locs ht hvm hw hB hz1 hk1 hS => ?_)
    rw [hw]
    obtain ⟨hP, hD⟩ := kQ_join (wr := (wSd cI cZ cJ sd_a w_a v_a (wr_a 0) (rd_a 0) (cu_a 0) (sp_a 0) sd ++ wSy cI cZ cJ cu_a cu' ++ wSy cI cZ cJ sp_a sp ++ wBr cI cZ cJ w_a w_b w ++ wBr cI cZ cJ v_a v_b v ++ wWr cI cZ cJ wr_a (pb_a 0) wr ++ wRd cI cZ cJ rd_a (pb_a 0) rd ++ wPb cI cZ cJ pb_a w_a v_a pb ++ wOu cI cZ cJ ou_a ou')) (w1 := (wMo cI cZ cJ mo_a mo')) hP hD [30, 31, 32, 33, 34, 35, 36, 37, 38, 39, 40, 41, 42, 43, 44, 45] [0, 1, 2, 3, 4, 5, 6, 7, 8, 9, 10, 11, 12, 13, 14, 15, 16, 17, 18, 19, 20, 21, 22, 23, 24, 25, 26, 27, 28, 29, 46] rfl rfl (by decide) (by decide) ht hk1 hFc hB
    generalize H1 = H at hP hS ⊢
    have hP : va_P (dC, dI) vwCl (wSd cI cZ cJ sd_a w_a v_a (wr_a 0) (rd_a 0) (cu_a 0) (sp_a 0) sd ++ wSy cI cZ cJ cu_a cu' ++ wSy cI cZ cJ sp_a sp ++ wBr cI cZ cJ w_a w_b w ++ wBr cI cZ cJ v_a v_b v ++ wWr cI cZ cJ wr_a (pb_a 0) wr ++ wRd cI cZ cJ rd_a (pb_a 0) rd ++ wPb cI cZ cJ pb_a w_a v_a pb ++ wMo cI cZ cJ mo_a mo' ++ wOu cI cZ cJ ou_a ou') H := hP.sub [0, 1, 2, 3, 4, 5, 6, 7, 8, 9, 10, 11, 12, 13, 14, 15, 16, 17, 18, 19, 20, 21, 22, 23, 24, 25, 26, 27, 28, 29, 31, 32, 33, 34, 35, 36, 37, 38, 39, 40, 41, 42, 43, 44, 45, 46, 30] rfl
    have hD : va_D A (wSd cI cZ cJ sd_a w_a v_a (wr_a 0) (rd_a 0) (cu_a 0) (sp_a 0) sd ++ wSy cI cZ cJ cu_a cu' ++ wSy cI cZ cJ sp_a sp ++ wBr cI cZ cJ w_a w_b w ++ wBr cI cZ cJ v_a v_b v ++ wWr cI cZ cJ wr_a (pb_a 0) wr ++ wRd cI cZ cJ rd_a (pb_a 0) rd ++ wPb cI cZ cJ pb_a w_a v_a pb ++ wMo cI cZ cJ mo_a mo' ++ wOu cI cZ cJ ou_a ou') := hD.sub [0, 1, 2, 3, 4, 5, 6, 7, 8, 9, 10, 11, 12, 13, 14, 15, 16, 17, 18, 19, 20, 21, 22, 23, 24, 25, 26, 27, 28, 29, 31, 32, 33, 34, 35, 36, 37, 38, 39, 40, 41, 42, 43, 44, 45, 46, 30] (by decide) rfl
    refine lv_istore (lv' := [(6, .int r), (5, .int 0), (0, .ref b), (1, .ref (sd_a 0)), (2, .ref (mo_a 0)), (3, .ref (ou_a 0)), (4, .int i)]) hx hb d_law_167 hl (by decide) rfl (fun ls hl => ?_)
    refine lv_aload_n hx hb d_law_169 rfl (lv_at hl 4 rfl) ?_
    have hth : f_Model_thrown mo' = some (Mo_code mo') := rfl
    have hPc := hP.sub (ws' := (wMo cI cZ cJ mo_a mo')) [30, 31, 32, 33, 34, 35, 36, 37, 38, 39, 40, 41, 42, 43, 44, 45] rfl
    have hDc := hD.sub (ws' := (wMo cI cZ cJ mo_a mo')) [30, 31, 32, 33, 34, 35, 36, 37, 38, 39, 40, 41, 42, 43, 44, 45] (by decide) rfl
    have hFc := va_free (wc := (wMo cI cZ cJ mo_a mo')) hD hS hA [30, 31, 32, 33, 34, 35, 36, 37, 38, 39, 40, 41, 42, 43, 44, 45] rfl
    refine va_calli (va_runV (As := []) (rest := []) ⟨hx, hb, hml, hown, hts⟩ (k_Model_thrown l dC dI cI cZ cJ mo_a H.size hth) (cwV 0 hts (gV t_906 t_907 t_908 t_63 t_909) rfl rfl rfl hd_Model_thrown ⟨Nat.le_trans (Nat.le_of_ble_eq_true rfl) hRf, Nat.le_trans (Nat.le_of_ble_eq_true rfl) hRl⟩) ⟨kP_blind, va_recv hK hP (ci := 7) (q0 := 30) rfl rfl, kP_at hPc hK hDc hN⟩ rfl rfl hl.1 rfl (lv_room (Nat.le_of_ble_eq_true rfl)) d_law_170 ⟨by omega, by omega⟩) hS (fun q _ h => hFc q h) hFc (fun r9 u t H1 locs ht hvm hw hB hz1 hk1 hS => ?_)
    rw [hw]
    obtain ⟨hP, hD⟩ := kQ_join (wr := (wSd cI cZ cJ sd_a w_a v_a (wr_a 0) (rd_a 0) (cu_a 0) (sp_a 0) sd ++ wSy cI cZ cJ cu_a cu' ++ wSy cI cZ cJ sp_a sp ++ wBr cI cZ cJ w_a w_b w ++ wBr cI cZ cJ v_a v_b v ++ wWr cI cZ cJ wr_a (pb_a 0) wr ++ wRd cI cZ cJ rd_a (pb_a 0) rd ++ wPb cI cZ cJ pb_a w_a v_a pb ++ wOu cI cZ cJ ou_a ou')) (w1 := (wMo cI cZ cJ mo_a mo')) hP hD [30, 31, 32, 33, 34, 35, 36, 37, 38, 39, 40, 41, 42, 43, 44, 45] [0, 1, 2, 3, 4, 5, 6, 7, 8, 9, 10, 11, 12, 13, 14, 15, 16, 17, 18, 19, 20, 21, 22, 23, 24, 25, 26, 27, 28, 29, 46] rfl rfl (by decide) (by decide) ht hk1 hFc hB
    generalize H1 = H at hP hS ⊢
    have hP : va_P (dC, dI) vwCl (wSd cI cZ cJ sd_a w_a v_a (wr_a 0) (rd_a 0) (cu_a 0) (sp_a 0) sd ++ wSy cI cZ cJ cu_a cu' ++ wSy cI cZ cJ sp_a sp ++ wBr cI cZ cJ w_a w_b w ++ wBr cI cZ cJ v_a v_b v ++ wWr cI cZ cJ wr_a (pb_a 0) wr ++ wRd cI cZ cJ rd_a (pb_a 0) rd ++ wPb cI cZ cJ pb_a w_a v_a pb ++ wMo cI cZ cJ mo_a mo' ++ wOu cI cZ cJ ou_a ou') H := hP.sub [0, 1, 2, 3, 4, 5, 6, 7, 8, 9, 10, 11, 12, 13, 14, 15, 16, 17, 18, 19, 20, 21, 22, 23, 24, 25, 26, 27, 28, 29, 31, 32, 33, 34, 35, 36, 37, 38, 39, 40, 41, 42, 43, 44, 45, 46, 30] rfl
    have hD : va_D A (wSd cI cZ cJ sd_a w_a v_a (wr_a 0) (rd_a 0) (cu_a 0) (sp_a 0) sd ++ wSy cI cZ cJ cu_a cu' ++ wSy cI cZ cJ sp_a sp ++ wBr cI cZ cJ w_a w_b w ++ wBr cI cZ cJ v_a v_b v ++ wWr cI cZ cJ wr_a (pb_a 0) wr ++ wRd cI cZ cJ rd_a (pb_a 0) rd ++ wPb cI cZ cJ pb_a w_a v_a pb ++ wMo cI cZ cJ mo_a mo' ++ wOu cI cZ cJ ou_a ou') := hD.sub [0, 1, 2, 3, 4, 5, 6, 7, 8, 9, 10, 11, 12, 13, 14, 15, 16, 17, 18, 19, 20, 21, 22, 23, 24, 25, 26, 27, 28, 29, 31, 32, 33, 34, 35, 36, 37, 38, 39, 40, 41, 42, 43, 44, 45, 46, 30] (by decide) rfl
    refine lv_iload hx hb d_law_173 (lv_at hl 1 rfl) ?_
    refine lv_icmp_eq (tgt := 180) hx hb d_law_175 (by decide) (fun _ => ?_) (fun h9 => absurd hcode h9)
    refine lv_iload hx hb d_law_180 (lv_at hl 1 rfl) ?_
    refine lv_if_ne (tgt := 197) hx hb d_law_182 (by decide) (fun h9 => absurd rfl h9) (fun _ => ?_)
    refine lv_aload_n hx hb d_law_185 rfl (lv_at hl 5 rfl) ?_
    refine lv_iconst (v := 0) hx hb d_law_186 (by decide) ?_
    refine va_lald (f := Ou_f ou') hx hb hK hP 46 2 rfl rfl (inb_in (by decide)) d_law_187 ?_
    refine lv_iload hx hb d_law_188 (lv_at hl 0 rfl) ?_
    refine lv_i2l (v := r.toInt64) hx hb d_law_190 rfl ?_
    refine W.lcmp hx hb d_law_191 ?_
    refine lv_if_eq (tgt := 197) hx hb d_law_192 (by decide) (fun _ => ?_) (fun h9 => absurd (by rw [hou]; exact cmp_self _) h9)
    refine lv_goto (tgt := 1131) hx hb d_law_197 (by decide) ?_
    have hl := lv_sub (l' := [(0, .ref b), (1, .ref (sd_a 0)), (2, .ref (mo_a 0)), (3, .ref (ou_a 0)), (4, .int i)]) hl [2, 3, 4, 5, 6] rfl
    refine W.widen (k := j + 1 + Br_byL w + Br_byL v) (n := 6 * (j + 1) + 2 * Br_byL w + 2 * Br_byL v) (by omega) (by omega) ?_
    exact hk _ _ _ cu_a sp_a w_b v_b cu' sp w v wr rd pb mo' ou' hrel hP hD hS hl
  · refine lv_aload_n hx hb d_law_132 rfl (lv_at hl 1 rfl) ?_
    refine lv_aload_n hx hb d_law_133 rfl (lv_at hl 0 rfl) ?_
    refine lv_iload hx hb d_law_134 (lv_at hl 4 rfl) ?_
    refine lv_iconst (v := 1) hx hb d_law_136 (by decide) ?_
    refine lv_iadd hx hb d_law_137 ?_
    refine va_sld hx hb hX0 hbl hbA hS (hin 1 (by decide) (by decide)) d_law_138 ?_
    refine lv_aload_n hx hb d_law_139 rfl (lv_at hl 0 rfl) ?_
    refine lv_iload hx hb d_law_140 (lv_at hl 4 rfl) ?_
    refine lv_iconst (v := 2) hx hb d_law_142 (by decide) ?_
    refine lv_iadd hx hb d_law_143 ?_
    refine va_sld hx hb hX0 hbl hbA hS (hin 2 (by decide) (by decide)) d_law_144 ?_
    refine lv_aload_n hx hb d_law_145 rfl (lv_at hl 3 rfl) ?_
    have hPc := hP.sub (ws' := (wSd cI cZ cJ sd_a w_a v_a (wr_a 0) (rd_a 0) (cu_a 0) (sp_a 0) sd ++ wSy cI cZ cJ cu_a cu ++ wOu cI cZ cJ ou_a ou)) [0, 1, 2, 3, 4, 5, 6, 7, 8, 9, 10, 46] rfl
    have hDc := hD.sub (ws' := (wSd cI cZ cJ sd_a w_a v_a (wr_a 0) (rd_a 0) (cu_a 0) (sp_a 0) sd ++ wSy cI cZ cJ cu_a cu ++ wOu cI cZ cJ ou_a ou)) [0, 1, 2, 3, 4, 5, 6, 7, 8, 9, 10, 46] (by decide) rfl
    have hFc := va_free (wc := (wSd cI cZ cJ sd_a w_a v_a (wr_a 0) (rd_a 0) (cu_a 0) (sp_a 0) sd ++ wSy cI cZ cJ cu_a cu ++ wOu cI cZ cJ ou_a ou)) hD hS hA [0, 1, 2, 3, 4, 5, 6, 7, 8, 9, 10, 46] rfl
    refine va_calli (w_runS (As := [.ref (sd_a 0), .int (xs (i + 1).toNatClampNeg), .int (xs (i + 2).toNatClampNeg), .ref (ou_a 0)]) (rest := []) ⟨hx, hb, hml, hown, hts⟩ (kx_Law_symbol_1 l hl9 dC dI cI cZ cJ sd_a cu_a ou_a w_a v_a (wr_a 0) (rd_a 0) (sp_a 0) H.size hf) (cwH_of 4 hts t_559 rfl rfl t_53 t_557 t_558 hd_Law_symbol.2 ⟨Nat.le_trans (Nat.le_of_ble_eq_true rfl) hRf, Nat.le_trans (Nat.le_of_ble_eq_true rfl) hRl⟩) ⟨kPX_blind, kPX_at hPc hK hDc hN (fun q hq => hS.2.1 q hq (fun h9 => absurd (hA2 q h9) (Nat.not_le.mpr hq))) hT hX⟩ rfl rfl hl.1 rfl (lv_room (Nat.le_of_ble_eq_true rfl)) d_law_146 ⟨by omega, by omega⟩) hS (fun q _ h => hFc q h) hFc (fun r9 u t H1 locs ht hvm hw hB hz1 hk1 hS => ?_)
    rw [hw]
    obtain ⟨hP, hD⟩ := kQ_join (wr := (wSy cI cZ cJ sp_a sp ++ wBr cI cZ cJ w_a w_b w ++ wBr cI cZ cJ v_a v_b v ++ wWr cI cZ cJ wr_a (pb_a 0) wr ++ wRd cI cZ cJ rd_a (pb_a 0) rd ++ wPb cI cZ cJ pb_a w_a v_a pb ++ wMo cI cZ cJ mo_a mo)) (w1 := (wSd cI cZ cJ sd_a w_a v_a (wr_a 0) (rd_a 0) (cu_a 0) (sp_a 0) sd ++ wSy cI cZ cJ cu_a cu ++ wOu cI cZ cJ ou_a ou)) hP hD [0, 1, 2, 3, 4, 5, 6, 7, 8, 9, 10, 46] [11, 12, 13, 14, 15, 16, 17, 18, 19, 20, 21, 22, 23, 24, 25, 26, 27, 28, 29, 30, 31, 32, 33, 34, 35, 36, 37, 38, 39, 40, 41, 42, 43, 44, 45] rfl rfl (by decide) (by decide) ht hk1 hFc hB
    generalize H1 = H at hP hS ⊢
    have hP : va_P (dC, dI) vwCl (wSd cI cZ cJ sd_a w_a v_a (wr_a 0) (rd_a 0) (cu_a 0) (sp_a 0) sd ++ wSy cI cZ cJ cu_a cu ++ wSy cI cZ cJ sp_a sp ++ wBr cI cZ cJ w_a w_b w ++ wBr cI cZ cJ v_a v_b v ++ wWr cI cZ cJ wr_a (pb_a 0) wr ++ wRd cI cZ cJ rd_a (pb_a 0) rd ++ wPb cI cZ cJ pb_a w_a v_a pb ++ wMo cI cZ cJ mo_a mo ++ wOu cI cZ cJ ou_a ou) H := hP.sub [35, 36, 37, 38, 39, 40, 41, 42, 43, 44, 45, 0, 1, 2, 3, 4, 5, 6, 7, 8, 9, 10, 11, 12, 13, 14, 15, 16, 17, 18, 19, 20, 21, 22, 23, 24, 25, 26, 27, 28, 29, 30, 31, 32, 33, 34, 46] rfl
    have hD : va_D A (wSd cI cZ cJ sd_a w_a v_a (wr_a 0) (rd_a 0) (cu_a 0) (sp_a 0) sd ++ wSy cI cZ cJ cu_a cu ++ wSy cI cZ cJ sp_a sp ++ wBr cI cZ cJ w_a w_b w ++ wBr cI cZ cJ v_a v_b v ++ wWr cI cZ cJ wr_a (pb_a 0) wr ++ wRd cI cZ cJ rd_a (pb_a 0) rd ++ wPb cI cZ cJ pb_a w_a v_a pb ++ wMo cI cZ cJ mo_a mo ++ wOu cI cZ cJ ou_a ou) := hD.sub [35, 36, 37, 38, 39, 40, 41, 42, 43, 44, 45, 0, 1, 2, 3, 4, 5, 6, 7, 8, 9, 10, 11, 12, 13, 14, 15, 16, 17, 18, 19, 20, 21, 22, 23, 24, 25, 26, 27, 28, 29, 30, 31, 32, 33, 34, 46] (by decide) rfl
    refine lv_istore (lv' := [(5, .int 1), (0, .ref b), (1, .ref (sd_a 0)), (2, .ref (mo_a 0)), (3, .ref (ou_a 0)), (4, .int i)]) hx hb d_law_149 hl (by decide) rfl (fun ls hl => ?_)
    refine lv_aload_n hx hb d_law_151 rfl (lv_at hl 3 rfl) ?_
    refine lv_aload_n hx hb d_law_152 rfl (lv_at hl 1 rfl) ?_
    refine lv_iload hx hb d_law_153 (lv_at hl 5 rfl) ?_
    refine lv_iconst (v := 1) hx hb d_law_155 (by decide) ?_
    refine lv_iadd hx hb d_law_156 ?_
    refine va_sld hx hb hX0 hbl hbA hS (hin 1 (by decide) (by decide)) d_law_157 ?_
    refine lv_aload_n hx hb d_law_158 rfl (lv_at hl 1 rfl) ?_
    refine lv_iload hx hb d_law_159 (lv_at hl 5 rfl) ?_
    refine lv_iconst (v := 2) hx hb d_law_161 (by decide) ?_
    refine lv_iadd hx hb d_law_162 ?_
    refine va_sld hx hb hX0 hbl hbA hS (hin 2 (by decide) (by decide)) d_law_163 ?_
    have hPc := hP.sub (ws' := (wMo cI cZ cJ mo_a mo)) [30, 31, 32, 33, 34, 35, 36, 37, 38, 39, 40, 41, 42, 43, 44, 45] rfl
    have hDc := hD.sub (ws' := (wMo cI cZ cJ mo_a mo)) [30, 31, 32, 33, 34, 35, 36, 37, 38, 39, 40, 41, 42, 43, 44, 45] (by decide) rfl
    have hFc := va_free (wc := (wMo cI cZ cJ mo_a mo)) hD hS hA [30, 31, 32, 33, 34, 35, 36, 37, 38, 39, 40, 41, 42, 43, 44, 45] rfl
    refine va_calli (va_runV (As := [.int (xs (i + 1).toNatClampNeg), .int (xs (i + 2).toNatClampNeg)]) (rest := []) ⟨hx, hb, hml, hown, hts⟩ (k_Model_symbol l dC dI cI cZ cJ mo_a H.size hg) (cwV 2 hts (gV t_910 t_911 t_912 t_63 t_913) rfl rfl rfl hd_Model_symbol ⟨Nat.le_trans (Nat.le_of_ble_eq_true rfl) hRf, Nat.le_trans (Nat.le_of_ble_eq_true rfl) hRl⟩) ⟨kP_blind, va_recv hK hP (ci := 7) (q0 := 30) rfl rfl, kP_at hPc hK hDc hN⟩ rfl rfl hl.1 rfl (lv_room (Nat.le_of_ble_eq_true rfl)) d_law_164 ⟨by omega, by omega⟩) hS (fun q _ h => hFc q h) hFc (fun r9 u t H1 locs ht hvm hw hB hz1 hk1 hS => ?_)
    rw [hw]
    obtain ⟨hP, hD⟩ := kQ_join (wr := (wSd cI cZ cJ sd_a w_a v_a (wr_a 0) (rd_a 0) (cu_a 0) (sp_a 0) sd ++ wSy cI cZ cJ cu_a cu ++ wSy cI cZ cJ sp_a sp ++ wBr cI cZ cJ w_a w_b w ++ wBr cI cZ cJ v_a v_b v ++ wWr cI cZ cJ wr_a (pb_a 0) wr ++ wRd cI cZ cJ rd_a (pb_a 0) rd ++ wPb cI cZ cJ pb_a w_a v_a pb ++ wOu cI cZ cJ ou_a ou)) (w1 := (wMo cI cZ cJ mo_a mo')) hP hD [30, 31, 32, 33, 34, 35, 36, 37, 38, 39, 40, 41, 42, 43, 44, 45] [0, 1, 2, 3, 4, 5, 6, 7, 8, 9, 10, 11, 12, 13, 14, 15, 16, 17, 18, 19, 20, 21, 22, 23, 24, 25, 26, 27, 28, 29, 46] rfl rfl (by decide) (by decide) ht hk1 hFc hB
    generalize H1 = H at hP hS ⊢
    have hP : va_P (dC, dI) vwCl (wSd cI cZ cJ sd_a w_a v_a (wr_a 0) (rd_a 0) (cu_a 0) (sp_a 0) sd ++ wSy cI cZ cJ cu_a cu ++ wSy cI cZ cJ sp_a sp ++ wBr cI cZ cJ w_a w_b w ++ wBr cI cZ cJ v_a v_b v ++ wWr cI cZ cJ wr_a (pb_a 0) wr ++ wRd cI cZ cJ rd_a (pb_a 0) rd ++ wPb cI cZ cJ pb_a w_a v_a pb ++ wMo cI cZ cJ mo_a mo' ++ wOu cI cZ cJ ou_a ou) H := hP.sub [0, 1, 2, 3, 4, 5, 6, 7, 8, 9, 10, 11, 12, 13, 14, 15, 16, 17, 18, 19, 20, 21, 22, 23, 24, 25, 26, 27, 28, 29, 31, 32, 33, 34, 35, 36, 37, 38, 39, 40, 41, 42, 43, 44, 45, 46, 30] rfl
    have hD : va_D A (wSd cI cZ cJ sd_a w_a v_a (wr_a 0) (rd_a 0) (cu_a 0) (sp_a 0) sd ++ wSy cI cZ cJ cu_a cu ++ wSy cI cZ cJ sp_a sp ++ wBr cI cZ cJ w_a w_b w ++ wBr cI cZ cJ v_a v_b v ++ wWr cI cZ cJ wr_a (pb_a 0) wr ++ wRd cI cZ cJ rd_a (pb_a 0) rd ++ wPb cI cZ cJ pb_a w_a v_a pb ++ wMo cI cZ cJ mo_a mo' ++ wOu cI cZ cJ ou_a ou) := hD.sub [0, 1, 2, 3, 4, 5, 6, 7, 8, 9, 10, 11, 12, 13, 14, 15, 16, 17, 18, 19, 20, 21, 22, 23, 24, 25, 26, 27, 28, 29, 31, 32, 33, 34, 35, 36, 37, 38, 39, 40, 41, 42, 43, 44, 45, 46, 30] (by decide) rfl
    refine lv_istore (lv' := [(6, .int q), (5, .int 1), (0, .ref b), (1, .ref (sd_a 0)), (2, .ref (mo_a 0)), (3, .ref (ou_a 0)), (4, .int i)]) hx hb d_law_167 hl (by decide) rfl (fun ls hl => ?_)
    refine lv_aload_n hx hb d_law_169 rfl (lv_at hl 4 rfl) ?_
    have hth : f_Model_thrown mo' = some (Mo_code mo') := rfl
    have hPc := hP.sub (ws' := (wMo cI cZ cJ mo_a mo')) [30, 31, 32, 33, 34, 35, 36, 37, 38, 39, 40, 41, 42, 43, 44, 45] rfl
    have hDc := hD.sub (ws' := (wMo cI cZ cJ mo_a mo')) [30, 31, 32, 33, 34, 35, 36, 37, 38, 39, 40, 41, 42, 43, 44, 45] (by decide) rfl
    have hFc := va_free (wc := (wMo cI cZ cJ mo_a mo')) hD hS hA [30, 31, 32, 33, 34, 35, 36, 37, 38, 39, 40, 41, 42, 43, 44, 45] rfl
    refine va_calli (va_runV (As := []) (rest := []) ⟨hx, hb, hml, hown, hts⟩ (k_Model_thrown l dC dI cI cZ cJ mo_a H.size hth) (cwV 0 hts (gV t_906 t_907 t_908 t_63 t_909) rfl rfl rfl hd_Model_thrown ⟨Nat.le_trans (Nat.le_of_ble_eq_true rfl) hRf, Nat.le_trans (Nat.le_of_ble_eq_true rfl) hRl⟩) ⟨kP_blind, va_recv hK hP (ci := 7) (q0 := 30) rfl rfl, kP_at hPc hK hDc hN⟩ rfl rfl hl.1 rfl (lv_room (Nat.le_of_ble_eq_true rfl)) d_law_170 ⟨by omega, by omega⟩) hS (fun q _ h => hFc q h) hFc (fun r9 u t H1 locs ht hvm hw hB hz1 hk1 hS => ?_)
    rw [hw]
    obtain ⟨hP, hD⟩ := kQ_join (wr := (wSd cI cZ cJ sd_a w_a v_a (wr_a 0) (rd_a 0) (cu_a 0) (sp_a 0) sd ++ wSy cI cZ cJ cu_a cu ++ wSy cI cZ cJ sp_a sp ++ wBr cI cZ cJ w_a w_b w ++ wBr cI cZ cJ v_a v_b v ++ wWr cI cZ cJ wr_a (pb_a 0) wr ++ wRd cI cZ cJ rd_a (pb_a 0) rd ++ wPb cI cZ cJ pb_a w_a v_a pb ++ wOu cI cZ cJ ou_a ou)) (w1 := (wMo cI cZ cJ mo_a mo')) hP hD [30, 31, 32, 33, 34, 35, 36, 37, 38, 39, 40, 41, 42, 43, 44, 45] [0, 1, 2, 3, 4, 5, 6, 7, 8, 9, 10, 11, 12, 13, 14, 15, 16, 17, 18, 19, 20, 21, 22, 23, 24, 25, 26, 27, 28, 29, 46] rfl rfl (by decide) (by decide) ht hk1 hFc hB
    generalize H1 = H at hP hS ⊢
    have hP : va_P (dC, dI) vwCl (wSd cI cZ cJ sd_a w_a v_a (wr_a 0) (rd_a 0) (cu_a 0) (sp_a 0) sd ++ wSy cI cZ cJ cu_a cu ++ wSy cI cZ cJ sp_a sp ++ wBr cI cZ cJ w_a w_b w ++ wBr cI cZ cJ v_a v_b v ++ wWr cI cZ cJ wr_a (pb_a 0) wr ++ wRd cI cZ cJ rd_a (pb_a 0) rd ++ wPb cI cZ cJ pb_a w_a v_a pb ++ wMo cI cZ cJ mo_a mo' ++ wOu cI cZ cJ ou_a ou) H := hP.sub [0, 1, 2, 3, 4, 5, 6, 7, 8, 9, 10, 11, 12, 13, 14, 15, 16, 17, 18, 19, 20, 21, 22, 23, 24, 25, 26, 27, 28, 29, 31, 32, 33, 34, 35, 36, 37, 38, 39, 40, 41, 42, 43, 44, 45, 46, 30] rfl
    have hD : va_D A (wSd cI cZ cJ sd_a w_a v_a (wr_a 0) (rd_a 0) (cu_a 0) (sp_a 0) sd ++ wSy cI cZ cJ cu_a cu ++ wSy cI cZ cJ sp_a sp ++ wBr cI cZ cJ w_a w_b w ++ wBr cI cZ cJ v_a v_b v ++ wWr cI cZ cJ wr_a (pb_a 0) wr ++ wRd cI cZ cJ rd_a (pb_a 0) rd ++ wPb cI cZ cJ pb_a w_a v_a pb ++ wMo cI cZ cJ mo_a mo' ++ wOu cI cZ cJ ou_a ou) := hD.sub [0, 1, 2, 3, 4, 5, 6, 7, 8, 9, 10, 11, 12, 13, 14, 15, 16, 17, 18, 19, 20, 21, 22, 23, 24, 25, 26, 27, 28, 29, 31, 32, 33, 34, 35, 36, 37, 38, 39, 40, 41, 42, 43, 44, 45, 46, 30] (by decide) rfl
    refine lv_iload hx hb d_law_173 (lv_at hl 1 rfl) ?_
    refine lv_icmp_eq (tgt := 180) hx hb d_law_175 (by decide) (fun _ => ?_) (fun h9 => absurd hcode h9)
    refine lv_iload hx hb d_law_180 (lv_at hl 1 rfl) ?_
    refine lv_if_ne (tgt := 197) hx hb d_law_182 (by decide) (fun _ => ?_) (fun h9 => absurd h9 (by decide))
    refine lv_goto (tgt := 1131) hx hb d_law_197 (by decide) ?_
    have hl := lv_sub (l' := [(0, .ref b), (1, .ref (sd_a 0)), (2, .ref (mo_a 0)), (3, .ref (ou_a 0)), (4, .int i)]) hl [2, 3, 4, 5, 6] rfl
    refine W.widen (k := j + 1 + Br_byL w + Br_byL v) (n := 6 * (j + 1) + 2 * Br_byL w + 2 * Br_byL v) (by omega) (by omega) ?_
    exact hk _ _ _ cu_a sp_a w_b v_b cu sp w v wr rd pb mo' ou hrel hP hD hS hl
  · refine lv_aload_n hx hb d_law_132 rfl (lv_at hl 1 rfl) ?_
    refine lv_aload_n hx hb d_law_133 rfl (lv_at hl 0 rfl) ?_
    refine lv_iload hx hb d_law_134 (lv_at hl 4 rfl) ?_
    refine lv_iconst (v := 1) hx hb d_law_136 (by decide) ?_
    refine lv_iadd hx hb d_law_137 ?_
    refine va_sld hx hb hX0 hbl hbA hS (hin 1 (by decide) (by decide)) d_law_138 ?_
    refine lv_aload_n hx hb d_law_139 rfl (lv_at hl 0 rfl) ?_
    refine lv_iload hx hb d_law_140 (lv_at hl 4 rfl) ?_
    refine lv_iconst (v := 2) hx hb d_law_142 (by decide) ?_
    refine lv_iadd hx hb d_law_143 ?_
    refine va_sld hx hb hX0 hbl hbA hS (hin 2 (by decide) (by decide)) d_law_144 ?_
    refine lv_aload_n hx hb d_law_145 rfl (lv_at hl 3 rfl) ?_
    have hPc := hP.sub (ws' := (wSd cI cZ cJ sd_a w_a v_a (wr_a 0) (rd_a 0) (cu_a 0) (sp_a 0) sd ++ wSy cI cZ cJ cu_a cu ++ wOu cI cZ cJ ou_a ou)) [0, 1, 2, 3, 4, 5, 6, 7, 8, 9, 10, 46] rfl
    have hDc := hD.sub (ws' := (wSd cI cZ cJ sd_a w_a v_a (wr_a 0) (rd_a 0) (cu_a 0) (sp_a 0) sd ++ wSy cI cZ cJ cu_a cu ++ wOu cI cZ cJ ou_a ou)) [0, 1, 2, 3, 4, 5, 6, 7, 8, 9, 10, 46] (by decide) rfl
    have hFc := va_free (wc := (wSd cI cZ cJ sd_a w_a v_a (wr_a 0) (rd_a 0) (cu_a 0) (sp_a 0) sd ++ wSy cI cZ cJ cu_a cu ++ wOu cI cZ cJ ou_a ou)) hD hS hA [0, 1, 2, 3, 4, 5, 6, 7, 8, 9, 10, 46] rfl
    refine va_calli (w_runS (As := [.ref (sd_a 0), .int (xs (i + 1).toNatClampNeg), .int (xs (i + 2).toNatClampNeg), .ref (ou_a 0)]) (rest := []) ⟨hx, hb, hml, hown, hts⟩ (kx_Law_symbol_4 l hl9 dC dI cI cZ cJ sd_a cu_a ou_a w_a v_a (wr_a 0) (rd_a 0) (sp_a 0) H.size hf) (cwH_of 4 hts t_559 rfl rfl t_53 t_557 t_558 hd_Law_symbol.2 ⟨Nat.le_trans (Nat.le_of_ble_eq_true rfl) hRf, Nat.le_trans (Nat.le_of_ble_eq_true rfl) hRl⟩) ⟨kPX_blind, kPX_at hPc hK hDc hN (fun q hq => hS.2.1 q hq (fun h9 => absurd (hA2 q h9) (Nat.not_le.mpr hq))) hT hX⟩ rfl rfl hl.1 rfl (lv_room (Nat.le_of_ble_eq_true rfl)) d_law_146 ⟨by omega, by omega⟩) hS (fun q _ h => hFc q h) hFc (fun r9 u t H1 locs ht hvm hw hB hz1 hk1 hS => ?_)
    rw [hw]
    obtain ⟨hP, hD⟩ := kQ_join (wr := (wSy cI cZ cJ sp_a sp ++ wBr cI cZ cJ w_a w_b w ++ wBr cI cZ cJ v_a v_b v ++ wWr cI cZ cJ wr_a (pb_a 0) wr ++ wRd cI cZ cJ rd_a (pb_a 0) rd ++ wPb cI cZ cJ pb_a w_a v_a pb ++ wMo cI cZ cJ mo_a mo)) (w1 := (wSd cI cZ cJ sd_a w_a v_a (wr_a 0) (rd_a 0) (cu_a 0) (sp_a 0) sd ++ wSy cI cZ cJ cu_a cu ++ wOu cI cZ cJ ou_a ou)) hP hD [0, 1, 2, 3, 4, 5, 6, 7, 8, 9, 10, 46] [11, 12, 13, 14, 15, 16, 17, 18, 19, 20, 21, 22, 23, 24, 25, 26, 27, 28, 29, 30, 31, 32, 33, 34, 35, 36, 37, 38, 39, 40, 41, 42, 43, 44, 45] rfl rfl (by decide) (by decide) ht hk1 hFc hB
    generalize H1 = H at hP hS ⊢
    have hP : va_P (dC, dI) vwCl (wSd cI cZ cJ sd_a w_a v_a (wr_a 0) (rd_a 0) (cu_a 0) (sp_a 0) sd ++ wSy cI cZ cJ cu_a cu ++ wSy cI cZ cJ sp_a sp ++ wBr cI cZ cJ w_a w_b w ++ wBr cI cZ cJ v_a v_b v ++ wWr cI cZ cJ wr_a (pb_a 0) wr ++ wRd cI cZ cJ rd_a (pb_a 0) rd ++ wPb cI cZ cJ pb_a w_a v_a pb ++ wMo cI cZ cJ mo_a mo ++ wOu cI cZ cJ ou_a ou) H := hP.sub [35, 36, 37, 38, 39, 40, 41, 42, 43, 44, 45, 0, 1, 2, 3, 4, 5, 6, 7, 8, 9, 10, 11, 12, 13, 14, 15, 16, 17, 18, 19, 20, 21, 22, 23, 24, 25, 26, 27, 28, 29, 30, 31, 32, 33, 34, 46] rfl
    have hD : va_D A (wSd cI cZ cJ sd_a w_a v_a (wr_a 0) (rd_a 0) (cu_a 0) (sp_a 0) sd ++ wSy cI cZ cJ cu_a cu ++ wSy cI cZ cJ sp_a sp ++ wBr cI cZ cJ w_a w_b w ++ wBr cI cZ cJ v_a v_b v ++ wWr cI cZ cJ wr_a (pb_a 0) wr ++ wRd cI cZ cJ rd_a (pb_a 0) rd ++ wPb cI cZ cJ pb_a w_a v_a pb ++ wMo cI cZ cJ mo_a mo ++ wOu cI cZ cJ ou_a ou) := hD.sub [35, 36, 37, 38, 39, 40, 41, 42, 43, 44, 45, 0, 1, 2, 3, 4, 5, 6, 7, 8, 9, 10, 11, 12, 13, 14, 15, 16, 17, 18, 19, 20, 21, 22, 23, 24, 25, 26, 27, 28, 29, 30, 31, 32, 33, 34, 46] (by decide) rfl
    refine lv_istore (lv' := [(5, .int 2), (0, .ref b), (1, .ref (sd_a 0)), (2, .ref (mo_a 0)), (3, .ref (ou_a 0)), (4, .int i)]) hx hb d_law_149 hl (by decide) rfl (fun ls hl => ?_)
    refine lv_aload_n hx hb d_law_151 rfl (lv_at hl 3 rfl) ?_
    refine lv_aload_n hx hb d_law_152 rfl (lv_at hl 1 rfl) ?_
    refine lv_iload hx hb d_law_153 (lv_at hl 5 rfl) ?_
    refine lv_iconst (v := 1) hx hb d_law_155 (by decide) ?_
    refine lv_iadd hx hb d_law_156 ?_
    refine va_sld hx hb hX0 hbl hbA hS (hin 1 (by decide) (by decide)) d_law_157 ?_
    refine lv_aload_n hx hb d_law_158 rfl (lv_at hl 1 rfl) ?_
    refine lv_iload hx hb d_law_159 (lv_at hl 5 rfl) ?_
    refine lv_iconst (v := 2) hx hb d_law_161 (by decide) ?_
    refine lv_iadd hx hb d_law_162 ?_
    refine va_sld hx hb hX0 hbl hbA hS (hin 2 (by decide) (by decide)) d_law_163 ?_
    have hPc := hP.sub (ws' := (wMo cI cZ cJ mo_a mo)) [30, 31, 32, 33, 34, 35, 36, 37, 38, 39, 40, 41, 42, 43, 44, 45] rfl
    have hDc := hD.sub (ws' := (wMo cI cZ cJ mo_a mo)) [30, 31, 32, 33, 34, 35, 36, 37, 38, 39, 40, 41, 42, 43, 44, 45] (by decide) rfl
    have hFc := va_free (wc := (wMo cI cZ cJ mo_a mo)) hD hS hA [30, 31, 32, 33, 34, 35, 36, 37, 38, 39, 40, 41, 42, 43, 44, 45] rfl
    refine va_calli (va_runV (As := [.int (xs (i + 1).toNatClampNeg), .int (xs (i + 2).toNatClampNeg)]) (rest := []) ⟨hx, hb, hml, hown, hts⟩ (k_Model_symbol l dC dI cI cZ cJ mo_a H.size hg) (cwV 2 hts (gV t_910 t_911 t_912 t_63 t_913) rfl rfl rfl hd_Model_symbol ⟨Nat.le_trans (Nat.le_of_ble_eq_true rfl) hRf, Nat.le_trans (Nat.le_of_ble_eq_true rfl) hRl⟩) ⟨kP_blind, va_recv hK hP (ci := 7) (q0 := 30) rfl rfl, kP_at hPc hK hDc hN⟩ rfl rfl hl.1 rfl (lv_room (Nat.le_of_ble_eq_true rfl)) d_law_164 ⟨by omega, by omega⟩) hS (fun q _ h => hFc q h) hFc (fun r9 u t H1 locs ht hvm hw hB hz1 hk1 hS => ?_)
    rw [hw]
    obtain ⟨hP, hD⟩ := kQ_join (wr := (wSd cI cZ cJ sd_a w_a v_a (wr_a 0) (rd_a 0) (cu_a 0) (sp_a 0) sd ++ wSy cI cZ cJ cu_a cu ++ wSy cI cZ cJ sp_a sp ++ wBr cI cZ cJ w_a w_b w ++ wBr cI cZ cJ v_a v_b v ++ wWr cI cZ cJ wr_a (pb_a 0) wr ++ wRd cI cZ cJ rd_a (pb_a 0) rd ++ wPb cI cZ cJ pb_a w_a v_a pb ++ wOu cI cZ cJ ou_a ou)) (w1 := (wMo cI cZ cJ mo_a mo')) hP hD [30, 31, 32, 33, 34, 35, 36, 37, 38, 39, 40, 41, 42, 43, 44, 45] [0, 1, 2, 3, 4, 5, 6, 7, 8, 9, 10, 11, 12, 13, 14, 15, 16, 17, 18, 19, 20, 21, 22, 23, 24, 25, 26, 27, 28, 29, 46] rfl rfl (by decide) (by decide) ht hk1 hFc hB
    generalize H1 = H at hP hS ⊢
    have hP : va_P (dC, dI) vwCl (wSd cI cZ cJ sd_a w_a v_a (wr_a 0) (rd_a 0) (cu_a 0) (sp_a 0) sd ++ wSy cI cZ cJ cu_a cu ++ wSy cI cZ cJ sp_a sp ++ wBr cI cZ cJ w_a w_b w ++ wBr cI cZ cJ v_a v_b v ++ wWr cI cZ cJ wr_a (pb_a 0) wr ++ wRd cI cZ cJ rd_a (pb_a 0) rd ++ wPb cI cZ cJ pb_a w_a v_a pb ++ wMo cI cZ cJ mo_a mo' ++ wOu cI cZ cJ ou_a ou) H := hP.sub [0, 1, 2, 3, 4, 5, 6, 7, 8, 9, 10, 11, 12, 13, 14, 15, 16, 17, 18, 19, 20, 21, 22, 23, 24, 25, 26, 27, 28, 29, 31, 32, 33, 34, 35, 36, 37, 38, 39, 40, 41, 42, 43, 44, 45, 46, 30] rfl
    have hD : va_D A (wSd cI cZ cJ sd_a w_a v_a (wr_a 0) (rd_a 0) (cu_a 0) (sp_a 0) sd ++ wSy cI cZ cJ cu_a cu ++ wSy cI cZ cJ sp_a sp ++ wBr cI cZ cJ w_a w_b w ++ wBr cI cZ cJ v_a v_b v ++ wWr cI cZ cJ wr_a (pb_a 0) wr ++ wRd cI cZ cJ rd_a (pb_a 0) rd ++ wPb cI cZ cJ pb_a w_a v_a pb ++ wMo cI cZ cJ mo_a mo' ++ wOu cI cZ cJ ou_a ou) := hD.sub [0, 1, 2, 3, 4, 5, 6, 7, 8, 9, 10, 11, 12, 13, 14, 15, 16, 17, 18, 19, 20, 21, 22, 23, 24, 25, 26, 27, 28, 29, 31, 32, 33, 34, 35, 36, 37, 38, 39, 40, 41, 42, 43, 44, 45, 46, 30] (by decide) rfl
    refine lv_istore (lv' := [(6, .int q), (5, .int 2), (0, .ref b), (1, .ref (sd_a 0)), (2, .ref (mo_a 0)), (3, .ref (ou_a 0)), (4, .int i)]) hx hb d_law_167 hl (by decide) rfl (fun ls hl => ?_)
    refine lv_aload_n hx hb d_law_169 rfl (lv_at hl 4 rfl) ?_
    have hth : f_Model_thrown mo' = some (Mo_code mo') := rfl
    have hPc := hP.sub (ws' := (wMo cI cZ cJ mo_a mo')) [30, 31, 32, 33, 34, 35, 36, 37, 38, 39, 40, 41, 42, 43, 44, 45] rfl
    have hDc := hD.sub (ws' := (wMo cI cZ cJ mo_a mo')) [30, 31, 32, 33, 34, 35, 36, 37, 38, 39, 40, 41, 42, 43, 44, 45] (by decide) rfl
    have hFc := va_free (wc := (wMo cI cZ cJ mo_a mo')) hD hS hA [30, 31, 32, 33, 34, 35, 36, 37, 38, 39, 40, 41, 42, 43, 44, 45] rfl
    refine va_calli (va_runV (As := []) (rest := []) ⟨hx, hb, hml, hown, hts⟩ (k_Model_thrown l dC dI cI cZ cJ mo_a H.size hth) (cwV 0 hts (gV t_906 t_907 t_908 t_63 t_909) rfl rfl rfl hd_Model_thrown ⟨Nat.le_trans (Nat.le_of_ble_eq_true rfl) hRf, Nat.le_trans (Nat.le_of_ble_eq_true rfl) hRl⟩) ⟨kP_blind, va_recv hK hP (ci := 7) (q0 := 30) rfl rfl, kP_at hPc hK hDc hN⟩ rfl rfl hl.1 rfl (lv_room (Nat.le_of_ble_eq_true rfl)) d_law_170 ⟨by omega, by omega⟩) hS (fun q _ h => hFc q h) hFc (fun r9 u t H1 locs ht hvm hw hB hz1 hk1 hS => ?_)
    rw [hw]
    obtain ⟨hP, hD⟩ := kQ_join (wr := (wSd cI cZ cJ sd_a w_a v_a (wr_a 0) (rd_a 0) (cu_a 0) (sp_a 0) sd ++ wSy cI cZ cJ cu_a cu ++ wSy cI cZ cJ sp_a sp ++ wBr cI cZ cJ w_a w_b w ++ wBr cI cZ cJ v_a v_b v ++ wWr cI cZ cJ wr_a (pb_a 0) wr ++ wRd cI cZ cJ rd_a (pb_a 0) rd ++ wPb cI cZ cJ pb_a w_a v_a pb ++ wOu cI cZ cJ ou_a ou)) (w1 := (wMo cI cZ cJ mo_a mo')) hP hD [30, 31, 32, 33, 34, 35, 36, 37, 38, 39, 40, 41, 42, 43, 44, 45] [0, 1, 2, 3, 4, 5, 6, 7, 8, 9, 10, 11, 12, 13, 14, 15, 16, 17, 18, 19, 20, 21, 22, 23, 24, 25, 26, 27, 28, 29, 46] rfl rfl (by decide) (by decide) ht hk1 hFc hB
    generalize H1 = H at hP hS ⊢
    have hP : va_P (dC, dI) vwCl (wSd cI cZ cJ sd_a w_a v_a (wr_a 0) (rd_a 0) (cu_a 0) (sp_a 0) sd ++ wSy cI cZ cJ cu_a cu ++ wSy cI cZ cJ sp_a sp ++ wBr cI cZ cJ w_a w_b w ++ wBr cI cZ cJ v_a v_b v ++ wWr cI cZ cJ wr_a (pb_a 0) wr ++ wRd cI cZ cJ rd_a (pb_a 0) rd ++ wPb cI cZ cJ pb_a w_a v_a pb ++ wMo cI cZ cJ mo_a mo' ++ wOu cI cZ cJ ou_a ou) H := hP.sub [0, 1, 2, 3, 4, 5, 6, 7, 8, 9, 10, 11, 12, 13, 14, 15, 16, 17, 18, 19, 20, 21, 22, 23, 24, 25, 26, 27, 28, 29, 31, 32, 33, 34, 35, 36, 37, 38, 39, 40, 41, 42, 43, 44, 45, 46, 30] rfl
    have hD : va_D A (wSd cI cZ cJ sd_a w_a v_a (wr_a 0) (rd_a 0) (cu_a 0) (sp_a 0) sd ++ wSy cI cZ cJ cu_a cu ++ wSy cI cZ cJ sp_a sp ++ wBr cI cZ cJ w_a w_b w ++ wBr cI cZ cJ v_a v_b v ++ wWr cI cZ cJ wr_a (pb_a 0) wr ++ wRd cI cZ cJ rd_a (pb_a 0) rd ++ wPb cI cZ cJ pb_a w_a v_a pb ++ wMo cI cZ cJ mo_a mo' ++ wOu cI cZ cJ ou_a ou) := hD.sub [0, 1, 2, 3, 4, 5, 6, 7, 8, 9, 10, 11, 12, 13, 14, 15, 16, 17, 18, 19, 20, 21, 22, 23, 24, 25, 26, 27, 28, 29, 31, 32, 33, 34, 35, 36, 37, 38, 39, 40, 41, 42, 43, 44, 45, 46, 30] (by decide) rfl
    refine lv_iload hx hb d_law_173 (lv_at hl 1 rfl) ?_
    refine lv_icmp_eq (tgt := 180) hx hb d_law_175 (by decide) (fun _ => ?_) (fun h9 => absurd hcode h9)
    refine lv_iload hx hb d_law_180 (lv_at hl 1 rfl) ?_
    refine lv_if_ne (tgt := 197) hx hb d_law_182 (by decide) (fun _ => ?_) (fun h9 => absurd h9 (by decide))
    refine lv_goto (tgt := 1131) hx hb d_law_197 (by decide) ?_
    have hl := lv_sub (l' := [(0, .ref b), (1, .ref (sd_a 0)), (2, .ref (mo_a 0)), (3, .ref (ou_a 0)), (4, .int i)]) hl [2, 3, 4, 5, 6] rfl
    refine W.widen (k := j + 1 + Br_byL w + Br_byL v) (n := 6 * (j + 1) + 2 * Br_byL w + 2 * Br_byL v) (by omega) (by omega) ?_
    exact hk _ _ _ cu_a sp_a w_b v_b cu sp w v wr rd pb mo' ou hrel hP hD hS hl

set_option maxHeartbeats 8000000 in
set_option maxRecDepth 100000 in
theorem L_P_put {p : Program} {l : Launch} {e : Env} {R : Room} {s : State} {m : MethodId} {args : Array Value} {below : List Frame} {meth : Method} {c : Code} {Q : State → Prop} {A : Nat → Prop} {dC : Nat → ClassId} {dI : Nat → Nat → Nat} {cI cZ cJ : ClassId} {sd_a cu_a sp_a : Nat → Nat} {w_a w_b v_a v_b : Nat} {wr_a rd_a pb_a mo_a ou_a : Nat → Nat} {sd : Sd} {cu sp : Sy} {w v : Br} {wr : Wr} {rd : Rd} {pb : Pb} {mo : Mo} {ou : Ou} {b L : Nat} {xs : Nat → Int32} {i : Int32} {j : Nat} {Rl : Sd → Sy → Sy → Br → Br → Wr → Rd → Pb → Mo → Prop} (hl9 : l.stackTraces = false) (C0 : lcx p c m s args R (dC, dI) (TYS cI cZ cJ) A b L xs i j) (hRb : ∀ sd cu sp w v wr rd pb mo, Rl sd cu sp w v wr rd pb mo → Br_byL w ≤ 40000 ∧ Br_byL v ≤ 40000) (hR0 : Rl sd cu sp w v wr rd pb mo) (hT0 : T_P_put Rl sd cu sp w v wr rd pb mo (xs (i + 1).toNatClampNeg) (xs (i + 2).toNatClampNeg) (xs (i + 3).toNatClampNeg) (zb (xs (i + 4).toNatClampNeg)))
    (hk : ∀ (H : Heap) (locs : List Loc) (ls : Array Slot) (cu_a sp_a : Nat → Nat) (w_b v_b : Nat) (cu sp : Sy) (w v : Br) (wr : Wr) (rd : Rd) (pb : Pb) (mo : Mo) (ou : Ou), Rl sd cu sp w v wr rd pb mo → va_P (dC, dI) vwCl (wSd cI cZ cJ sd_a w_a v_a (wr_a 0) (rd_a 0) (cu_a 0) (sp_a 0) sd ++ wSy cI cZ cJ cu_a cu ++ wSy cI cZ cJ sp_a sp ++ wBr cI cZ cJ w_a w_b w ++ wBr cI cZ cJ v_a v_b v ++ wWr cI cZ cJ wr_a (pb_a 0) wr ++ wRd cI cZ cJ rd_a (pb_a 0) rd ++ wPb cI cZ cJ pb_a w_a v_a pb ++ wMo cI cZ cJ mo_a mo ++ wOu cI cZ cJ ou_a ou) H → va_D A (wSd cI cZ cJ sd_a w_a v_a (wr_a 0) (rd_a 0) (cu_a 0) (sp_a 0) sd ++ wSy cI cZ cJ cu_a cu ++ wSy cI cZ cJ sp_a sp ++ wBr cI cZ cJ w_a w_b w ++ wBr cI cZ cJ v_a v_b v ++ wWr cI cZ cJ wr_a (pb_a 0) wr ++ wRd cI cZ cJ rd_a (pb_a 0) rd ++ wPb cI cZ cJ pb_a w_a v_a pb ++ wMo cI cZ cJ mo_a mo ++ wOu cI cZ cJ ou_a ou) → va_S A s.heap H locs → lv_has ls 7 [(0, .ref b), (1, .ref (sd_a 0)), (2, .ref (mo_a 0)), (3, .ref (ou_a 0)), (4, .int i)] → W p l e R s m args below meth c H locs (j + 1 + Br_byL w + Br_byL v) (6 * (j + 1) + 2 * Br_byL w + 2 * Br_byL v) Q (F0 m 1131 ls []))
    {H : Heap} {locs : List Loc} {ls : Array Slot} (hP : va_P (dC, dI) vwCl (wSd cI cZ cJ sd_a w_a v_a (wr_a 0) (rd_a 0) (cu_a 0) (sp_a 0) sd ++ wSy cI cZ cJ cu_a cu ++ wSy cI cZ cJ sp_a sp ++ wBr cI cZ cJ w_a w_b w ++ wBr cI cZ cJ v_a v_b v ++ wWr cI cZ cJ wr_a (pb_a 0) wr ++ wRd cI cZ cJ rd_a (pb_a 0) rd ++ wPb cI cZ cJ pb_a w_a v_a pb ++ wMo cI cZ cJ mo_a mo ++ wOu cI cZ cJ ou_a ou) H) (hD : va_D A (wSd cI cZ cJ sd_a w_a v_a (wr_a 0) (rd_a 0) (cu_a 0) (sp_a 0) sd ++ wSy cI cZ cJ cu_a cu ++ wSy cI cZ cJ sp_a sp ++ wBr cI cZ cJ w_a w_b w ++ wBr cI cZ cJ v_a v_b v ++ wWr cI cZ cJ wr_a (pb_a 0) wr ++ wRd cI cZ cJ rd_a (pb_a 0) rd ++ wPb cI cZ cJ pb_a w_a v_a pb ++ wMo cI cZ cJ mo_a mo ++ wOu cI cZ cJ ou_a ou)) (hS : va_S A s.heap H locs) (hl : lv_has ls 7 [(0, .ref b), (1, .ref (sd_a 0)), (2, .ref (mo_a 0)), (3, .ref (ou_a 0)), (4, .int i)]) : W p l e R s m args below meth c H locs (j + Br_byL w + Br_byL v) (6 * j + 2 * Br_byL w + 2 * Br_byL v) Q (F0 m 200 ls []) := by
  obtain ⟨hx, hb, hml, hown, hts, hK, hA, hA2, hRf, hRl, hN, hT, hX, hX0, hbl, hin, hj, hRc, hRs⟩ := C0
  have hbA : ¬ A b := fun h => absurd (hA2 b h) (Nat.not_le.mpr hbl)
  obtain ⟨hw0, hv0⟩ := hRb _ _ _ _ _ _ _ _ _ hR0
  unfold T_P_put at hT0
  rcases hT0 with ⟨r, cu', mo', hf, hg, hcode, hrel⟩ | ⟨hf, q, mo', hg, hcode, hrel⟩
  · obtain ⟨ou', heou⟩ : ∃ z : Ou, z = (vp_updL (Ou_f ou) 0 (zl r)) := ⟨_, rfl⟩
    have hf1 : f_Law_put sd cu ou (xs (i + 1).toNatClampNeg) (xs (i + 2).toNatClampNeg) (xs (i + 3).toNatClampNeg) (zb (xs (i + 4).toNatClampNeg)) = some (0, cu', ou') := by
      rw [f_Law_put, hf, bd_s, heou]
      by_cases h9 : r = 0
      · rw [zl, if_pos h9]; exact Eq.trans (if_pos h9) rfl
      · rw [zl, if_neg h9]; exact Eq.trans (if_neg h9) rfl
    have hou : Ou_f ou' (0 : Int32).toNatClampNeg = (zl r) := by rw [heou]; exact updL_at _ _ _
    refine lv_aload_n hx hb d_law_200 rfl (lv_at hl 1 rfl) ?_
    refine lv_aload_n hx hb d_law_201 rfl (lv_at hl 0 rfl) ?_
    refine lv_iload hx hb d_law_202 (lv_at hl 4 rfl) ?_
    refine lv_iconst (v := 1) hx hb d_law_204 (by decide) ?_
    refine lv_iadd hx hb d_law_205 ?_
    refine va_sld hx hb hX0 hbl hbA hS (hin 1 (by decide) (by decide)) d_law_206 ?_
    refine lv_aload_n hx hb d_law_207 rfl (lv_at hl 0 rfl) ?_
    refine lv_iload hx hb d_law_208 (lv_at hl 4 rfl) ?_
    refine lv_iconst (v := 2) hx hb d_law_210 (by decide) ?_
    refine lv_iadd hx hb d_law_211 ?_
    refine va_sld hx hb hX0 hbl hbA hS (hin 2 (by decide) (by decide)) d_law_212 ?_
    refine lv_aload_n hx hb d_law_213 rfl (lv_at hl 0 rfl) ?_
    refine lv_iload hx hb d_law_214 (lv_at hl 4 rfl) ?_
    refine lv_iconst (v := 3) hx hb d_law_216 (by decide) ?_
    refine lv_iadd hx hb d_law_217 ?_
    refine va_sld hx hb hX0 hbl hbA hS (hin 3 (by decide) (by decide)) d_law_218 ?_
    refine lv_aload_n hx hb d_law_219 rfl (lv_at hl 0 rfl) ?_
    refine lv_iload hx hb d_law_220 (lv_at hl 4 rfl) ?_
    refine lv_iconst (v := 4) hx hb d_law_222 (by decide) ?_
    refine lv_iadd hx hb d_law_223 ?_
    refine va_sld hx hb hX0 hbl hbA hS (hin 4 (by decide) (by decide)) d_law_224 ?_
    refine lw_zb hx hb d_law_225 d_law_228 d_law_229 d_law_232 ?_
    refine lv_aload_n hx hb d_law_233 rfl (lv_at hl 3 rfl) ?_
    have hPc := hP.sub (ws' := (wSd cI cZ cJ sd_a w_a v_a (wr_a 0) (rd_a 0) (cu_a 0) (sp_a 0) sd ++ wSy cI cZ cJ cu_a cu ++ wOu cI cZ cJ ou_a ou)) [0, 1, 2, 3, 4, 5, 6, 7, 8, 9, 10, 46] rfl
    have hDc := hD.sub (ws' := (wSd cI cZ cJ sd_a w_a v_a (wr_a 0) (rd_a 0) (cu_a 0) (sp_a 0) sd ++ wSy cI cZ cJ cu_a cu ++ wOu cI cZ cJ ou_a ou)) [0, 1, 2, 3, 4, 5, 6, 7, 8, 9, 10, 46] (by decide) rfl
    have hFc := va_free (wc := (wSd cI cZ cJ sd_a w_a v_a (wr_a 0) (rd_a 0) (cu_a 0) (sp_a 0) sd ++ wSy cI cZ cJ cu_a cu ++ wOu cI cZ cJ ou_a ou)) hD hS hA [0, 1, 2, 3, 4, 5, 6, 7, 8, 9, 10, 46] rfl
    refine va_calli (w_runS (As := [.ref (sd_a 0), .int (xs (i + 1).toNatClampNeg), .int (xs (i + 2).toNatClampNeg), .int (xs (i + 3).toNatClampNeg), .int (zb (xs (i + 4).toNatClampNeg)), .ref (ou_a 0)]) (rest := []) ⟨hx, hb, hml, hown, hts⟩ (k_Law_put l dC dI cI cZ cJ sd_a cu_a ou_a w_a v_a (wr_a 0) (rd_a 0) (sp_a 0) H.size hf1) (cwH_of 6 hts t_654 rfl rfl t_53 t_652 t_653 hd_Law_put.2 ⟨Nat.le_trans (Nat.le_of_ble_eq_true rfl) hRf, Nat.le_trans (Nat.le_of_ble_eq_true rfl) hRl⟩) ⟨kP_blind, kP_at hPc hK hDc hN⟩ rfl rfl hl.1 rfl (lv_room (Nat.le_of_ble_eq_true rfl)) d_law_234 ⟨by omega, by omega⟩) hS (fun q _ h => hFc q h) hFc (fun r9 u t H1 locs ht hvm hw hB hz1 hk1 hS => ?_)
    rw [hw]
    obtain ⟨hP, hD⟩ := kQ_join (wr := (wSy cI cZ cJ sp_a sp ++ wBr cI cZ cJ w_a w_b w ++ wBr cI cZ cJ v_a v_b v ++ wWr cI cZ cJ wr_a (pb_a 0) wr ++ wRd cI cZ cJ rd_a (pb_a 0) rd ++ wPb cI cZ cJ pb_a w_a v_a pb ++ wMo cI cZ cJ mo_a mo)) (w1 := (wSd cI cZ cJ sd_a w_a v_a (wr_a 0) (rd_a 0) (cu_a 0) (sp_a 0) sd ++ wSy cI cZ cJ cu_a cu' ++ wOu cI cZ cJ ou_a ou')) hP hD [0, 1, 2, 3, 4, 5, 6, 7, 8, 9, 10, 46] [11, 12, 13, 14, 15, 16, 17, 18, 19, 20, 21, 22, 23, 24, 25, 26, 27, 28, 29, 30, 31, 32, 33, 34, 35, 36, 37, 38, 39, 40, 41, 42, 43, 44, 45] rfl rfl (by decide) (by decide) ht hk1 hFc hB
    generalize H1 = H at hP hS ⊢
    have hP : va_P (dC, dI) vwCl (wSd cI cZ cJ sd_a w_a v_a (wr_a 0) (rd_a 0) (cu_a 0) (sp_a 0) sd ++ wSy cI cZ cJ cu_a cu' ++ wSy cI cZ cJ sp_a sp ++ wBr cI cZ cJ w_a w_b w ++ wBr cI cZ cJ v_a v_b v ++ wWr cI cZ cJ wr_a (pb_a 0) wr ++ wRd cI cZ cJ rd_a (pb_a 0) rd ++ wPb cI cZ cJ pb_a w_a v_a pb ++ wMo cI cZ cJ mo_a mo ++ wOu cI cZ cJ ou_a ou') H := hP.sub [35, 36, 37, 38, 39, 40, 41, 42, 43, 44, 45, 0, 1, 2, 3, 4, 5, 6, 7, 8, 9, 10, 11, 12, 13, 14, 15, 16, 17, 18, 19, 20, 21, 22, 23, 24, 25, 26, 27, 28, 29, 30, 31, 32, 33, 34, 46] rfl
    have hD : va_D A (wSd cI cZ cJ sd_a w_a v_a (wr_a 0) (rd_a 0) (cu_a 0) (sp_a 0) sd ++ wSy cI cZ cJ cu_a cu' ++ wSy cI cZ cJ sp_a sp ++ wBr cI cZ cJ w_a w_b w ++ wBr cI cZ cJ v_a v_b v ++ wWr cI cZ cJ wr_a (pb_a 0) wr ++ wRd cI cZ cJ rd_a (pb_a 0) rd ++ wPb cI cZ cJ pb_a w_a v_a pb ++ wMo cI cZ cJ mo_a mo ++ wOu cI cZ cJ ou_a ou') := hD.sub [35, 36, 37, 38, 39, 40, 41, 42, 43, 44, 45, 0, 1, 2, 3, 4, 5, 6, 7, 8, 9, 10, 11, 12, 13, 14, 15, 16, 17, 18, 19, 20, 21, 22, 23, 24, 25, 26, 27, 28, 29, 30, 31, 32, 33, 34, 46] (by decide) rfl
    refine lv_istore (lv' := [(5, .int 0), (0, .ref b), (1, .ref (sd_a 0)), (2, .ref (mo_a 0)), (3, .ref (ou_a 0)), (4, .int i)]) hx hb d_law_237 hl (by decide) rfl (fun ls hl => ?_)
    refine lv_aload_n hx hb d_law_239 rfl (lv_at hl 3 rfl) ?_
    refine lv_aload_n hx hb d_law_240 rfl (lv_at hl 1 rfl) ?_
    refine lv_iload hx hb d_law_241 (lv_at hl 5 rfl) ?_
    refine lv_iconst (v := 1) hx hb d_law_243 (by decide) ?_
    refine lv_iadd hx hb d_law_244 ?_
    refine va_sld hx hb hX0 hbl hbA hS (hin 1 (by decide) (by decide)) d_law_245 ?_
    refine lv_aload_n hx hb d_law_246 rfl (lv_at hl 1 rfl) ?_
    refine lv_iload hx hb d_law_247 (lv_at hl 5 rfl) ?_
    refine lv_iconst (v := 2) hx hb d_law_249 (by decide) ?_
    refine lv_iadd hx hb d_law_250 ?_
    refine va_sld hx hb hX0 hbl hbA hS (hin 2 (by decide) (by decide)) d_law_251 ?_
    refine lv_aload_n hx hb d_law_252 rfl (lv_at hl 1 rfl) ?_
    refine lv_iload hx hb d_law_253 (lv_at hl 5 rfl) ?_
    refine lv_iconst (v := 3) hx hb d_law_255 (by decide) ?_
    refine lv_iadd hx hb d_law_256 ?_
    refine va_sld hx hb hX0 hbl hbA hS (hin 3 (by decide) (by decide)) d_law_257 ?_
    refine lv_aload_n hx hb d_law_258 rfl (lv_at hl 1 rfl) ?_
    refine lv_iload hx hb d_law_259 (lv_at hl 5 rfl) ?_
    refine lv_iconst (v := 4) hx hb d_law_261 (by decide) ?_
    refine lv_iadd hx hb d_law_262 ?_
    refine va_sld hx hb hX0 hbl hbA hS (hin 4 (by decide) (by decide)) d_law_263 ?_
    refine lw_zb hx hb d_law_264 d_law_267 d_law_268 d_law_271 ?_
    have hPc := hP.sub (ws' := (wMo cI cZ cJ mo_a mo)) [30, 31, 32, 33, 34, 35, 36, 37, 38, 39, 40, 41, 42, 43, 44, 45] rfl
    have hDc := hD.sub (ws' := (wMo cI cZ cJ mo_a mo)) [30, 31, 32, 33, 34, 35, 36, 37, 38, 39, 40, 41, 42, 43, 44, 45] (by decide) rfl
    have hFc := va_free (wc := (wMo cI cZ cJ mo_a mo)) hD hS hA [30, 31, 32, 33, 34, 35, 36, 37, 38, 39, 40, 41, 42, 43, 44, 45] rfl
    refine va_calli (va_runV (As := [.int (xs (i + 1).toNatClampNeg), .int (xs (i + 2).toNatClampNeg), .int (xs (i + 3).toNatClampNeg), .int (zb (xs (i + 4).toNatClampNeg))]) (rest := []) ⟨hx, hb, hml, hown, hts⟩ (k_Model_put l dC dI cI cZ cJ mo_a H.size hg) (cwV 4 hts (gV t_918 t_919 t_920 t_63 t_921) rfl rfl rfl hd_Model_put ⟨Nat.le_trans (Nat.le_of_ble_eq_true rfl) hRf, Nat.le_trans (Nat.le_of_ble_eq_true rfl) hRl⟩) ⟨kP_blind, va_recv hK hP (ci := 7) (q0 := 30) rfl rfl, kP_at hPc hK hDc hN⟩ rfl rfl hl.1 rfl (lv_room (Nat.le_of_ble_eq_true rfl)) d_law_272 ⟨by omega, by omega⟩) hS (fun q _ h => hFc q h) hFc (fun r9 u t H1 locs ht hvm hw hB hz1 hk1 hS => ?_)
    rw [hw.1]
    obtain ⟨hP, hD⟩ := kQ_join (wr := (wSd cI cZ cJ sd_a w_a v_a (wr_a 0) (rd_a 0) (cu_a 0) (sp_a 0) sd ++ wSy cI cZ cJ cu_a cu' ++ wSy cI cZ cJ sp_a sp ++ wBr cI cZ cJ w_a w_b w ++ wBr cI cZ cJ v_a v_b v ++ wWr cI cZ cJ wr_a (pb_a 0) wr ++ wRd cI cZ cJ rd_a (pb_a 0) rd ++ wPb cI cZ cJ pb_a w_a v_a pb ++ wOu cI cZ cJ ou_a ou')) (w1 := (wMo cI cZ cJ mo_a mo')) hP hD [30, 31, 32, 33, 34, 35, 36, 37, 38, 39, 40, 41, 42, 43, 44, 45] [0, 1, 2, 3, 4, 5, 6, 7, 8, 9, 10, 11, 12, 13, 14, 15, 16, 17, 18, 19, 20, 21, 22, 23, 24, 25, 26, 27, 28, 29, 46] rfl rfl (by decide) (by decide) ht hk1 hFc hB
    generalize H1 = H at hP hS ⊢
    have hP : va_P (dC, dI) vwCl (wSd cI cZ cJ sd_a w_a v_a (wr_a 0) (rd_a 0) (cu_a 0) (sp_a 0) sd ++ wSy cI cZ cJ cu_a cu' ++ wSy cI cZ cJ sp_a sp ++ wBr cI cZ cJ w_a w_b w ++ wBr cI cZ cJ v_a v_b v ++ wWr cI cZ cJ wr_a (pb_a 0) wr ++ wRd cI cZ cJ rd_a (pb_a 0) rd ++ wPb cI cZ cJ pb_a w_a v_a pb ++ wMo cI cZ cJ mo_a mo' ++ wOu cI cZ cJ ou_a ou') H := hP.sub [0, 1, 2, 3, 4, 5, 6, 7, 8, 9, 10, 11, 12, 13, 14, 15, 16, 17, 18, 19, 20, 21, 22, 23, 24, 25, 26, 27, 28, 29, 31, 32, 33, 34, 35, 36, 37, 38, 39, 40, 41, 42, 43, 44, 45, 46, 30] rfl
    have hD : va_D A (wSd cI cZ cJ sd_a w_a v_a (wr_a 0) (rd_a 0) (cu_a 0) (sp_a 0) sd ++ wSy cI cZ cJ cu_a cu' ++ wSy cI cZ cJ sp_a sp ++ wBr cI cZ cJ w_a w_b w ++ wBr cI cZ cJ v_a v_b v ++ wWr cI cZ cJ wr_a (pb_a 0) wr ++ wRd cI cZ cJ rd_a (pb_a 0) rd ++ wPb cI cZ cJ pb_a w_a v_a pb ++ wMo cI cZ cJ mo_a mo' ++ wOu cI cZ cJ ou_a ou') := hD.sub [0, 1, 2, 3, 4, 5, 6, 7, 8, 9, 10, 11, 12, 13, 14, 15, 16, 17, 18, 19, 20, 21, 22, 23, 24, 25, 26, 27, 28, 29, 31, 32, 33, 34, 35, 36, 37, 38, 39, 40, 41, 42, 43, 44, 45, 46, 30] (by decide) rfl
    refine lv_istore (lv' := [(6, .int r), (5, .int 0), (0, .ref b), (1, .ref (sd_a 0)), (2, .ref (mo_a 0)), (3, .ref (ou_a 0)), (4, .int i)]) hx hb d_law_275 hl (by decide) rfl (fun ls hl => ?_)
    refine lv_aload_n hx hb d_law_277 rfl (lv_at hl 4 rfl) ?_
    have hth : f_Model_thrown mo' = some (Mo_code mo') := rfl
    have hPc := hP.sub (ws' := (wMo cI cZ cJ mo_a mo')) [30, 31, 32, 33, 34, 35, 36, 37, 38, 39, 40, 41, 42, 43, 44, 45] rfl
    have hDc := hD.sub (ws' := (wMo cI cZ cJ mo_a mo')) [30, 31, 32, 33, 34, 35, 36, 37, 38, 39, 40, 41, 42, 43, 44, 45] (by decide) rfl
    have hFc := va_free (wc := (wMo cI cZ cJ mo_a mo')) hD hS hA [30, 31, 32, 33, 34, 35, 36, 37, 38, 39, 40, 41, 42, 43, 44, 45] rfl
    refine va_calli (va_runV (As := []) (rest := []) ⟨hx, hb, hml, hown, hts⟩ (k_Model_thrown l dC dI cI cZ cJ mo_a H.size hth) (cwV 0 hts (gV t_906 t_907 t_908 t_63 t_909) rfl rfl rfl hd_Model_thrown ⟨Nat.le_trans (Nat.le_of_ble_eq_true rfl) hRf, Nat.le_trans (Nat.le_of_ble_eq_true rfl) hRl⟩) ⟨kP_blind, va_recv hK hP (ci := 7) (q0 := 30) rfl rfl, kP_at hPc hK hDc hN⟩ rfl rfl hl.1 rfl (lv_room (Nat.le_of_ble_eq_true rfl)) d_law_278 ⟨by omega, by omega⟩) hS (fun q _ h => hFc q h) hFc (fun r9 u t H1 locs ht hvm hw hB hz1 hk1 hS => ?_)
    rw [hw]
    obtain ⟨hP, hD⟩ := kQ_join (wr := (wSd cI cZ cJ sd_a w_a v_a (wr_a 0) (rd_a 0) (cu_a 0) (sp_a 0) sd ++ wSy cI cZ cJ cu_a cu' ++ wSy cI cZ cJ sp_a sp ++ wBr cI cZ cJ w_a w_b w ++ wBr cI cZ cJ v_a v_b v ++ wWr cI cZ cJ wr_a (pb_a 0) wr ++ wRd cI cZ cJ rd_a (pb_a 0) rd ++ wPb cI cZ cJ pb_a w_a v_a pb ++ wOu cI cZ cJ ou_a ou')) (w1 := (wMo cI cZ cJ mo_a mo')) hP hD [30, 31, 32, 33, 34, 35, 36, 37, 38, 39, 40, 41, 42, 43, 44, 45] [0, 1, 2, 3, 4, 5, 6, 7, 8, 9, 10, 11, 12, 13, 14, 15, 16, 17, 18, 19, 20, 21, 22, 23, 24, 25, 26, 27, 28, 29, 46] rfl rfl (by decide) (by decide) ht hk1 hFc hB
    generalize H1 = H at hP hS ⊢
    have hP : va_P (dC, dI) vwCl (wSd cI cZ cJ sd_a w_a v_a (wr_a 0) (rd_a 0) (cu_a 0) (sp_a 0) sd ++ wSy cI cZ cJ cu_a cu' ++ wSy cI cZ cJ sp_a sp ++ wBr cI cZ cJ w_a w_b w ++ wBr cI cZ cJ v_a v_b v ++ wWr cI cZ cJ wr_a (pb_a 0) wr ++ wRd cI cZ cJ rd_a (pb_a 0) rd ++ wPb cI cZ cJ pb_a w_a v_a pb ++ wMo cI cZ cJ mo_a mo' ++ wOu cI cZ cJ ou_a ou') H := hP.sub [0, 1, 2, 3, 4, 5, 6, 7, 8, 9, 10, 11, 12, 13, 14, 15, 16, 17, 18, 19, 20, 21, 22, 23, 24, 25, 26, 27, 28, 29, 31, 32, 33, 34, 35, 36, 37, 38, 39, 40, 41, 42, 43, 44, 45, 46, 30] rfl
    have hD : va_D A (wSd cI cZ cJ sd_a w_a v_a (wr_a 0) (rd_a 0) (cu_a 0) (sp_a 0) sd ++ wSy cI cZ cJ cu_a cu' ++ wSy cI cZ cJ sp_a sp ++ wBr cI cZ cJ w_a w_b w ++ wBr cI cZ cJ v_a v_b v ++ wWr cI cZ cJ wr_a (pb_a 0) wr ++ wRd cI cZ cJ rd_a (pb_a 0) rd ++ wPb cI cZ cJ pb_a w_a v_a pb ++ wMo cI cZ cJ mo_a mo' ++ wOu cI cZ cJ ou_a ou') := hD.sub [0, 1, 2, 3, 4, 5, 6, 7, 8, 9, 10, 11, 12, 13, 14, 15, 16, 17, 18, 19, 20, 21, 22, 23, 24, 25, 26, 27, 28, 29, 31, 32, 33, 34, 35, 36, 37, 38, 39, 40, 41, 42, 43, 44, 45, 46, 30] (by decide) rfl
    refine lv_iload hx hb d_law_281 (lv_at hl 1 rfl) ?_
    refine lv_icmp_eq (tgt := 288) hx hb d_law_283 (by decide) (fun _ => ?_) (fun h9 => absurd hcode h9)
    refine lv_iload hx hb d_law_288 (lv_at hl 1 rfl) ?_
    refine lv_if_ne (tgt := 312) hx hb d_law_290 (by decide) (fun h9 => absurd rfl h9) (fun _ => ?_)
    refine lv_aload_n hx hb d_law_293 rfl (lv_at hl 5 rfl) ?_
    refine lv_iconst (v := 0) hx hb d_law_294 (by decide) ?_
    refine va_lald (f := Ou_f ou') hx hb hK hP 46 2 rfl rfl (inb_in (by decide)) d_law_295 ?_
    refine lv_iload hx hb d_law_296 (lv_at hl 0 rfl) ?_
    refine lw_zl hx hb d_law_298 d_law_301 d_law_302 d_law_305 ?_
    refine W.lcmp hx hb d_law_306 ?_
    refine lv_if_eq (tgt := 312) hx hb d_law_307 (by decide) (fun _ => ?_) (fun h9 => absurd (by rw [hou]; exact cmp_self _) h9)
    refine lv_goto (tgt := 1131) hx hb d_law_312 (by decide) ?_
    have hl := lv_sub (l' := [(0, .ref b), (1, .ref (sd_a 0)), (2, .ref (mo_a 0)), (3, .ref (ou_a 0)), (4, .int i)]) hl [2, 3, 4, 5, 6] rfl
    refine W.widen (k := j + 1 + Br_byL w + Br_byL v) (n := 6 * (j + 1) + 2 * Br_byL w + 2 * Br_byL v) (by omega) (by omega) ?_
    exact hk _ _ _ cu_a sp_a w_b v_b cu' sp w v wr rd pb mo' ou' hrel hP hD hS hl
  · refine lv_aload_n hx hb d_law_200 rfl (lv_at hl 1 rfl) ?_
    refine lv_aload_n hx hb d_law_201 rfl (lv_at hl 0 rfl) ?_
    refine lv_iload hx hb d_law_202 (lv_at hl 4 rfl) ?_
    refine lv_iconst (v := 1) hx hb d_law_204 (by decide) ?_
    refine lv_iadd hx hb d_law_205 ?_
    refine va_sld hx hb hX0 hbl hbA hS (hin 1 (by decide) (by decide)) d_law_206 ?_
    refine lv_aload_n hx hb d_law_207 rfl (lv_at hl 0 rfl) ?_
    refine lv_iload hx hb d_law_208 (lv_at hl 4 rfl) ?_
    refine lv_iconst (v := 2) hx hb d_law_210 (by decide) ?_
    refine lv_iadd hx hb d_law_211 ?_
    refine va_sld hx hb hX0 hbl hbA hS (hin 2 (by decide) (by decide)) d_law_212 ?_
    refine lv_aload_n hx hb d_law_213 rfl (lv_at hl 0 rfl) ?_
    refine lv_iload hx hb d_law_214 (lv_at hl 4 rfl) ?_
    refine lv_iconst (v := 3) hx hb d_law_216 (by decide) ?_
    refine lv_iadd hx hb d_law_217 ?_
    refine va_sld hx hb hX0 hbl hbA hS (hin 3 (by decide) (by decide)) d_law_218 ?_
    refine lv_aload_n hx hb d_law_219 rfl (lv_at hl 0 rfl) ?_
    refine lv_iload hx hb d_law_220 (lv_at hl 4 rfl) ?_
    refine lv_iconst (v := 4) hx hb d_law_222 (by decide) ?_
    refine lv_iadd hx hb d_law_223 ?_
    refine va_sld hx hb hX0 hbl hbA hS (hin 4 (by decide) (by decide)) d_law_224 ?_
    refine lw_zb hx hb d_law_225 d_law_228 d_law_229 d_law_232 ?_
    refine lv_aload_n hx hb d_law_233 rfl (lv_at hl 3 rfl) ?_
    have hPc := hP.sub (ws' := (wSd cI cZ cJ sd_a w_a v_a (wr_a 0) (rd_a 0) (cu_a 0) (sp_a 0) sd ++ wSy cI cZ cJ cu_a cu ++ wOu cI cZ cJ ou_a ou)) [0, 1, 2, 3, 4, 5, 6, 7, 8, 9, 10, 46] rfl
    have hDc := hD.sub (ws' := (wSd cI cZ cJ sd_a w_a v_a (wr_a 0) (rd_a 0) (cu_a 0) (sp_a 0) sd ++ wSy cI cZ cJ cu_a cu ++ wOu cI cZ cJ ou_a ou)) [0, 1, 2, 3, 4, 5, 6, 7, 8, 9, 10, 46] (by decide) rfl
    have hFc := va_free (wc := (wSd cI cZ cJ sd_a w_a v_a (wr_a 0) (rd_a 0) (cu_a 0) (sp_a 0) sd ++ wSy cI cZ cJ cu_a cu ++ wOu cI cZ cJ ou_a ou)) hD hS hA [0, 1, 2, 3, 4, 5, 6, 7, 8, 9, 10, 46] rfl
    refine va_calli (w_runS (As := [.ref (sd_a 0), .int (xs (i + 1).toNatClampNeg), .int (xs (i + 2).toNatClampNeg), .int (xs (i + 3).toNatClampNeg), .int (zb (xs (i + 4).toNatClampNeg)), .ref (ou_a 0)]) (rest := []) ⟨hx, hb, hml, hown, hts⟩ (kx_Law_put_3 l hl9 dC dI cI cZ cJ sd_a cu_a ou_a w_a v_a (wr_a 0) (rd_a 0) (sp_a 0) H.size hf) (cwH_of 6 hts t_654 rfl rfl t_53 t_652 t_653 hd_Law_put.2 ⟨Nat.le_trans (Nat.le_of_ble_eq_true rfl) hRf, Nat.le_trans (Nat.le_of_ble_eq_true rfl) hRl⟩) ⟨kPX_blind, kPX_at hPc hK hDc hN (fun q hq => hS.2.1 q hq (fun h9 => absurd (hA2 q h9) (Nat.not_le.mpr hq))) hT hX⟩ rfl rfl hl.1 rfl (lv_room (Nat.le_of_ble_eq_true rfl)) d_law_234 ⟨by omega, by omega⟩) hS (fun q _ h => hFc q h) hFc (fun r9 u t H1 locs ht hvm hw hB hz1 hk1 hS => ?_)
    rw [hw]
    obtain ⟨hP, hD⟩ := kQ_join (wr := (wSy cI cZ cJ sp_a sp ++ wBr cI cZ cJ w_a w_b w ++ wBr cI cZ cJ v_a v_b v ++ wWr cI cZ cJ wr_a (pb_a 0) wr ++ wRd cI cZ cJ rd_a (pb_a 0) rd ++ wPb cI cZ cJ pb_a w_a v_a pb ++ wMo cI cZ cJ mo_a mo)) (w1 := (wSd cI cZ cJ sd_a w_a v_a (wr_a 0) (rd_a 0) (cu_a 0) (sp_a 0) sd ++ wSy cI cZ cJ cu_a cu ++ wOu cI cZ cJ ou_a ou)) hP hD [0, 1, 2, 3, 4, 5, 6, 7, 8, 9, 10, 46] [11, 12, 13, 14, 15, 16, 17, 18, 19, 20, 21, 22, 23, 24, 25, 26, 27, 28, 29, 30, 31, 32, 33, 34, 35, 36, 37, 38, 39, 40, 41, 42, 43, 44, 45] rfl rfl (by decide) (by decide) ht hk1 hFc hB
    generalize H1 = H at hP hS ⊢
    have hP : va_P (dC, dI) vwCl (wSd cI cZ cJ sd_a w_a v_a (wr_a 0) (rd_a 0) (cu_a 0) (sp_a 0) sd ++ wSy cI cZ cJ cu_a cu ++ wSy cI cZ cJ sp_a sp ++ wBr cI cZ cJ w_a w_b w ++ wBr cI cZ cJ v_a v_b v ++ wWr cI cZ cJ wr_a (pb_a 0) wr ++ wRd cI cZ cJ rd_a (pb_a 0) rd ++ wPb cI cZ cJ pb_a w_a v_a pb ++ wMo cI cZ cJ mo_a mo ++ wOu cI cZ cJ ou_a ou) H := hP.sub [35, 36, 37, 38, 39, 40, 41, 42, 43, 44, 45, 0, 1, 2, 3, 4, 5, 6, 7, 8, 9, 10, 11, 12, 13, 14, 15, 16, 17, 18, 19, 20, 21, 22, 23, 24, 25, 26, 27, 28, 29, 30, 31, 32, 33, 34, 46] rfl
    have hD : va_D A (wSd cI cZ cJ sd_a w_a v_a (wr_a 0) (rd_a 0) (cu_a 0) (sp_a 0) sd ++ wSy cI cZ cJ cu_a cu ++ wSy cI cZ cJ sp_a sp ++ wBr cI cZ cJ w_a w_b w ++ wBr cI cZ cJ v_a v_b v ++ wWr cI cZ cJ wr_a (pb_a 0) wr ++ wRd cI cZ cJ rd_a (pb_a 0) rd ++ wPb cI cZ cJ pb_a w_a v_a pb ++ wMo cI cZ cJ mo_a mo ++ wOu cI cZ cJ ou_a ou) := hD.sub [35, 36, 37, 38, 39, 40, 41, 42, 43, 44, 45, 0, 1, 2, 3, 4, 5, 6, 7, 8, 9, 10, 11, 12, 13, 14, 15, 16, 17, 18, 19, 20, 21, 22, 23, 24, 25, 26, 27, 28, 29, 30, 31, 32, 33, 34, 46] (by decide) rfl
    refine lv_istore (lv' := [(5, .int 1), (0, .ref b), (1, .ref (sd_a 0)), (2, .ref (mo_a 0)), (3, .ref (ou_a 0)), (4, .int i)]) hx hb d_law_237 hl (by decide) rfl (fun ls hl => ?_)
    refine lv_aload_n hx hb d_law_239 rfl (lv_at hl 3 rfl) ?_
    refine lv_aload_n hx hb d_law_240 rfl (lv_at hl 1 rfl) ?_
    refine lv_iload hx hb d_law_241 (lv_at hl 5 rfl) ?_
    refine lv_iconst (v := 1) hx hb d_law_243 (by decide) ?_
    refine lv_iadd hx hb d_law_244 ?_
    refine va_sld hx hb hX0 hbl hbA hS (hin 1 (by decide) (by decide)) d_law_245 ?_
    refine lv_aload_n hx hb d_law_246 rfl (lv_at hl 1 rfl) ?_
    refine lv_iload hx hb d_law_247 (lv_at hl 5 rfl) ?_
    refine lv_iconst (v := 2) hx hb d_law_249 (by decide) ?_
    refine lv_iadd hx hb d_law_250 ?_
    refine va_sld hx hb hX0 hbl hbA hS (hin 2 (by decide) (by decide)) d_law_251 ?_
    refine lv_aload_n hx hb d_law_252 rfl (lv_at hl 1 rfl) ?_
    refine lv_iload hx hb d_law_253 (lv_at hl 5 rfl) ?_
    refine lv_iconst (v := 3) hx hb d_law_255 (by decide) ?_
    refine lv_iadd hx hb d_law_256 ?_
    refine va_sld hx hb hX0 hbl hbA hS (hin 3 (by decide) (by decide)) d_law_257 ?_
    refine lv_aload_n hx hb d_law_258 rfl (lv_at hl 1 rfl) ?_
    refine lv_iload hx hb d_law_259 (lv_at hl 5 rfl) ?_
    refine lv_iconst (v := 4) hx hb d_law_261 (by decide) ?_
    refine lv_iadd hx hb d_law_262 ?_
    refine va_sld hx hb hX0 hbl hbA hS (hin 4 (by decide) (by decide)) d_law_263 ?_
    refine lw_zb hx hb d_law_264 d_law_267 d_law_268 d_law_271 ?_
    have hPc := hP.sub (ws' := (wMo cI cZ cJ mo_a mo)) [30, 31, 32, 33, 34, 35, 36, 37, 38, 39, 40, 41, 42, 43, 44, 45] rfl
    have hDc := hD.sub (ws' := (wMo cI cZ cJ mo_a mo)) [30, 31, 32, 33, 34, 35, 36, 37, 38, 39, 40, 41, 42, 43, 44, 45] (by decide) rfl
    have hFc := va_free (wc := (wMo cI cZ cJ mo_a mo)) hD hS hA [30, 31, 32, 33, 34, 35, 36, 37, 38, 39, 40, 41, 42, 43, 44, 45] rfl
    refine va_calli (va_runV (As := [.int (xs (i + 1).toNatClampNeg), .int (xs (i + 2).toNatClampNeg), .int (xs (i + 3).toNatClampNeg), .int (zb (xs (i + 4).toNatClampNeg))]) (rest := []) ⟨hx, hb, hml, hown, hts⟩ (k_Model_put l dC dI cI cZ cJ mo_a H.size hg) (cwV 4 hts (gV t_918 t_919 t_920 t_63 t_921) rfl rfl rfl hd_Model_put ⟨Nat.le_trans (Nat.le_of_ble_eq_true rfl) hRf, Nat.le_trans (Nat.le_of_ble_eq_true rfl) hRl⟩) ⟨kP_blind, va_recv hK hP (ci := 7) (q0 := 30) rfl rfl, kP_at hPc hK hDc hN⟩ rfl rfl hl.1 rfl (lv_room (Nat.le_of_ble_eq_true rfl)) d_law_272 ⟨by omega, by omega⟩) hS (fun q _ h => hFc q h) hFc (fun r9 u t H1 locs ht hvm hw hB hz1 hk1 hS => ?_)
    rw [hw.1]
    obtain ⟨hP, hD⟩ := kQ_join (wr := (wSd cI cZ cJ sd_a w_a v_a (wr_a 0) (rd_a 0) (cu_a 0) (sp_a 0) sd ++ wSy cI cZ cJ cu_a cu ++ wSy cI cZ cJ sp_a sp ++ wBr cI cZ cJ w_a w_b w ++ wBr cI cZ cJ v_a v_b v ++ wWr cI cZ cJ wr_a (pb_a 0) wr ++ wRd cI cZ cJ rd_a (pb_a 0) rd ++ wPb cI cZ cJ pb_a w_a v_a pb ++ wOu cI cZ cJ ou_a ou)) (w1 := (wMo cI cZ cJ mo_a mo')) hP hD [30, 31, 32, 33, 34, 35, 36, 37, 38, 39, 40, 41, 42, 43, 44, 45] [0, 1, 2, 3, 4, 5, 6, 7, 8, 9, 10, 11, 12, 13, 14, 15, 16, 17, 18, 19, 20, 21, 22, 23, 24, 25, 26, 27, 28, 29, 46] rfl rfl (by decide) (by decide) ht hk1 hFc hB
    generalize H1 = H at hP hS ⊢
    have hP : va_P (dC, dI) vwCl (wSd cI cZ cJ sd_a w_a v_a (wr_a 0) (rd_a 0) (cu_a 0) (sp_a 0) sd ++ wSy cI cZ cJ cu_a cu ++ wSy cI cZ cJ sp_a sp ++ wBr cI cZ cJ w_a w_b w ++ wBr cI cZ cJ v_a v_b v ++ wWr cI cZ cJ wr_a (pb_a 0) wr ++ wRd cI cZ cJ rd_a (pb_a 0) rd ++ wPb cI cZ cJ pb_a w_a v_a pb ++ wMo cI cZ cJ mo_a mo' ++ wOu cI cZ cJ ou_a ou) H := hP.sub [0, 1, 2, 3, 4, 5, 6, 7, 8, 9, 10, 11, 12, 13, 14, 15, 16, 17, 18, 19, 20, 21, 22, 23, 24, 25, 26, 27, 28, 29, 31, 32, 33, 34, 35, 36, 37, 38, 39, 40, 41, 42, 43, 44, 45, 46, 30] rfl
    have hD : va_D A (wSd cI cZ cJ sd_a w_a v_a (wr_a 0) (rd_a 0) (cu_a 0) (sp_a 0) sd ++ wSy cI cZ cJ cu_a cu ++ wSy cI cZ cJ sp_a sp ++ wBr cI cZ cJ w_a w_b w ++ wBr cI cZ cJ v_a v_b v ++ wWr cI cZ cJ wr_a (pb_a 0) wr ++ wRd cI cZ cJ rd_a (pb_a 0) rd ++ wPb cI cZ cJ pb_a w_a v_a pb ++ wMo cI cZ cJ mo_a mo' ++ wOu cI cZ cJ ou_a ou) := hD.sub [0, 1, 2, 3, 4, 5, 6, 7, 8, 9, 10, 11, 12, 13, 14, 15, 16, 17, 18, 19, 20, 21, 22, 23, 24, 25, 26, 27, 28, 29, 31, 32, 33, 34, 35, 36, 37, 38, 39, 40, 41, 42, 43, 44, 45, 46, 30] (by decide) rfl
    refine lv_istore (lv' := [(6, .int q), (5, .int 1), (0, .ref b), (1, .ref (sd_a 0)), (2, .ref (mo_a 0)), (3, .ref (ou_a 0)), (4, .int i)]) hx hb d_law_275 hl (by decide) rfl (fun ls hl => ?_)
    refine lv_aload_n hx hb d_law_277 rfl (lv_at hl 4 rfl) ?_
    have hth : f_Model_thrown mo' = some (Mo_code mo') := rfl
    have hPc := hP.sub (ws' := (wMo cI cZ cJ mo_a mo')) [30, 31, 32, 33, 34, 35, 36, 37, 38, 39, 40, 41, 42, 43, 44, 45] rfl
    have hDc := hD.sub (ws' := (wMo cI cZ cJ mo_a mo')) [30, 31, 32, 33, 34, 35, 36, 37, 38, 39, 40, 41, 42, 43, 44, 45] (by decide) rfl
    have hFc := va_free (wc := (wMo cI cZ cJ mo_a mo')) hD hS hA [30, 31, 32, 33, 34, 35, 36, 37, 38, 39, 40, 41, 42, 43, 44, 45] rfl
    refine va_calli (va_runV (As := []) (rest := []) ⟨hx, hb, hml, hown, hts⟩ (k_Model_thrown l dC dI cI cZ cJ mo_a H.size hth) (cwV 0 hts (gV t_906 t_907 t_908 t_63 t_909) rfl rfl rfl hd_Model_thrown ⟨Nat.le_trans (Nat.le_of_ble_eq_true rfl) hRf, Nat.le_trans (Nat.le_of_ble_eq_true rfl) hRl⟩) ⟨kP_blind, va_recv hK hP (ci := 7) (q0 := 30) rfl rfl, kP_at hPc hK hDc hN⟩ rfl rfl hl.1 rfl (lv_room (Nat.le_of_ble_eq_true rfl)) d_law_278 ⟨by omega, by omega⟩) hS (fun q _ h => hFc q h) hFc (fun r9 u t H1 locs ht hvm hw hB hz1 hk1 hS => ?_)
    rw [hw]
    obtain ⟨hP, hD⟩ := kQ_join (wr := (wSd cI cZ cJ sd_a w_a v_a (wr_a 0) (rd_a 0) (cu_a 0) (sp_a 0) sd ++ wSy cI cZ cJ cu_a cu ++ wSy cI cZ cJ sp_a sp ++ wBr cI cZ cJ w_a w_b w ++ wBr cI cZ cJ v_a v_b v ++ wWr cI cZ cJ wr_a (pb_a 0) wr ++ wRd cI cZ cJ rd_a (pb_a 0) rd ++ wPb cI cZ cJ pb_a w_a v_a pb ++ wOu cI cZ cJ ou_a ou)) (w1 := (wMo cI cZ cJ mo_a mo')) hP hD [30, 31, 32, 33, 34, 35, 36, 37, 38, 39, 40, 41, 42, 43, 44, 45] [0, 1, 2, 3, 4, 5, 6, 7, 8, 9, 10, 11, 12, 13, 14, 15, 16, 17, 18, 19, 20, 21, 22, 23, 24, 25, 26, 27, 28, 29, 46] rfl rfl (by decide) (by decide) ht hk1 hFc hB
    generalize H1 = H at hP hS ⊢
    have hP : va_P (dC, dI) vwCl (wSd cI cZ cJ sd_a w_a v_a (wr_a 0) (rd_a 0) (cu_a 0) (sp_a 0) sd ++ wSy cI cZ cJ cu_a cu ++ wSy cI cZ cJ sp_a sp ++ wBr cI cZ cJ w_a w_b w ++ wBr cI cZ cJ v_a v_b v ++ wWr cI cZ cJ wr_a (pb_a 0) wr ++ wRd cI cZ cJ rd_a (pb_a 0) rd ++ wPb cI cZ cJ pb_a w_a v_a pb ++ wMo cI cZ cJ mo_a mo' ++ wOu cI cZ cJ ou_a ou) H := hP.sub [0, 1, 2, 3, 4, 5, 6, 7, 8, 9, 10, 11, 12, 13, 14, 15, 16, 17, 18, 19, 20, 21, 22, 23, 24, 25, 26, 27, 28, 29, 31, 32, 33, 34, 35, 36, 37, 38, 39, 40, 41, 42, 43, 44, 45, 46, 30] rfl
    have hD : va_D A (wSd cI cZ cJ sd_a w_a v_a (wr_a 0) (rd_a 0) (cu_a 0) (sp_a 0) sd ++ wSy cI cZ cJ cu_a cu ++ wSy cI cZ cJ sp_a sp ++ wBr cI cZ cJ w_a w_b w ++ wBr cI cZ cJ v_a v_b v ++ wWr cI cZ cJ wr_a (pb_a 0) wr ++ wRd cI cZ cJ rd_a (pb_a 0) rd ++ wPb cI cZ cJ pb_a w_a v_a pb ++ wMo cI cZ cJ mo_a mo' ++ wOu cI cZ cJ ou_a ou) := hD.sub [0, 1, 2, 3, 4, 5, 6, 7, 8, 9, 10, 11, 12, 13, 14, 15, 16, 17, 18, 19, 20, 21, 22, 23, 24, 25, 26, 27, 28, 29, 31, 32, 33, 34, 35, 36, 37, 38, 39, 40, 41, 42, 43, 44, 45, 46, 30] (by decide) rfl
    refine lv_iload hx hb d_law_281 (lv_at hl 1 rfl) ?_
    refine lv_icmp_eq (tgt := 288) hx hb d_law_283 (by decide) (fun _ => ?_) (fun h9 => absurd hcode h9)
    refine lv_iload hx hb d_law_288 (lv_at hl 1 rfl) ?_
    refine lv_if_ne (tgt := 312) hx hb d_law_290 (by decide) (fun _ => ?_) (fun h9 => absurd h9 (by decide))
    refine lv_goto (tgt := 1131) hx hb d_law_312 (by decide) ?_
    have hl := lv_sub (l' := [(0, .ref b), (1, .ref (sd_a 0)), (2, .ref (mo_a 0)), (3, .ref (ou_a 0)), (4, .int i)]) hl [2, 3, 4, 5, 6] rfl
    refine W.widen (k := j + 1 + Br_byL w + Br_byL v) (n := 6 * (j + 1) + 2 * Br_byL w + 2 * Br_byL v) (by omega) (by omega) ?_
    exact hk _ _ _ cu_a sp_a w_b v_b cu sp w v wr rd pb mo' ou hrel hP hD hS hl

set_option maxHeartbeats 8000000 in
set_option maxRecDepth 100000 in
theorem L_P_row {p : Program} {l : Launch} {e : Env} {R : Room} {s : State} {m : MethodId} {args : Array Value} {below : List Frame} {meth : Method} {c : Code} {Q : State → Prop} {A : Nat → Prop} {dC : Nat → ClassId} {dI : Nat → Nat → Nat} {cI cZ cJ : ClassId} {sd_a cu_a sp_a : Nat → Nat} {w_a w_b v_a v_b : Nat} {wr_a rd_a pb_a mo_a ou_a : Nat → Nat} {sd : Sd} {cu sp : Sy} {w v : Br} {wr : Wr} {rd : Rd} {pb : Pb} {mo : Mo} {ou : Ou} {b L : Nat} {xs : Nat → Int32} {i : Int32} {j : Nat} {Rl : Sd → Sy → Sy → Br → Br → Wr → Rd → Pb → Mo → Prop} (hl9 : l.stackTraces = false) (C0 : lcx p c m s args R (dC, dI) (TYS cI cZ cJ) A b L xs i j) (hRb : ∀ sd cu sp w v wr rd pb mo, Rl sd cu sp w v wr rd pb mo → Br_byL w ≤ 40000 ∧ Br_byL v ≤ 40000) (hR0 : Rl sd cu sp w v wr rd pb mo) (hT0 : T_P_row Rl sd cu sp w v wr rd pb mo (xs (i + 1).toNatClampNeg) (xs (i + 2).toNatClampNeg) (xs (i + 3).toNatClampNeg))
    (hk : ∀ (H : Heap) (locs : List Loc) (ls : Array Slot) (cu_a sp_a : Nat → Nat) (w_b v_b : Nat) (cu sp : Sy) (w v : Br) (wr : Wr) (rd : Rd) (pb : Pb) (mo : Mo) (ou : Ou), Rl sd cu sp w v wr rd pb mo → va_P (dC, dI) vwCl (wSd cI cZ cJ sd_a w_a v_a (wr_a 0) (rd_a 0) (cu_a 0) (sp_a 0) sd ++ wSy cI cZ cJ cu_a cu ++ wSy cI cZ cJ sp_a sp ++ wBr cI cZ cJ w_a w_b w ++ wBr cI cZ cJ v_a v_b v ++ wWr cI cZ cJ wr_a (pb_a 0) wr ++ wRd cI cZ cJ rd_a (pb_a 0) rd ++ wPb cI cZ cJ pb_a w_a v_a pb ++ wMo cI cZ cJ mo_a mo ++ wOu cI cZ cJ ou_a ou) H → va_D A (wSd cI cZ cJ sd_a w_a v_a (wr_a 0) (rd_a 0) (cu_a 0) (sp_a 0) sd ++ wSy cI cZ cJ cu_a cu ++ wSy cI cZ cJ sp_a sp ++ wBr cI cZ cJ w_a w_b w ++ wBr cI cZ cJ v_a v_b v ++ wWr cI cZ cJ wr_a (pb_a 0) wr ++ wRd cI cZ cJ rd_a (pb_a 0) rd ++ wPb cI cZ cJ pb_a w_a v_a pb ++ wMo cI cZ cJ mo_a mo ++ wOu cI cZ cJ ou_a ou) → va_S A s.heap H locs → lv_has ls 7 [(0, .ref b), (1, .ref (sd_a 0)), (2, .ref (mo_a 0)), (3, .ref (ou_a 0)), (4, .int i)] → W p l e R s m args below meth c H locs (j + 1 + Br_byL w + Br_byL v) (6 * (j + 1) + 2 * Br_byL w + 2 * Br_byL v) Q (F0 m 1131 ls []))
    {H : Heap} {locs : List Loc} {ls : Array Slot} (hP : va_P (dC, dI) vwCl (wSd cI cZ cJ sd_a w_a v_a (wr_a 0) (rd_a 0) (cu_a 0) (sp_a 0) sd ++ wSy cI cZ cJ cu_a cu ++ wSy cI cZ cJ sp_a sp ++ wBr cI cZ cJ w_a w_b w ++ wBr cI cZ cJ v_a v_b v ++ wWr cI cZ cJ wr_a (pb_a 0) wr ++ wRd cI cZ cJ rd_a (pb_a 0) rd ++ wPb cI cZ cJ pb_a w_a v_a pb ++ wMo cI cZ cJ mo_a mo ++ wOu cI cZ cJ ou_a ou) H) (hD : va_D A (wSd cI cZ cJ sd_a w_a v_a (wr_a 0) (rd_a 0) (cu_a 0) (sp_a 0) sd ++ wSy cI cZ cJ cu_a cu ++ wSy cI cZ cJ sp_a sp ++ wBr cI cZ cJ w_a w_b w ++ wBr cI cZ cJ v_a v_b v ++ wWr cI cZ cJ wr_a (pb_a 0) wr ++ wRd cI cZ cJ rd_a (pb_a 0) rd ++ wPb cI cZ cJ pb_a w_a v_a pb ++ wMo cI cZ cJ mo_a mo ++ wOu cI cZ cJ ou_a ou)) (hS : va_S A s.heap H locs) (hl : lv_has ls 7 [(0, .ref b), (1, .ref (sd_a 0)), (2, .ref (mo_a 0)), (3, .ref (ou_a 0)), (4, .int i)]) : W p l e R s m args below meth c H locs (j + Br_byL w + Br_byL v) (6 * j + 2 * Br_byL w + 2 * Br_byL v) Q (F0 m 315 ls []) := by
  obtain ⟨hx, hb, hml, hown, hts, hK, hA, hA2, hRf, hRl, hN, hT, hX, hX0, hbl, hin, hj, hRc, hRs⟩ := C0
  have hbA : ¬ A b := fun h => absurd (hA2 b h) (Nat.not_le.mpr hbl)
  obtain ⟨hw0, hv0⟩ := hRb _ _ _ _ _ _ _ _ _ hR0
  unfold T_P_row at hT0
  rcases hT0 with ⟨r, cu', mo', hf, hg, hcode, hrel⟩ | ⟨hf, q, mo', hg, hcode, hrel⟩
  · obtain ⟨ou', heou⟩ : ∃ z : Ou, z = (vp_updL (Ou_f ou) 0 r.toInt64) := ⟨_, rfl⟩
    have hf1 : f_Law_row sd cu ou (xs (i + 1).toNatClampNeg) (xs (i + 2).toNatClampNeg) (xs (i + 3).toNatClampNeg) = some (0, cu', ou') := by
      rw [f_Law_row, hf, bd_s, heou]
      rfl
    have hou : Ou_f ou' (0 : Int32).toNatClampNeg = r.toInt64 := by rw [heou]; exact updL_at _ _ _
    refine lv_aload_n hx hb d_law_315 rfl (lv_at hl 1 rfl) ?_
    refine lv_aload_n hx hb d_law_316 rfl (lv_at hl 0 rfl) ?_
    refine lv_iload hx hb d_law_317 (lv_at hl 4 rfl) ?_
    refine lv_iconst (v := 1) hx hb d_law_319 (by decide) ?_
    refine lv_iadd hx hb d_law_320 ?_
    refine va_sld hx hb hX0 hbl hbA hS (hin 1 (by decide) (by decide)) d_law_321 ?_
    refine lv_aload_n hx hb d_law_322 rfl (lv_at hl 0 rfl) ?_
    refine lv_iload hx hb d_law_323 (lv_at hl 4 rfl) ?_
    refine lv_iconst (v := 2) hx hb d_law_325 (by decide) ?_
    refine lv_iadd hx hb d_law_326 ?_
    refine va_sld hx hb hX0 hbl hbA hS (hin 2 (by decide) (by decide)) d_law_327 ?_
    refine lv_aload_n hx hb d_law_328 rfl (lv_at hl 0 rfl) ?_
    refine lv_iload hx hb d_law_329 (lv_at hl 4 rfl) ?_
    refine lv_iconst (v := 3) hx hb d_law_331 (by decide) ?_
    refine lv_iadd hx hb d_law_332 ?_
    refine va_sld hx hb hX0 hbl hbA hS (hin 3 (by decide) (by decide)) d_law_333 ?_
    refine lv_aload_n hx hb d_law_334 rfl (lv_at hl 3 rfl) ?_
    have hPc := hP.sub (ws' := (wSd cI cZ cJ sd_a w_a v_a (wr_a 0) (rd_a 0) (cu_a 0) (sp_a 0) sd ++ wSy cI cZ cJ cu_a cu ++ wOu cI cZ cJ ou_a ou)) [0, 1, 2, 3, 4, 5, 6, 7, 8, 9, 10, 46] rfl
    have hDc := hD.sub (ws' := (wSd cI cZ cJ sd_a w_a v_a (wr_a 0) (rd_a 0) (cu_a 0) (sp_a 0) sd ++ wSy cI cZ cJ cu_a cu ++ wOu cI cZ cJ ou_a ou)) [0, 1, 2, 3, 4, 5, 6, 7, 8, 9, 10, 46] (by decide) rfl
    have hFc := va_free (wc := (wSd cI cZ cJ sd_a w_a v_a (wr_a 0) (rd_a 0) (cu_a 0) (sp_a 0) sd ++ wSy cI cZ cJ cu_a cu ++ wOu cI cZ cJ ou_a ou)) hD hS hA [0, 1, 2, 3, 4, 5, 6, 7, 8, 9, 10, 46] rfl
    refine va_calli (w_runS (As := [.ref (sd_a 0), .int (xs (i + 1).toNatClampNeg), .int (xs (i + 2).toNatClampNeg), .int (xs (i + 3).toNatClampNeg), .ref (ou_a 0)]) (rest := []) ⟨hx, hb, hml, hown, hts⟩ (k_Law_row l dC dI cI cZ cJ sd_a cu_a ou_a w_a v_a (wr_a 0) (rd_a 0) (sp_a 0) H.size hf1) (cwH_of 5 hts t_692 rfl rfl t_53 t_690 t_691 hd_Law_row.2 ⟨Nat.le_trans (Nat.le_of_ble_eq_true rfl) hRf, Nat.le_trans (Nat.le_of_ble_eq_true rfl) hRl⟩) ⟨kP_blind, kP_at hPc hK hDc hN⟩ rfl rfl hl.1 rfl (lv_room (Nat.le_of_ble_eq_true rfl)) d_law_335 ⟨by omega, by omega⟩) hS (fun q _ h => hFc q h) hFc (fun r9 u t H1 locs ht hvm hw hB hz1 hk1 hS => ?_)
    rw [hw]
    obtain ⟨hP, hD⟩ := kQ_join (wr := (wSy cI cZ cJ sp_a sp ++ wBr cI cZ cJ w_a w_b w ++ wBr cI cZ cJ v_a v_b v ++ wWr cI cZ cJ wr_a (pb_a 0) wr ++ wRd cI cZ cJ rd_a (pb_a 0) rd ++ wPb cI cZ cJ pb_a w_a v_a pb ++ wMo cI cZ cJ mo_a mo)) (w1 := (wSd cI cZ cJ sd_a w_a v_a (wr_a 0) (rd_a 0) (cu_a 0) (sp_a 0) sd ++ wSy cI cZ cJ cu_a cu' ++ wOu cI cZ cJ ou_a ou')) hP hD [0, 1, 2, 3, 4, 5, 6, 7, 8, 9, 10, 46] [11, 12, 13, 14, 15, 16, 17, 18, 19, 20, 21, 22, 23, 24, 25, 26, 27, 28, 29, 30, 31, 32, 33, 34, 35, 36, 37, 38, 39, 40, 41, 42, 43, 44, 45] rfl rfl (by decide) (by decide) ht hk1 hFc hB
    generalize H1 = H at hP hS ⊢
    have hP : va_P (dC, dI) vwCl (wSd cI cZ cJ sd_a w_a v_a (wr_a 0) (rd_a 0) (cu_a 0) (sp_a 0) sd ++ wSy cI cZ cJ cu_a cu' ++ wSy cI cZ cJ sp_a sp ++ wBr cI cZ cJ w_a w_b w ++ wBr cI cZ cJ v_a v_b v ++ wWr cI cZ cJ wr_a (pb_a 0) wr ++ wRd cI cZ cJ rd_a (pb_a 0) rd ++ wPb cI cZ cJ pb_a w_a v_a pb ++ wMo cI cZ cJ mo_a mo ++ wOu cI cZ cJ ou_a ou') H := hP.sub [35, 36, 37, 38, 39, 40, 41, 42, 43, 44, 45, 0, 1, 2, 3, 4, 5, 6, 7, 8, 9, 10, 11, 12, 13, 14, 15, 16, 17, 18, 19, 20, 21, 22, 23, 24, 25, 26, 27, 28, 29, 30, 31, 32, 33, 34, 46] rfl
    have hD : va_D A (wSd cI cZ cJ sd_a w_a v_a (wr_a 0) (rd_a 0) (cu_a 0) (sp_a 0) sd ++ wSy cI cZ cJ cu_a cu' ++ wSy cI cZ cJ sp_a sp ++ wBr cI cZ cJ w_a w_b w ++ wBr cI cZ cJ v_a v_b v ++ wWr cI cZ cJ wr_a (pb_a 0) wr ++ wRd cI cZ cJ rd_a (pb_a 0) rd ++ wPb cI cZ cJ pb_a w_a v_a pb ++ wMo cI cZ cJ mo_a mo ++ wOu cI cZ cJ ou_a ou') := hD.sub [35, 36, 37, 38, 39, 40, 41, 42, 43, 44, 45, 0, 1, 2, 3, 4, 5, 6, 7, 8, 9, 10, 11, 12, 13, 14, 15, 16, 17, 18, 19, 20, 21, 22, 23, 24, 25, 26, 27, 28, 29, 30, 31, 32, 33, 34, 46] (by decide) rfl
    refine lv_istore (lv' := [(5, .int 0), (0, .ref b), (1, .ref (sd_a 0)), (2, .ref (mo_a 0)), (3, .ref (ou_a 0)), (4, .int i)]) hx hb d_law_338 hl (by decide) rfl (fun ls hl => ?_)
    refine lv_aload_n hx hb d_law_340 rfl (lv_at hl 3 rfl) ?_
    refine lv_aload_n hx hb d_law_341 rfl (lv_at hl 1 rfl) ?_
    refine lv_iload hx hb d_law_342 (lv_at hl 5 rfl) ?_
    refine lv_iconst (v := 1) hx hb d_law_344 (by decide) ?_
    refine lv_iadd hx hb d_law_345 ?_
    refine va_sld hx hb hX0 hbl hbA hS (hin 1 (by decide) (by decide)) d_law_346 ?_
    refine lv_aload_n hx hb d_law_347 rfl (lv_at hl 1 rfl) ?_
    refine lv_iload hx hb d_law_348 (lv_at hl 5 rfl) ?_
    refine lv_iconst (v := 2) hx hb d_law_350 (by decide) ?_
    refine lv_iadd hx hb d_law_351 ?_
    refine va_sld hx hb hX0 hbl hbA hS (hin 2 (by decide) (by decide)) d_law_352 ?_
    refine lv_aload_n hx hb d_law_353 rfl (lv_at hl 1 rfl) ?_
    refine lv_iload hx hb d_law_354 (lv_at hl 5 rfl) ?_
    refine lv_iconst (v := 3) hx hb d_law_356 (by decide) ?_
    refine lv_iadd hx hb d_law_357 ?_
    refine va_sld hx hb hX0 hbl hbA hS (hin 3 (by decide) (by decide)) d_law_358 ?_
    have hPc := hP.sub (ws' := (wMo cI cZ cJ mo_a mo)) [30, 31, 32, 33, 34, 35, 36, 37, 38, 39, 40, 41, 42, 43, 44, 45] rfl
    have hDc := hD.sub (ws' := (wMo cI cZ cJ mo_a mo)) [30, 31, 32, 33, 34, 35, 36, 37, 38, 39, 40, 41, 42, 43, 44, 45] (by decide) rfl
    have hFc := va_free (wc := (wMo cI cZ cJ mo_a mo)) hD hS hA [30, 31, 32, 33, 34, 35, 36, 37, 38, 39, 40, 41, 42, 43, 44, 45] rfl
    refine va_calli (va_runV (As := [.int (xs (i + 1).toNatClampNeg), .int (xs (i + 2).toNatClampNeg), .int (xs (i + 3).toNatClampNeg)]) (rest := []) ⟨hx, hb, hml, hown, hts⟩ (k_Model_row l dC dI cI cZ cJ mo_a H.size hg) (cwV 3 hts (gV t_934 t_935 t_936 t_63 t_937) rfl rfl rfl hd_Model_row ⟨Nat.le_trans (Nat.le_of_ble_eq_true rfl) hRf, Nat.le_trans (Nat.le_of_ble_eq_true rfl) hRl⟩) ⟨kP_blind, va_recv hK hP (ci := 7) (q0 := 30) rfl rfl, kP_at hPc hK hDc hN⟩ rfl rfl hl.1 rfl (lv_room (Nat.le_of_ble_eq_true rfl)) d_law_359 ⟨by omega, by omega⟩) hS (fun q _ h => hFc q h) hFc (fun r9 u t H1 locs ht hvm hw hB hz1 hk1 hS => ?_)
    rw [hw]
    obtain ⟨hP, hD⟩ := kQ_join (wr := (wSd cI cZ cJ sd_a w_a v_a (wr_a 0) (rd_a 0) (cu_a 0) (sp_a 0) sd ++ wSy cI cZ cJ cu_a cu' ++ wSy cI cZ cJ sp_a sp ++ wBr cI cZ cJ w_a w_b w ++ wBr cI cZ cJ v_a v_b v ++ wWr cI cZ cJ wr_a (pb_a 0) wr ++ wRd cI cZ cJ rd_a (pb_a 0) rd ++ wPb cI cZ cJ pb_a w_a v_a pb ++ wOu cI cZ cJ ou_a ou')) (w1 := (wMo cI cZ cJ mo_a mo')) hP hD [30, 31, 32, 33, 34, 35, 36, 37, 38, 39, 40, 41, 42, 43, 44, 45] [0, 1, 2, 3, 4, 5, 6, 7, 8, 9, 10, 11, 12, 13, 14, 15, 16, 17, 18, 19, 20, 21, 22, 23, 24, 25, 26, 27, 28, 29, 46] rfl rfl (by decide) (by decide) ht hk1 hFc hB
    generalize H1 = H at hP hS ⊢
    have hP : va_P (dC, dI) vwCl (wSd cI cZ cJ sd_a w_a v_a (wr_a 0) (rd_a 0) (cu_a 0) (sp_a 0) sd ++ wSy cI cZ cJ cu_a cu' ++ wSy cI cZ cJ sp_a sp ++ wBr cI cZ cJ w_a w_b w ++ wBr cI cZ cJ v_a v_b v ++ wWr cI cZ cJ wr_a (pb_a 0) wr ++ wRd cI cZ cJ rd_a (pb_a 0) rd ++ wPb cI cZ cJ pb_a w_a v_a pb ++ wMo cI cZ cJ mo_a mo' ++ wOu cI cZ cJ ou_a ou') H := hP.sub [0, 1, 2, 3, 4, 5, 6, 7, 8, 9, 10, 11, 12, 13, 14, 15, 16, 17, 18, 19, 20, 21, 22, 23, 24, 25, 26, 27, 28, 29, 31, 32, 33, 34, 35, 36, 37, 38, 39, 40, 41, 42, 43, 44, 45, 46, 30] rfl
    have hD : va_D A (wSd cI cZ cJ sd_a w_a v_a (wr_a 0) (rd_a 0) (cu_a 0) (sp_a 0) sd ++ wSy cI cZ cJ cu_a cu' ++ wSy cI cZ cJ sp_a sp ++ wBr cI cZ cJ w_a w_b w ++ wBr cI cZ cJ v_a v_b v ++ wWr cI cZ cJ wr_a (pb_a 0) wr ++ wRd cI cZ cJ rd_a (pb_a 0) rd ++ wPb cI cZ cJ pb_a w_a v_a pb ++ wMo cI cZ cJ mo_a mo' ++ wOu cI cZ cJ ou_a ou') := hD.sub [0, 1, 2, 3, 4, 5, 6, 7, 8, 9, 10, 11, 12, 13, 14, 15, 16, 17, 18, 19, 20, 21, 22, 23, 24, 25, 26, 27, 28, 29, 31, 32, 33, 34, 35, 36, 37, 38, 39, 40, 41, 42, 43, 44, 45, 46, 30] (by decide) rfl
    refine lv_istore (lv' := [(6, .int r), (5, .int 0), (0, .ref b), (1, .ref (sd_a 0)), (2, .ref (mo_a 0)), (3, .ref (ou_a 0)), (4, .int i)]) hx hb d_law_362 hl (by decide) rfl (fun ls hl => ?_)
    refine lv_aload_n hx hb d_law_364 rfl (lv_at hl 4 rfl) ?_
    have hth : f_Model_thrown mo' = some (Mo_code mo') := rfl
    have hPc := hP.sub (ws' := (wMo cI cZ cJ mo_a mo')) [30, 31, 32, 33, 34, 35, 36, 37, 38, 39, 40, 41, 42, 43, 44, 45] rfl
    have hDc := hD.sub (ws' := (wMo cI cZ cJ mo_a mo')) [30, 31, 32, 33, 34, 35, 36, 37, 38, 39, 40, 41, 42, 43, 44, 45] (by decide) rfl
    have hFc := va_free (wc := (wMo cI cZ cJ mo_a mo')) hD hS hA [30, 31, 32, 33, 34, 35, 36, 37, 38, 39, 40, 41, 42, 43, 44, 45] rfl
    refine va_calli (va_runV (As := []) (rest := []) ⟨hx, hb, hml, hown, hts⟩ (k_Model_thrown l dC dI cI cZ cJ mo_a H.size hth) (cwV 0 hts (gV t_906 t_907 t_908 t_63 t_909) rfl rfl rfl hd_Model_thrown ⟨Nat.le_trans (Nat.le_of_ble_eq_true rfl) hRf, Nat.le_trans (Nat.le_of_ble_eq_true rfl) hRl⟩) ⟨kP_blind, va_recv hK hP (ci := 7) (q0 := 30) rfl rfl, kP_at hPc hK hDc hN⟩ rfl rfl hl.1 rfl (lv_room (Nat.le_of_ble_eq_true rfl)) d_law_365 ⟨by omega, by omega⟩) hS (fun q _ h => hFc q h) hFc (fun r9 u t H1 locs ht hvm hw hB hz1 hk1 hS => ?_)
    rw [hw]
    obtain ⟨hP, hD⟩ := kQ_join (wr := (wSd cI cZ cJ sd_a w_a v_a (wr_a 0) (rd_a 0) (cu_a 0) (sp_a 0) sd ++ wSy cI cZ cJ cu_a cu' ++ wSy cI cZ cJ sp_a sp ++ wBr cI cZ cJ w_a w_b w ++ wBr cI cZ cJ v_a v_b v ++ wWr cI cZ cJ wr_a (pb_a 0) wr ++ wRd cI cZ cJ rd_a (pb_a 0) rd ++ wPb cI cZ cJ pb_a w_a v_a pb ++ wOu cI cZ cJ ou_a ou')) (w1 := (wMo cI cZ cJ mo_a mo')) hP hD [30, 31, 32, 33, 34, 35, 36, 37, 38, 39, 40, 41, 42, 43, 44, 45] [0, 1, 2, 3, 4, 5, 6, 7, 8, 9, 10, 11, 12, 13, 14, 15, 16, 17, 18, 19, 20, 21, 22, 23, 24, 25, 26, 27, 28, 29, 46] rfl rfl (by decide) (by decide) ht hk1 hFc hB
    generalize H1 = H at hP hS ⊢
    have hP : va_P (dC, dI) vwCl (wSd cI cZ cJ sd_a w_a v_a (wr_a 0) (rd_a 0) (cu_a 0) (sp_a 0) sd ++ wSy cI cZ cJ cu_a cu' ++ wSy cI cZ cJ sp_a sp ++ wBr cI cZ cJ w_a w_b w ++ wBr cI cZ cJ v_a v_b v ++ wWr cI cZ cJ wr_a (pb_a 0) wr ++ wRd cI cZ cJ rd_a (pb_a 0) rd ++ wPb cI cZ cJ pb_a w_a v_a pb ++ wMo cI cZ cJ mo_a mo' ++ wOu cI cZ cJ ou_a ou') H := hP.sub [0, 1, 2, 3, 4, 5, 6, 7, 8, 9, 10, 11, 12, 13, 14, 15, 16, 17, 18, 19, 20, 21, 22, 23, 24, 25, 26, 27, 28, 29, 31, 32, 33, 34, 35, 36, 37, 38, 39, 40, 41, 42, 43, 44, 45, 46, 30] rfl
    have hD : va_D A (wSd cI cZ cJ sd_a w_a v_a (wr_a 0) (rd_a 0) (cu_a 0) (sp_a 0) sd ++ wSy cI cZ cJ cu_a cu' ++ wSy cI cZ cJ sp_a sp ++ wBr cI cZ cJ w_a w_b w ++ wBr cI cZ cJ v_a v_b v ++ wWr cI cZ cJ wr_a (pb_a 0) wr ++ wRd cI cZ cJ rd_a (pb_a 0) rd ++ wPb cI cZ cJ pb_a w_a v_a pb ++ wMo cI cZ cJ mo_a mo' ++ wOu cI cZ cJ ou_a ou') := hD.sub [0, 1, 2, 3, 4, 5, 6, 7, 8, 9, 10, 11, 12, 13, 14, 15, 16, 17, 18, 19, 20, 21, 22, 23, 24, 25, 26, 27, 28, 29, 31, 32, 33, 34, 35, 36, 37, 38, 39, 40, 41, 42, 43, 44, 45, 46, 30] (by decide) rfl
    refine lv_iload hx hb d_law_368 (lv_at hl 1 rfl) ?_
    refine lv_icmp_eq (tgt := 375) hx hb d_law_370 (by decide) (fun _ => ?_) (fun h9 => absurd hcode h9)
    refine lv_iload hx hb d_law_375 (lv_at hl 1 rfl) ?_
    refine lv_if_ne (tgt := 392) hx hb d_law_377 (by decide) (fun h9 => absurd rfl h9) (fun _ => ?_)
    refine lv_aload_n hx hb d_law_380 rfl (lv_at hl 5 rfl) ?_
    refine lv_iconst (v := 0) hx hb d_law_381 (by decide) ?_
    refine va_lald (f := Ou_f ou') hx hb hK hP 46 2 rfl rfl (inb_in (by decide)) d_law_382 ?_
    refine lv_iload hx hb d_law_383 (lv_at hl 0 rfl) ?_
    refine lv_i2l (v := r.toInt64) hx hb d_law_385 rfl ?_
    refine W.lcmp hx hb d_law_386 ?_
    refine lv_if_eq (tgt := 392) hx hb d_law_387 (by decide) (fun _ => ?_) (fun h9 => absurd (by rw [hou]; exact cmp_self _) h9)
    refine lv_goto (tgt := 1131) hx hb d_law_392 (by decide) ?_
    have hl := lv_sub (l' := [(0, .ref b), (1, .ref (sd_a 0)), (2, .ref (mo_a 0)), (3, .ref (ou_a 0)), (4, .int i)]) hl [2, 3, 4, 5, 6] rfl
    refine W.widen (k := j + 1 + Br_byL w + Br_byL v) (n := 6 * (j + 1) + 2 * Br_byL w + 2 * Br_byL v) (by omega) (by omega) ?_
    exact hk _ _ _ cu_a sp_a w_b v_b cu' sp w v wr rd pb mo' ou' hrel hP hD hS hl
  · refine lv_aload_n hx hb d_law_315 rfl (lv_at hl 1 rfl) ?_
    refine lv_aload_n hx hb d_law_316 rfl (lv_at hl 0 rfl) ?_
    refine lv_iload hx hb d_law_317 (lv_at hl 4 rfl) ?_
    refine lv_iconst (v := 1) hx hb d_law_319 (by decide) ?_
    refine lv_iadd hx hb d_law_320 ?_
    refine va_sld hx hb hX0 hbl hbA hS (hin 1 (by decide) (by decide)) d_law_321 ?_
    refine lv_aload_n hx hb d_law_322 rfl (lv_at hl 0 rfl) ?_
    refine lv_iload hx hb d_law_323 (lv_at hl 4 rfl) ?_
    refine lv_iconst (v := 2) hx hb d_law_325 (by decide) ?_
    refine lv_iadd hx hb d_law_326 ?_
    refine va_sld hx hb hX0 hbl hbA hS (hin 2 (by decide) (by decide)) d_law_327 ?_
    refine lv_aload_n hx hb d_law_328 rfl (lv_at hl 0 rfl) ?_
    refine lv_iload hx hb d_law_329 (lv_at hl 4 rfl) ?_
    refine lv_iconst (v := 3) hx hb d_law_331 (by decide) ?_
    refine lv_iadd hx hb d_law_332 ?_
    refine va_sld hx hb hX0 hbl hbA hS (hin 3 (by decide) (by decide)) d_law_333 ?_
    refine lv_aload_n hx hb d_law_334 rfl (lv_at hl 3 rfl) ?_
    have hPc := hP.sub (ws' := (wSd cI cZ cJ sd_a w_a v_a (wr_a 0) (rd_a 0) (cu_a 0) (sp_a 0) sd ++ wSy cI cZ cJ cu_a cu ++ wOu cI cZ cJ ou_a ou)) [0, 1, 2, 3, 4, 5, 6, 7, 8, 9, 10, 46] rfl
    have hDc := hD.sub (ws' := (wSd cI cZ cJ sd_a w_a v_a (wr_a 0) (rd_a 0) (cu_a 0) (sp_a 0) sd ++ wSy cI cZ cJ cu_a cu ++ wOu cI cZ cJ ou_a ou)) [0, 1, 2, 3, 4, 5, 6, 7, 8, 9, 10, 46] (by decide) rfl
    have hFc := va_free (wc := (wSd cI cZ cJ sd_a w_a v_a (wr_a 0) (rd_a 0) (cu_a 0) (sp_a 0) sd ++ wSy cI cZ cJ cu_a cu ++ wOu cI cZ cJ ou_a ou)) hD hS hA [0, 1, 2, 3, 4, 5, 6, 7, 8, 9, 10, 46] rfl
    refine va_calli (w_runS (As := [.ref (sd_a 0), .int (xs (i + 1).toNatClampNeg), .int (xs (i + 2).toNatClampNeg), .int (xs (i + 3).toNatClampNeg), .ref (ou_a 0)]) (rest := []) ⟨hx, hb, hml, hown, hts⟩ (kx_Law_row_3 l hl9 dC dI cI cZ cJ sd_a cu_a ou_a w_a v_a (wr_a 0) (rd_a 0) (sp_a 0) H.size hf) (cwH_of 5 hts t_692 rfl rfl t_53 t_690 t_691 hd_Law_row.2 ⟨Nat.le_trans (Nat.le_of_ble_eq_true rfl) hRf, Nat.le_trans (Nat.le_of_ble_eq_true rfl) hRl⟩) ⟨kPX_blind, kPX_at hPc hK hDc hN (fun q hq => hS.2.1 q hq (fun h9 => absurd (hA2 q h9) (Nat.not_le.mpr hq))) hT hX⟩ rfl rfl hl.1 rfl (lv_room (Nat.le_of_ble_eq_true rfl)) d_law_335 ⟨by omega, by omega⟩) hS (fun q _ h => hFc q h) hFc (fun r9 u t H1 locs ht hvm hw hB hz1 hk1 hS => ?_)
    rw [hw]
    obtain ⟨hP, hD⟩ := kQ_join (wr := (wSy cI cZ cJ sp_a sp ++ wBr cI cZ cJ w_a w_b w ++ wBr cI cZ cJ v_a v_b v ++ wWr cI cZ cJ wr_a (pb_a 0) wr ++ wRd cI cZ cJ rd_a (pb_a 0) rd ++ wPb cI cZ cJ pb_a w_a v_a pb ++ wMo cI cZ cJ mo_a mo)) (w1 := (wSd cI cZ cJ sd_a w_a v_a (wr_a 0) (rd_a 0) (cu_a 0) (sp_a 0) sd ++ wSy cI cZ cJ cu_a cu ++ wOu cI cZ cJ ou_a ou)) hP hD [0, 1, 2, 3, 4, 5, 6, 7, 8, 9, 10, 46] [11, 12, 13, 14, 15, 16, 17, 18, 19, 20, 21, 22, 23, 24, 25, 26, 27, 28, 29, 30, 31, 32, 33, 34, 35, 36, 37, 38, 39, 40, 41, 42, 43, 44, 45] rfl rfl (by decide) (by decide) ht hk1 hFc hB
    generalize H1 = H at hP hS ⊢
    have hP : va_P (dC, dI) vwCl (wSd cI cZ cJ sd_a w_a v_a (wr_a 0) (rd_a 0) (cu_a 0) (sp_a 0) sd ++ wSy cI cZ cJ cu_a cu ++ wSy cI cZ cJ sp_a sp ++ wBr cI cZ cJ w_a w_b w ++ wBr cI cZ cJ v_a v_b v ++ wWr cI cZ cJ wr_a (pb_a 0) wr ++ wRd cI cZ cJ rd_a (pb_a 0) rd ++ wPb cI cZ cJ pb_a w_a v_a pb ++ wMo cI cZ cJ mo_a mo ++ wOu cI cZ cJ ou_a ou) H := hP.sub [35, 36, 37, 38, 39, 40, 41, 42, 43, 44, 45, 0, 1, 2, 3, 4, 5, 6, 7, 8, 9, 10, 11, 12, 13, 14, 15, 16, 17, 18, 19, 20, 21, 22, 23, 24, 25, 26, 27, 28, 29, 30, 31, 32, 33, 34, 46] rfl
    have hD : va_D A (wSd cI cZ cJ sd_a w_a v_a (wr_a 0) (rd_a 0) (cu_a 0) (sp_a 0) sd ++ wSy cI cZ cJ cu_a cu ++ wSy cI cZ cJ sp_a sp ++ wBr cI cZ cJ w_a w_b w ++ wBr cI cZ cJ v_a v_b v ++ wWr cI cZ cJ wr_a (pb_a 0) wr ++ wRd cI cZ cJ rd_a (pb_a 0) rd ++ wPb cI cZ cJ pb_a w_a v_a pb ++ wMo cI cZ cJ mo_a mo ++ wOu cI cZ cJ ou_a ou) := hD.sub [35, 36, 37, 38, 39, 40, 41, 42, 43, 44, 45, 0, 1, 2, 3, 4, 5, 6, 7, 8, 9, 10, 11, 12, 13, 14, 15, 16, 17, 18, 19, 20, 21, 22, 23, 24, 25, 26, 27, 28, 29, 30, 31, 32, 33, 34, 46] (by decide) rfl
    refine lv_istore (lv' := [(5, .int 1), (0, .ref b), (1, .ref (sd_a 0)), (2, .ref (mo_a 0)), (3, .ref (ou_a 0)), (4, .int i)]) hx hb d_law_338 hl (by decide) rfl (fun ls hl => ?_)
    refine lv_aload_n hx hb d_law_340 rfl (lv_at hl 3 rfl) ?_
    refine lv_aload_n hx hb d_law_341 rfl (lv_at hl 1 rfl) ?_
    refine lv_iload hx hb d_law_342 (lv_at hl 5 rfl) ?_
    refine lv_iconst (v := 1) hx hb d_law_344 (by decide) ?_
    refine lv_iadd hx hb d_law_345 ?_
    refine va_sld hx hb hX0 hbl hbA hS (hin 1 (by decide) (by decide)) d_law_346 ?_
    refine lv_aload_n hx hb d_law_347 rfl (lv_at hl 1 rfl) ?_
    refine lv_iload hx hb d_law_348 (lv_at hl 5 rfl) ?_
    refine lv_iconst (v := 2) hx hb d_law_350 (by decide) ?_
    refine lv_iadd hx hb d_law_351 ?_
    refine va_sld hx hb hX0 hbl hbA hS (hin 2 (by decide) (by decide)) d_law_352 ?_
    refine lv_aload_n hx hb d_law_353 rfl (lv_at hl 1 rfl) ?_
    refine lv_iload hx hb d_law_354 (lv_at hl 5 rfl) ?_
    refine lv_iconst (v := 3) hx hb d_law_356 (by decide) ?_
    refine lv_iadd hx hb d_law_357 ?_
    refine va_sld hx hb hX0 hbl hbA hS (hin 3 (by decide) (by decide)) d_law_358 ?_
    have hPc := hP.sub (ws' := (wMo cI cZ cJ mo_a mo)) [30, 31, 32, 33, 34, 35, 36, 37, 38, 39, 40, 41, 42, 43, 44, 45] rfl
    have hDc := hD.sub (ws' := (wMo cI cZ cJ mo_a mo)) [30, 31, 32, 33, 34, 35, 36, 37, 38, 39, 40, 41, 42, 43, 44, 45] (by decide) rfl
    have hFc := va_free (wc := (wMo cI cZ cJ mo_a mo)) hD hS hA [30, 31, 32, 33, 34, 35, 36, 37, 38, 39, 40, 41, 42, 43, 44, 45] rfl
    refine va_calli (va_runV (As := [.int (xs (i + 1).toNatClampNeg), .int (xs (i + 2).toNatClampNeg), .int (xs (i + 3).toNatClampNeg)]) (rest := []) ⟨hx, hb, hml, hown, hts⟩ (k_Model_row l dC dI cI cZ cJ mo_a H.size hg) (cwV 3 hts (gV t_934 t_935 t_936 t_63 t_937) rfl rfl rfl hd_Model_row ⟨Nat.le_trans (Nat.le_of_ble_eq_true rfl) hRf, Nat.le_trans (Nat.le_of_ble_eq_true rfl) hRl⟩) ⟨kP_blind, va_recv hK hP (ci := 7) (q0 := 30) rfl rfl, kP_at hPc hK hDc hN⟩ rfl rfl hl.1 rfl (lv_room (Nat.le_of_ble_eq_true rfl)) d_law_359 ⟨by omega, by omega⟩) hS (fun q _ h => hFc q h) hFc (fun r9 u t H1 locs ht hvm hw hB hz1 hk1 hS => ?_)
    rw [hw]
    obtain ⟨hP, hD⟩ := kQ_join (wr := (wSd cI cZ cJ sd_a w_a v_a (wr_a 0) (rd_a 0) (cu_a 0) (sp_a 0) sd ++ wSy cI cZ cJ cu_a cu ++ wSy cI cZ cJ sp_a sp ++ wBr cI cZ cJ w_a w_b w ++ wBr cI cZ cJ v_a v_b v ++ wWr cI cZ cJ wr_a (pb_a 0) wr ++ wRd cI cZ cJ rd_a (pb_a 0) rd ++ wPb cI cZ cJ pb_a w_a v_a pb ++ wOu cI cZ cJ ou_a ou)) (w1 := (wMo cI cZ cJ mo_a mo')) hP hD [30, 31, 32, 33, 34, 35, 36, 37, 38, 39, 40, 41, 42, 43, 44, 45] [0, 1, 2, 3, 4, 5, 6, 7, 8, 9, 10, 11, 12, 13, 14, 15, 16, 17, 18, 19, 20, 21, 22, 23, 24, 25, 26, 27, 28, 29, 46] rfl rfl (by decide) (by decide) ht hk1 hFc hB
    generalize H1 = H at hP hS ⊢
    have hP : va_P (dC, dI) vwCl (wSd cI cZ cJ sd_a w_a v_a (wr_a 0) (rd_a 0) (cu_a 0) (sp_a 0) sd ++ wSy cI cZ cJ cu_a cu ++ wSy cI cZ cJ sp_a sp ++ wBr cI cZ cJ w_a w_b w ++ wBr cI cZ cJ v_a v_b v ++ wWr cI cZ cJ wr_a (pb_a 0) wr ++ wRd cI cZ cJ rd_a (pb_a 0) rd ++ wPb cI cZ cJ pb_a w_a v_a pb ++ wMo cI cZ cJ mo_a mo' ++ wOu cI cZ cJ ou_a ou) H := hP.sub [0, 1, 2, 3, 4, 5, 6, 7, 8, 9, 10, 11, 12, 13, 14, 15, 16, 17, 18, 19, 20, 21, 22, 23, 24, 25, 26, 27, 28, 29, 31, 32, 33, 34, 35, 36, 37, 38, 39, 40, 41, 42, 43, 44, 45, 46, 30] rfl
    have hD : va_D A (wSd cI cZ cJ sd_a w_a v_a (wr_a 0) (rd_a 0) (cu_a 0) (sp_a 0) sd ++ wSy cI cZ cJ cu_a cu ++ wSy cI cZ cJ sp_a sp ++ wBr cI cZ cJ w_a w_b w ++ wBr cI cZ cJ v_a v_b v ++ wWr cI cZ cJ wr_a (pb_a 0) wr ++ wRd cI cZ cJ rd_a (pb_a 0) rd ++ wPb cI cZ cJ pb_a w_a v_a pb ++ wMo cI cZ cJ mo_a mo' ++ wOu cI cZ cJ ou_a ou) := hD.sub [0, 1, 2, 3, 4, 5, 6, 7, 8, 9, 10, 11, 12, 13, 14, 15, 16, 17, 18, 19, 20, 21, 22, 23, 24, 25, 26, 27, 28, 29, 31, 32, 33, 34, 35, 36, 37, 38, 39, 40, 41, 42, 43, 44, 45, 46, 30] (by decide) rfl
    refine lv_istore (lv' := [(6, .int q), (5, .int 1), (0, .ref b), (1, .ref (sd_a 0)), (2, .ref (mo_a 0)), (3, .ref (ou_a 0)), (4, .int i)]) hx hb d_law_362 hl (by decide) rfl (fun ls hl => ?_)
    refine lv_aload_n hx hb d_law_364 rfl (lv_at hl 4 rfl) ?_
    have hth : f_Model_thrown mo' = some (Mo_code mo') := rfl
    have hPc := hP.sub (ws' := (wMo cI cZ cJ mo_a mo')) [30, 31, 32, 33, 34, 35, 36, 37, 38, 39, 40, 41, 42, 43, 44, 45] rfl
    have hDc := hD.sub (ws' := (wMo cI cZ cJ mo_a mo')) [30, 31, 32, 33, 34, 35, 36, 37, 38, 39, 40, 41, 42, 43, 44, 45] (by decide) rfl
    have hFc := va_free (wc := (wMo cI cZ cJ mo_a mo')) hD hS hA [30, 31, 32, 33, 34, 35, 36, 37, 38, 39, 40, 41, 42, 43, 44, 45] rfl
    refine va_calli (va_runV (As := []) (rest := []) ⟨hx, hb, hml, hown, hts⟩ (k_Model_thrown l dC dI cI cZ cJ mo_a H.size hth) (cwV 0 hts (gV t_906 t_907 t_908 t_63 t_909) rfl rfl rfl hd_Model_thrown ⟨Nat.le_trans (Nat.le_of_ble_eq_true rfl) hRf, Nat.le_trans (Nat.le_of_ble_eq_true rfl) hRl⟩) ⟨kP_blind, va_recv hK hP (ci := 7) (q0 := 30) rfl rfl, kP_at hPc hK hDc hN⟩ rfl rfl hl.1 rfl (lv_room (Nat.le_of_ble_eq_true rfl)) d_law_365 ⟨by omega, by omega⟩) hS (fun q _ h => hFc q h) hFc (fun r9 u t H1 locs ht hvm hw hB hz1 hk1 hS => ?_)
    rw [hw]
    obtain ⟨hP, hD⟩ := kQ_join (wr := (wSd cI cZ cJ sd_a w_a v_a (wr_a 0) (rd_a 0) (cu_a 0) (sp_a 0) sd ++ wSy cI cZ cJ cu_a cu ++ wSy cI cZ cJ sp_a sp ++ wBr cI cZ cJ w_a w_b w ++ wBr cI cZ cJ v_a v_b v ++ wWr cI cZ cJ wr_a (pb_a 0) wr ++ wRd cI cZ cJ rd_a (pb_a 0) rd ++ wPb cI cZ cJ pb_a w_a v_a pb ++ wOu cI cZ cJ ou_a ou)) (w1 := (wMo cI cZ cJ mo_a mo')) hP hD [30, 31, 32, 33, 34, 35, 36, 37, 38, 39, 40, 41, 42, 43, 44, 45] [0, 1, 2, 3, 4, 5, 6, 7, 8, 9, 10, 11, 12, 13, 14, 15, 16, 17, 18, 19, 20, 21, 22, 23, 24, 25, 26, 27, 28, 29, 46] rfl rfl (by decide) (by decide) ht hk1 hFc hB
    generalize H1 = H at hP hS ⊢
    have hP : va_P (dC, dI) vwCl (wSd cI cZ cJ sd_a w_a v_a (wr_a 0) (rd_a 0) (cu_a 0) (sp_a 0) sd ++ wSy cI cZ cJ cu_a cu ++ wSy cI cZ cJ sp_a sp ++ wBr cI cZ cJ w_a w_b w ++ wBr cI cZ cJ v_a v_b v ++ wWr cI cZ cJ wr_a (pb_a 0) wr ++ wRd cI cZ cJ rd_a (pb_a 0) rd ++ wPb cI cZ cJ pb_a w_a v_a pb ++ wMo cI cZ cJ mo_a mo' ++ wOu cI cZ cJ ou_a ou) H := hP.sub [0, 1, 2, 3, 4, 5, 6, 7, 8, 9, 10, 11, 12, 13, 14, 15, 16, 17, 18, 19, 20, 21, 22, 23, 24, 25, 26, 27, 28, 29, 31, 32, 33, 34, 35, 36, 37, 38, 39, 40, 41, 42, 43, 44, 45, 46, 30] rfl
    have hD : va_D A (wSd cI cZ cJ sd_a w_a v_a (wr_a 0) (rd_a 0) (cu_a 0) (sp_a 0) sd ++ wSy cI cZ cJ cu_a cu ++ wSy cI cZ cJ sp_a sp ++ wBr cI cZ cJ w_a w_b w ++ wBr cI cZ cJ v_a v_b v ++ wWr cI cZ cJ wr_a (pb_a 0) wr ++ wRd cI cZ cJ rd_a (pb_a 0) rd ++ wPb cI cZ cJ pb_a w_a v_a pb ++ wMo cI cZ cJ mo_a mo' ++ wOu cI cZ cJ ou_a ou) := hD.sub [0, 1, 2, 3, 4, 5, 6, 7, 8, 9, 10, 11, 12, 13, 14, 15, 16, 17, 18, 19, 20, 21, 22, 23, 24, 25, 26, 27, 28, 29, 31, 32, 33, 34, 35, 36, 37, 38, 39, 40, 41, 42, 43, 44, 45, 46, 30] (by decide) rfl
    refine lv_iload hx hb d_law_368 (lv_at hl 1 rfl) ?_
    refine lv_icmp_eq (tgt := 375) hx hb d_law_370 (by decide) (fun _ => ?_) (fun h9 => absurd hcode h9)
    refine lv_iload hx hb d_law_375 (lv_at hl 1 rfl) ?_
    refine lv_if_ne (tgt := 392) hx hb d_law_377 (by decide) (fun _ => ?_) (fun h9 => absurd h9 (by decide))
    refine lv_goto (tgt := 1131) hx hb d_law_392 (by decide) ?_
    have hl := lv_sub (l' := [(0, .ref b), (1, .ref (sd_a 0)), (2, .ref (mo_a 0)), (3, .ref (ou_a 0)), (4, .int i)]) hl [2, 3, 4, 5, 6] rfl
    refine W.widen (k := j + 1 + Br_byL w + Br_byL v) (n := 6 * (j + 1) + 2 * Br_byL w + 2 * Br_byL v) (by omega) (by omega) ?_
    exact hk _ _ _ cu_a sp_a w_b v_b cu sp w v wr rd pb mo' ou hrel hP hD hS hl

