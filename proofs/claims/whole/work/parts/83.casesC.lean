set_option maxHeartbeats 8000000 in
set_option maxRecDepth 100000 in
theorem L_C_symbol {p : Program} {l : Launch} {e : Env} {R : Room} {s : State} {m : MethodId} {args : Array Value} {below : List Frame} {meth : Method} {c : Code} {Q : State → Prop} {A : Nat → Prop} {dC : Nat → ClassId} {dI : Nat → Nat → Nat} {cI cZ cJ : ClassId} {sd_a cu_a sp_a : Nat → Nat} {w_a w_b v_a v_b : Nat} {wr_a rd_a cb_a mo_a ou_a : Nat → Nat} {sd : Sd} {cu sp : Sy} {w v : Br} {wr : Wr} {rd : Rd} {cb : Cb} {mo : Mo} {ou : Ou} {b L : Nat} {xs : Nat → Int32} {i : Int32} {j : Nat} {Rl : Sd → Sy → Sy → Br → Br → Wr → Rd → Cb → Mo → Prop} (hl9 : l.stackTraces = false) (C0 : lcx p c m s args R (dC, dI) (TYS cI cZ cJ) A b L xs i j) (hRb : ∀ sd cu sp w v wr rd cb mo, Rl sd cu sp w v wr rd cb mo → Br_byL w ≤ 40000 ∧ Br_byL v ≤ 40000) (hR0 : Rl sd cu sp w v wr rd cb mo) (hT0 : T_C_symbol Rl sd cu sp w v wr rd cb mo (xs (i + 1).toNatClampNeg) (xs (i + 2).toNatClampNeg))
    (hk : ∀ (H : Heap) (locs : List Loc) (ls : Array Slot) (cu_a sp_a : Nat → Nat) (w_b v_b : Nat) (cu sp : Sy) (w v : Br) (wr : Wr) (rd : Rd) (cb : Cb) (mo : Mo) (ou : Ou), Rl sd cu sp w v wr rd cb mo → va_P (dC, dI) vwCl (wSd cI cZ cJ sd_a w_a v_a (wr_a 0) (rd_a 0) (cu_a 0) (sp_a 0) sd ++ wSy cI cZ cJ cu_a cu ++ wSy cI cZ cJ sp_a sp ++ wBr cI cZ cJ w_a w_b w ++ wBr cI cZ cJ v_a v_b v ++ wWr cI cZ cJ wr_a (cb_a 0) wr ++ wRd cI cZ cJ rd_a (cb_a 0) rd ++ wCb cI cZ cJ cb_a w_a v_a cb ++ wMo cI cZ cJ mo_a mo ++ wOu cI cZ cJ ou_a ou) H → va_D A (wSd cI cZ cJ sd_a w_a v_a (wr_a 0) (rd_a 0) (cu_a 0) (sp_a 0) sd ++ wSy cI cZ cJ cu_a cu ++ wSy cI cZ cJ sp_a sp ++ wBr cI cZ cJ w_a w_b w ++ wBr cI cZ cJ v_a v_b v ++ wWr cI cZ cJ wr_a (cb_a 0) wr ++ wRd cI cZ cJ rd_a (cb_a 0) rd ++ wCb cI cZ cJ cb_a w_a v_a cb ++ wMo cI cZ cJ mo_a mo ++ wOu cI cZ cJ ou_a ou) → va_S A s.heap H locs → lv_has ls 7 [(0, .ref b), (1, .ref (sd_a 0)), (2, .ref (mo_a 0)), (3, .ref (ou_a 0)), (4, .int i)] → W p l e R s m args below meth c H locs (j + 1 + Br_byL w + Br_byL v) (6 * (j + 1) + 2 * Br_byL w + 2 * Br_byL v) Q (F0 m 1131 ls []))
    {H : Heap} {locs : List Loc} {ls : Array Slot} (hP : va_P (dC, dI) vwCl (wSd cI cZ cJ sd_a w_a v_a (wr_a 0) (rd_a 0) (cu_a 0) (sp_a 0) sd ++ wSy cI cZ cJ cu_a cu ++ wSy cI cZ cJ sp_a sp ++ wBr cI cZ cJ w_a w_b w ++ wBr cI cZ cJ v_a v_b v ++ wWr cI cZ cJ wr_a (cb_a 0) wr ++ wRd cI cZ cJ rd_a (cb_a 0) rd ++ wCb cI cZ cJ cb_a w_a v_a cb ++ wMo cI cZ cJ mo_a mo ++ wOu cI cZ cJ ou_a ou) H) (hD : va_D A (wSd cI cZ cJ sd_a w_a v_a (wr_a 0) (rd_a 0) (cu_a 0) (sp_a 0) sd ++ wSy cI cZ cJ cu_a cu ++ wSy cI cZ cJ sp_a sp ++ wBr cI cZ cJ w_a w_b w ++ wBr cI cZ cJ v_a v_b v ++ wWr cI cZ cJ wr_a (cb_a 0) wr ++ wRd cI cZ cJ rd_a (cb_a 0) rd ++ wCb cI cZ cJ cb_a w_a v_a cb ++ wMo cI cZ cJ mo_a mo ++ wOu cI cZ cJ ou_a ou)) (hS : va_S A s.heap H locs) (hl : lv_has ls 7 [(0, .ref b), (1, .ref (sd_a 0)), (2, .ref (mo_a 0)), (3, .ref (ou_a 0)), (4, .int i)]) : W p l e R s m args below meth c H locs (j + Br_byL w + Br_byL v) (6 * j + 2 * Br_byL w + 2 * Br_byL v) Q (F0 m 132 ls []) := by
  obtain ⟨hx, hb, hml, hown, hts, hK, hA, hA2, hRf, hRl, hN, hT, hX, hX0, hbl, hin, hj, hRc, hRs⟩ := C0
  have hbA : ¬ A b := fun h => absurd (hA2 b h) (Nat.not_le.mpr hbl)
  obtain ⟨hw0, hv0⟩ := hRb _ _ _ _ _ _ _ _ _ hR0
  unfold T_C_symbol at hT0
  rcases hT0 with ⟨r, cu', mo', hf, hg, hcode, hrel⟩ | ⟨hf, q, mo', hg, hcode, hrel⟩ | ⟨hf, q, mo', hg, hcode, hrel⟩
  · obtain ⟨ou', heou⟩ : ∃ z : Ou, z = (vp_updL (Ou_f ou) 0 r.toInt64) := ⟨_, rfl⟩
    have hf1 : f_Law_symbol sd cu ou (xs (i + 1).toNatClampNeg) (xs (i + 2).toNatClampNeg) = some (0, cu', ou') := by
      rw [f_Law_symbol, hf, bd_s, heou]
      rfl
    have hou : Ou_f ou' (0 : Int32).toNatClampNeg = r.toInt64 := by rw [heou]; exact updL_at _ _ _
    refine lv_aload_n hx hb d_law_132 rfl (lv_at hl 1 rfl) ?_
    refine lv_aload_n hx hb d_law_133 rfl (lv_at hl 0 rfl) ?_
    refine lv_iload hx hb d_law_134 (lv_at hl 4 rfl) ?_
    refine lv_iconst (v := 1) hx hb d_law_136 (by decide) ?_
    refine lv_iadd hx hb d_law_137 ?_
    refine va_sld hx hb hX0 hbl hbA hS (hin 1 (by decide) (by decide)) d_law_138 ?_
    refine lv_aload_n hx hb d_law_139 rfl (lv_at hl 0 rfl) ?_
    refine lv_iload hx hb d_law_140 (lv_at hl 4 rfl) ?_
    refine lv_iconst (v := 2) hx hb d_law_142 (by decide) ?_
    refine lv_iadd hx hb d_law_143 ?_
    refine va_sld hx hb hX0 hbl hbA hS (hin 2 (by decide) (by decide)) d_law_144 ?_
    refine lv_aload_n hx hb d_law_145 rfl (lv_at hl 3 rfl) ?_
    have pm9 : ((wSd cI cZ cJ sd_a w_a v_a (wr_a 0) (rd_a 0) (cu_a 0) (sp_a 0) sd ++ wSy cI cZ cJ cu_a cu ++ wSy cI cZ cJ sp_a sp ++ wBr cI cZ cJ w_a w_b w ++ wBr cI cZ cJ v_a v_b v ++ wWr cI cZ cJ wr_a (cb_a 0) wr ++ wRd cI cZ cJ rd_a (cb_a 0) rd ++ wCb cI cZ cJ cb_a w_a v_a cb ++ wMo cI cZ cJ mo_a mo ++ wOu cI cZ cJ ou_a ou) : va_W).Perm ((wSd cI cZ cJ sd_a w_a v_a (wr_a 0) (rd_a 0) (cu_a 0) (sp_a 0) sd ++ wSy cI cZ cJ cu_a cu ++ wOu cI cZ cJ ou_a ou) ++ (wSy cI cZ cJ sp_a sp ++ wBr cI cZ cJ w_a w_b w ++ wBr cI cZ cJ v_a v_b v ++ wWr cI cZ cJ wr_a (cb_a 0) wr ++ wRd cI cZ cJ rd_a (cb_a 0) rd ++ wCb cI cZ cJ cb_a w_a v_a cb ++ wMo cI cZ cJ mo_a mo)) := pm_0 _ _ _ _ _ _ _ _ _ _
    have hPc := pw_P (ws' := (wSd cI cZ cJ sd_a w_a v_a (wr_a 0) (rd_a 0) (cu_a 0) (sp_a 0) sd ++ wSy cI cZ cJ cu_a cu ++ wOu cI cZ cJ ou_a ou)) hP (fun q hq => pm9.mem_iff.mpr (List.mem_append_left _ hq))
    have hDc := pw_D (wc := (wSd cI cZ cJ sd_a w_a v_a (wr_a 0) (rd_a 0) (cu_a 0) (sp_a 0) sd ++ wSy cI cZ cJ cu_a cu ++ wOu cI cZ cJ ou_a ou)) hD pm9
    have hFc := pw_free (wc := (wSd cI cZ cJ sd_a w_a v_a (wr_a 0) (rd_a 0) (cu_a 0) (sp_a 0) sd ++ wSy cI cZ cJ cu_a cu ++ wOu cI cZ cJ ou_a ou)) hD hS hA (fun q hq => pm9.mem_iff.mpr (List.mem_append_left _ hq))
    refine va_calli (w_runS (As := [.ref (sd_a 0), .int (xs (i + 1).toNatClampNeg), .int (xs (i + 2).toNatClampNeg), .ref (ou_a 0)]) (rest := []) ⟨hx, hb, hml, hown, hts⟩ (k_Law_symbol l dC dI cI cZ cJ sd_a cu_a ou_a w_a v_a (wr_a 0) (rd_a 0) (sp_a 0) H.size hf1) (cwH_of 4 hts t_559 rfl rfl t_53 t_557 t_558 hd_Law_symbol.2 ⟨Nat.le_trans (Nat.le_of_ble_eq_true rfl) hRf, Nat.le_trans (Nat.le_of_ble_eq_true rfl) hRl⟩) ⟨kP_blind, kP_at hPc hK hDc hN⟩ rfl rfl hl.1 rfl (lv_room (Nat.le_of_ble_eq_true rfl)) d_law_146 ⟨by omega, by omega⟩) hS (fun q _ h => hFc q h) hFc (fun r9 u t H1 locs ht hvm hw hB hz1 hk1 hS => ?_)
    rw [hw]
    obtain ⟨hP, hD⟩ := pw_join (wr := (wSy cI cZ cJ sp_a sp ++ wBr cI cZ cJ w_a w_b w ++ wBr cI cZ cJ v_a v_b v ++ wWr cI cZ cJ wr_a (cb_a 0) wr ++ wRd cI cZ cJ rd_a (cb_a 0) rd ++ wCb cI cZ cJ cb_a w_a v_a cb ++ wMo cI cZ cJ mo_a mo)) (w1 := (wSd cI cZ cJ sd_a w_a v_a (wr_a 0) (rd_a 0) (cu_a 0) (sp_a 0) sd ++ wSy cI cZ cJ cu_a cu' ++ wOu cI cZ cJ ou_a ou')) hP hD pm9 ht hk1 hFc hB
    generalize H1 = H at hP hS ⊢
    have pm9 : ((wSy cI cZ cJ sp_a sp ++ wBr cI cZ cJ w_a w_b w ++ wBr cI cZ cJ v_a v_b v ++ wWr cI cZ cJ wr_a (cb_a 0) wr ++ wRd cI cZ cJ rd_a (cb_a 0) rd ++ wCb cI cZ cJ cb_a w_a v_a cb ++ wMo cI cZ cJ mo_a mo) ++ (wSd cI cZ cJ sd_a w_a v_a (wr_a 0) (rd_a 0) (cu_a 0) (sp_a 0) sd ++ wSy cI cZ cJ cu_a cu' ++ wOu cI cZ cJ ou_a ou') : va_W).Perm (wSd cI cZ cJ sd_a w_a v_a (wr_a 0) (rd_a 0) (cu_a 0) (sp_a 0) sd ++ wSy cI cZ cJ cu_a cu' ++ wSy cI cZ cJ sp_a sp ++ wBr cI cZ cJ w_a w_b w ++ wBr cI cZ cJ v_a v_b v ++ wWr cI cZ cJ wr_a (cb_a 0) wr ++ wRd cI cZ cJ rd_a (cb_a 0) rd ++ wCb cI cZ cJ cb_a w_a v_a cb ++ wMo cI cZ cJ mo_a mo ++ wOu cI cZ cJ ou_a ou') := pm_1 _ _ _ _ _ _ _ _ _ _
    have hP : va_P (dC, dI) vwCl (wSd cI cZ cJ sd_a w_a v_a (wr_a 0) (rd_a 0) (cu_a 0) (sp_a 0) sd ++ wSy cI cZ cJ cu_a cu' ++ wSy cI cZ cJ sp_a sp ++ wBr cI cZ cJ w_a w_b w ++ wBr cI cZ cJ v_a v_b v ++ wWr cI cZ cJ wr_a (cb_a 0) wr ++ wRd cI cZ cJ rd_a (cb_a 0) rd ++ wCb cI cZ cJ cb_a w_a v_a cb ++ wMo cI cZ cJ mo_a mo ++ wOu cI cZ cJ ou_a ou') H := pw_P hP (fun q hq => pm9.mem_iff.mpr hq)
    have hD : va_D A (wSd cI cZ cJ sd_a w_a v_a (wr_a 0) (rd_a 0) (cu_a 0) (sp_a 0) sd ++ wSy cI cZ cJ cu_a cu' ++ wSy cI cZ cJ sp_a sp ++ wBr cI cZ cJ w_a w_b w ++ wBr cI cZ cJ v_a v_b v ++ wWr cI cZ cJ wr_a (cb_a 0) wr ++ wRd cI cZ cJ rd_a (cb_a 0) rd ++ wCb cI cZ cJ cb_a w_a v_a cb ++ wMo cI cZ cJ mo_a mo ++ wOu cI cZ cJ ou_a ou') := pw_Dp hD pm9
    refine lv_istore (lv' := [(5, .int 0), (0, .ref b), (1, .ref (sd_a 0)), (2, .ref (mo_a 0)), (3, .ref (ou_a 0)), (4, .int i)]) hx hb d_law_149 hl (by decide) rfl (fun ls hl => ?_)
    refine lv_aload_n hx hb d_law_151 rfl (lv_at hl 3 rfl) ?_
    refine lv_aload_n hx hb d_law_152 rfl (lv_at hl 1 rfl) ?_
    refine lv_iload hx hb d_law_153 (lv_at hl 5 rfl) ?_
    refine lv_iconst (v := 1) hx hb d_law_155 (by decide) ?_
    refine lv_iadd hx hb d_law_156 ?_
    refine va_sld hx hb hX0 hbl hbA hS (hin 1 (by decide) (by decide)) d_law_157 ?_
    refine lv_aload_n hx hb d_law_158 rfl (lv_at hl 1 rfl) ?_
    refine lv_iload hx hb d_law_159 (lv_at hl 5 rfl) ?_
    refine lv_iconst (v := 2) hx hb d_law_161 (by decide) ?_
    refine lv_iadd hx hb d_law_162 ?_
    refine va_sld hx hb hX0 hbl hbA hS (hin 2 (by decide) (by decide)) d_law_163 ?_
    have pm9 : ((wSd cI cZ cJ sd_a w_a v_a (wr_a 0) (rd_a 0) (cu_a 0) (sp_a 0) sd ++ wSy cI cZ cJ cu_a cu' ++ wSy cI cZ cJ sp_a sp ++ wBr cI cZ cJ w_a w_b w ++ wBr cI cZ cJ v_a v_b v ++ wWr cI cZ cJ wr_a (cb_a 0) wr ++ wRd cI cZ cJ rd_a (cb_a 0) rd ++ wCb cI cZ cJ cb_a w_a v_a cb ++ wMo cI cZ cJ mo_a mo ++ wOu cI cZ cJ ou_a ou') : va_W).Perm ((wMo cI cZ cJ mo_a mo) ++ (wSd cI cZ cJ sd_a w_a v_a (wr_a 0) (rd_a 0) (cu_a 0) (sp_a 0) sd ++ wSy cI cZ cJ cu_a cu' ++ wSy cI cZ cJ sp_a sp ++ wBr cI cZ cJ w_a w_b w ++ wBr cI cZ cJ v_a v_b v ++ wWr cI cZ cJ wr_a (cb_a 0) wr ++ wRd cI cZ cJ rd_a (cb_a 0) rd ++ wCb cI cZ cJ cb_a w_a v_a cb ++ wOu cI cZ cJ ou_a ou')) := pm_2 _ _ _ _ _ _ _ _ _ _
    have hPc := pw_P (ws' := (wMo cI cZ cJ mo_a mo)) hP (fun q hq => pm9.mem_iff.mpr (List.mem_append_left _ hq))
    have hDc := pw_D (wc := (wMo cI cZ cJ mo_a mo)) hD pm9
    have hFc := pw_free (wc := (wMo cI cZ cJ mo_a mo)) hD hS hA (fun q hq => pm9.mem_iff.mpr (List.mem_append_left _ hq))
    refine va_calli (va_runV (As := [.int (xs (i + 1).toNatClampNeg), .int (xs (i + 2).toNatClampNeg)]) (rest := []) ⟨hx, hb, hml, hown, hts⟩ (k_Model_symbol l dC dI cI cZ cJ mo_a H.size hg) (cwV 2 hts (gV t_910 t_911 t_912 t_63 t_913) rfl rfl rfl hd_Model_symbol ⟨Nat.le_trans (Nat.le_of_ble_eq_true rfl) hRf, Nat.le_trans (Nat.le_of_ble_eq_true rfl) hRl⟩) ⟨kP_blind, va_recv hK hPc (ci := 7) (q0 := 0) rfl rfl, kP_at hPc hK hDc hN⟩ rfl rfl hl.1 rfl (lv_room (Nat.le_of_ble_eq_true rfl)) d_law_164 ⟨by omega, by omega⟩) hS (fun q _ h => hFc q h) hFc (fun r9 u t H1 locs ht hvm hw hB hz1 hk1 hS => ?_)
    rw [hw]
    obtain ⟨hP, hD⟩ := pw_join (wr := (wSd cI cZ cJ sd_a w_a v_a (wr_a 0) (rd_a 0) (cu_a 0) (sp_a 0) sd ++ wSy cI cZ cJ cu_a cu' ++ wSy cI cZ cJ sp_a sp ++ wBr cI cZ cJ w_a w_b w ++ wBr cI cZ cJ v_a v_b v ++ wWr cI cZ cJ wr_a (cb_a 0) wr ++ wRd cI cZ cJ rd_a (cb_a 0) rd ++ wCb cI cZ cJ cb_a w_a v_a cb ++ wOu cI cZ cJ ou_a ou')) (w1 := (wMo cI cZ cJ mo_a mo')) hP hD pm9 ht hk1 hFc hB
    generalize H1 = H at hP hS ⊢
    have pm9 : ((wSd cI cZ cJ sd_a w_a v_a (wr_a 0) (rd_a 0) (cu_a 0) (sp_a 0) sd ++ wSy cI cZ cJ cu_a cu' ++ wSy cI cZ cJ sp_a sp ++ wBr cI cZ cJ w_a w_b w ++ wBr cI cZ cJ v_a v_b v ++ wWr cI cZ cJ wr_a (cb_a 0) wr ++ wRd cI cZ cJ rd_a (cb_a 0) rd ++ wCb cI cZ cJ cb_a w_a v_a cb ++ wOu cI cZ cJ ou_a ou') ++ (wMo cI cZ cJ mo_a mo') : va_W).Perm (wSd cI cZ cJ sd_a w_a v_a (wr_a 0) (rd_a 0) (cu_a 0) (sp_a 0) sd ++ wSy cI cZ cJ cu_a cu' ++ wSy cI cZ cJ sp_a sp ++ wBr cI cZ cJ w_a w_b w ++ wBr cI cZ cJ v_a v_b v ++ wWr cI cZ cJ wr_a (cb_a 0) wr ++ wRd cI cZ cJ rd_a (cb_a 0) rd ++ wCb cI cZ cJ cb_a w_a v_a cb ++ wMo cI cZ cJ mo_a mo' ++ wOu cI cZ cJ ou_a ou') := pm_3 _ _ _ _ _ _ _ _ _ _
    have hP : va_P (dC, dI) vwCl (wSd cI cZ cJ sd_a w_a v_a (wr_a 0) (rd_a 0) (cu_a 0) (sp_a 0) sd ++ wSy cI cZ cJ cu_a cu' ++ wSy cI cZ cJ sp_a sp ++ wBr cI cZ cJ w_a w_b w ++ wBr cI cZ cJ v_a v_b v ++ wWr cI cZ cJ wr_a (cb_a 0) wr ++ wRd cI cZ cJ rd_a (cb_a 0) rd ++ wCb cI cZ cJ cb_a w_a v_a cb ++ wMo cI cZ cJ mo_a mo' ++ wOu cI cZ cJ ou_a ou') H := pw_P hP (fun q hq => pm9.mem_iff.mpr hq)
    have hD : va_D A (wSd cI cZ cJ sd_a w_a v_a (wr_a 0) (rd_a 0) (cu_a 0) (sp_a 0) sd ++ wSy cI cZ cJ cu_a cu' ++ wSy cI cZ cJ sp_a sp ++ wBr cI cZ cJ w_a w_b w ++ wBr cI cZ cJ v_a v_b v ++ wWr cI cZ cJ wr_a (cb_a 0) wr ++ wRd cI cZ cJ rd_a (cb_a 0) rd ++ wCb cI cZ cJ cb_a w_a v_a cb ++ wMo cI cZ cJ mo_a mo' ++ wOu cI cZ cJ ou_a ou') := pw_Dp hD pm9
    refine lv_istore (lv' := [(6, .int r), (5, .int 0), (0, .ref b), (1, .ref (sd_a 0)), (2, .ref (mo_a 0)), (3, .ref (ou_a 0)), (4, .int i)]) hx hb d_law_167 hl (by decide) rfl (fun ls hl => ?_)
    refine lv_aload_n hx hb d_law_169 rfl (lv_at hl 4 rfl) ?_
    have hth : f_Model_thrown mo' = some (Mo_code mo') := rfl
    have pm9 : ((wSd cI cZ cJ sd_a w_a v_a (wr_a 0) (rd_a 0) (cu_a 0) (sp_a 0) sd ++ wSy cI cZ cJ cu_a cu' ++ wSy cI cZ cJ sp_a sp ++ wBr cI cZ cJ w_a w_b w ++ wBr cI cZ cJ v_a v_b v ++ wWr cI cZ cJ wr_a (cb_a 0) wr ++ wRd cI cZ cJ rd_a (cb_a 0) rd ++ wCb cI cZ cJ cb_a w_a v_a cb ++ wMo cI cZ cJ mo_a mo' ++ wOu cI cZ cJ ou_a ou') : va_W).Perm ((wMo cI cZ cJ mo_a mo') ++ (wSd cI cZ cJ sd_a w_a v_a (wr_a 0) (rd_a 0) (cu_a 0) (sp_a 0) sd ++ wSy cI cZ cJ cu_a cu' ++ wSy cI cZ cJ sp_a sp ++ wBr cI cZ cJ w_a w_b w ++ wBr cI cZ cJ v_a v_b v ++ wWr cI cZ cJ wr_a (cb_a 0) wr ++ wRd cI cZ cJ rd_a (cb_a 0) rd ++ wCb cI cZ cJ cb_a w_a v_a cb ++ wOu cI cZ cJ ou_a ou')) := pm_2 _ _ _ _ _ _ _ _ _ _
    have hPc := pw_P (ws' := (wMo cI cZ cJ mo_a mo')) hP (fun q hq => pm9.mem_iff.mpr (List.mem_append_left _ hq))
    have hDc := pw_D (wc := (wMo cI cZ cJ mo_a mo')) hD pm9
    have hFc := pw_free (wc := (wMo cI cZ cJ mo_a mo')) hD hS hA (fun q hq => pm9.mem_iff.mpr (List.mem_append_left _ hq))
    refine va_calli (va_runV (As := []) (rest := []) ⟨hx, hb, hml, hown, hts⟩ (k_Model_thrown l dC dI cI cZ cJ mo_a H.size hth) (cwV 0 hts (gV t_906 t_907 t_908 t_63 t_909) rfl rfl rfl hd_Model_thrown ⟨Nat.le_trans (Nat.le_of_ble_eq_true rfl) hRf, Nat.le_trans (Nat.le_of_ble_eq_true rfl) hRl⟩) ⟨kP_blind, va_recv hK hPc (ci := 7) (q0 := 0) rfl rfl, kP_at hPc hK hDc hN⟩ rfl rfl hl.1 rfl (lv_room (Nat.le_of_ble_eq_true rfl)) d_law_170 ⟨by omega, by omega⟩) hS (fun q _ h => hFc q h) hFc (fun r9 u t H1 locs ht hvm hw hB hz1 hk1 hS => ?_)
    rw [hw]
    obtain ⟨hP, hD⟩ := pw_join (wr := (wSd cI cZ cJ sd_a w_a v_a (wr_a 0) (rd_a 0) (cu_a 0) (sp_a 0) sd ++ wSy cI cZ cJ cu_a cu' ++ wSy cI cZ cJ sp_a sp ++ wBr cI cZ cJ w_a w_b w ++ wBr cI cZ cJ v_a v_b v ++ wWr cI cZ cJ wr_a (cb_a 0) wr ++ wRd cI cZ cJ rd_a (cb_a 0) rd ++ wCb cI cZ cJ cb_a w_a v_a cb ++ wOu cI cZ cJ ou_a ou')) (w1 := (wMo cI cZ cJ mo_a mo')) hP hD pm9 ht hk1 hFc hB
    generalize H1 = H at hP hS ⊢
    have pm9 : ((wSd cI cZ cJ sd_a w_a v_a (wr_a 0) (rd_a 0) (cu_a 0) (sp_a 0) sd ++ wSy cI cZ cJ cu_a cu' ++ wSy cI cZ cJ sp_a sp ++ wBr cI cZ cJ w_a w_b w ++ wBr cI cZ cJ v_a v_b v ++ wWr cI cZ cJ wr_a (cb_a 0) wr ++ wRd cI cZ cJ rd_a (cb_a 0) rd ++ wCb cI cZ cJ cb_a w_a v_a cb ++ wOu cI cZ cJ ou_a ou') ++ (wMo cI cZ cJ mo_a mo') : va_W).Perm (wSd cI cZ cJ sd_a w_a v_a (wr_a 0) (rd_a 0) (cu_a 0) (sp_a 0) sd ++ wSy cI cZ cJ cu_a cu' ++ wSy cI cZ cJ sp_a sp ++ wBr cI cZ cJ w_a w_b w ++ wBr cI cZ cJ v_a v_b v ++ wWr cI cZ cJ wr_a (cb_a 0) wr ++ wRd cI cZ cJ rd_a (cb_a 0) rd ++ wCb cI cZ cJ cb_a w_a v_a cb ++ wMo cI cZ cJ mo_a mo' ++ wOu cI cZ cJ ou_a ou') := pm_3 _ _ _ _ _ _ _ _ _ _
    have hP : va_P (dC, dI) vwCl (wSd cI cZ cJ sd_a w_a v_a (wr_a 0) (rd_a 0) (cu_a 0) (sp_a 0) sd ++ wSy cI cZ cJ cu_a cu' ++ wSy cI cZ cJ sp_a sp ++ wBr cI cZ cJ w_a w_b w ++ wBr cI cZ cJ v_a v_b v ++ wWr cI cZ cJ wr_a (cb_a 0) wr ++ wRd cI cZ cJ rd_a (cb_a 0) rd ++ wCb cI cZ cJ cb_a w_a v_a cb ++ wMo cI cZ cJ mo_a mo' ++ wOu cI cZ cJ ou_a ou') H := pw_P hP (fun q hq => pm9.mem_iff.mpr hq)
    have hD : va_D A (wSd cI cZ cJ sd_a w_a v_a (wr_a 0) (rd_a 0) (cu_a 0) (sp_a 0) sd ++ wSy cI cZ cJ cu_a cu' ++ wSy cI cZ cJ sp_a sp ++ wBr cI cZ cJ w_a w_b w ++ wBr cI cZ cJ v_a v_b v ++ wWr cI cZ cJ wr_a (cb_a 0) wr ++ wRd cI cZ cJ rd_a (cb_a 0) rd ++ wCb cI cZ cJ cb_a w_a v_a cb ++ wMo cI cZ cJ mo_a mo' ++ wOu cI cZ cJ ou_a ou') := pw_Dp hD pm9
    refine lv_iload hx hb d_law_173 (lv_at hl 1 rfl) ?_
    refine lv_icmp_eq (tgt := 180) hx hb d_law_175 (by decide) (fun _ => ?_) (fun h9 => absurd hcode h9)
    refine lv_iload hx hb d_law_180 (lv_at hl 1 rfl) ?_
    refine lv_if_ne (tgt := 197) hx hb d_law_182 (by decide) (fun h9 => absurd rfl h9) (fun _ => ?_)
    refine lv_aload_n hx hb d_law_185 rfl (lv_at hl 5 rfl) ?_
    refine lv_iconst (v := 0) hx hb d_law_186 (by decide) ?_
    refine va_lald (f := Ou_f ou') hx hb hK hP 47 2 rfl rfl (inb_in (by decide)) d_law_187 ?_
    refine lv_iload hx hb d_law_188 (lv_at hl 0 rfl) ?_
    refine lv_i2l (v := r.toInt64) hx hb d_law_190 rfl ?_
    refine W.lcmp hx hb d_law_191 ?_
    refine lv_if_eq (tgt := 197) hx hb d_law_192 (by decide) (fun _ => ?_) (fun h9 => absurd (by rw [hou]; exact cmp_self _) h9)
    refine lv_goto (tgt := 1131) hx hb d_law_197 (by decide) ?_
    have hl := lv_sub (l' := [(0, .ref b), (1, .ref (sd_a 0)), (2, .ref (mo_a 0)), (3, .ref (ou_a 0)), (4, .int i)]) hl [2, 3, 4, 5, 6] rfl
    refine W.widen (k := j + 1 + Br_byL w + Br_byL v) (n := 6 * (j + 1) + 2 * Br_byL w + 2 * Br_byL v) (by omega) (by omega) ?_
    exact hk _ _ _ cu_a sp_a w_b v_b cu' sp w v wr rd cb mo' ou' hrel hP hD hS hl
  · refine lv_aload_n hx hb d_law_132 rfl (lv_at hl 1 rfl) ?_
    refine lv_aload_n hx hb d_law_133 rfl (lv_at hl 0 rfl) ?_
    refine lv_iload hx hb d_law_134 (lv_at hl 4 rfl) ?_
    refine lv_iconst (v := 1) hx hb d_law_136 (by decide) ?_
    refine lv_iadd hx hb d_law_137 ?_
    refine va_sld hx hb hX0 hbl hbA hS (hin 1 (by decide) (by decide)) d_law_138 ?_
    refine lv_aload_n hx hb d_law_139 rfl (lv_at hl 0 rfl) ?_
    refine lv_iload hx hb d_law_140 (lv_at hl 4 rfl) ?_
    refine lv_iconst (v := 2) hx hb d_law_142 (by decide) ?_
    refine lv_iadd hx hb d_law_143 ?_
    refine va_sld hx hb hX0 hbl hbA hS (hin 2 (by decide) (by decide)) d_law_144 ?_
    refine lv_aload_n hx hb d_law_145 rfl (lv_at hl 3 rfl) ?_
    have pm9 : ((wSd cI cZ cJ sd_a w_a v_a (wr_a 0) (rd_a 0) (cu_a 0) (sp_a 0) sd ++ wSy cI cZ cJ cu_a cu ++ wSy cI cZ cJ sp_a sp ++ wBr cI cZ cJ w_a w_b w ++ wBr cI cZ cJ v_a v_b v ++ wWr cI cZ cJ wr_a (cb_a 0) wr ++ wRd cI cZ cJ rd_a (cb_a 0) rd ++ wCb cI cZ cJ cb_a w_a v_a cb ++ wMo cI cZ cJ mo_a mo ++ wOu cI cZ cJ ou_a ou) : va_W).Perm ((wSd cI cZ cJ sd_a w_a v_a (wr_a 0) (rd_a 0) (cu_a 0) (sp_a 0) sd ++ wSy cI cZ cJ cu_a cu ++ wOu cI cZ cJ ou_a ou) ++ (wSy cI cZ cJ sp_a sp ++ wBr cI cZ cJ w_a w_b w ++ wBr cI cZ cJ v_a v_b v ++ wWr cI cZ cJ wr_a (cb_a 0) wr ++ wRd cI cZ cJ rd_a (cb_a 0) rd ++ wCb cI cZ cJ cb_a w_a v_a cb ++ wMo cI cZ cJ mo_a mo)) := pm_0 _ _ _ _ _ _ _ _ _ _
    have hPc := pw_P (ws' := (wSd cI cZ cJ sd_a w_a v_a (wr_a 0) (rd_a 0) (cu_a 0) (sp_a 0) sd ++ wSy cI cZ cJ cu_a cu ++ wOu cI cZ cJ ou_a ou)) hP (fun q hq => pm9.mem_iff.mpr (List.mem_append_left _ hq))
    have hDc := pw_D (wc := (wSd cI cZ cJ sd_a w_a v_a (wr_a 0) (rd_a 0) (cu_a 0) (sp_a 0) sd ++ wSy cI cZ cJ cu_a cu ++ wOu cI cZ cJ ou_a ou)) hD pm9
    have hFc := pw_free (wc := (wSd cI cZ cJ sd_a w_a v_a (wr_a 0) (rd_a 0) (cu_a 0) (sp_a 0) sd ++ wSy cI cZ cJ cu_a cu ++ wOu cI cZ cJ ou_a ou)) hD hS hA (fun q hq => pm9.mem_iff.mpr (List.mem_append_left _ hq))
    refine va_calli (w_runS (As := [.ref (sd_a 0), .int (xs (i + 1).toNatClampNeg), .int (xs (i + 2).toNatClampNeg), .ref (ou_a 0)]) (rest := []) ⟨hx, hb, hml, hown, hts⟩ (kx_Law_symbol_1 l hl9 dC dI cI cZ cJ sd_a cu_a ou_a w_a v_a (wr_a 0) (rd_a 0) (sp_a 0) H.size hf) (cwH_of 4 hts t_559 rfl rfl t_53 t_557 t_558 hd_Law_symbol.2 ⟨Nat.le_trans (Nat.le_of_ble_eq_true rfl) hRf, Nat.le_trans (Nat.le_of_ble_eq_true rfl) hRl⟩) ⟨kPX_blind, kPX_at hPc hK hDc hN (fun q hq => hS.2.1 q hq (fun h9 => absurd (hA2 q h9) (Nat.not_le.mpr hq))) hT hX⟩ rfl rfl hl.1 rfl (lv_room (Nat.le_of_ble_eq_true rfl)) d_law_146 ⟨by omega, by omega⟩) hS (fun q _ h => hFc q h) hFc (fun r9 u t H1 locs ht hvm hw hB hz1 hk1 hS => ?_)
    rw [hw]
    obtain ⟨hP, hD⟩ := pw_join (wr := (wSy cI cZ cJ sp_a sp ++ wBr cI cZ cJ w_a w_b w ++ wBr cI cZ cJ v_a v_b v ++ wWr cI cZ cJ wr_a (cb_a 0) wr ++ wRd cI cZ cJ rd_a (cb_a 0) rd ++ wCb cI cZ cJ cb_a w_a v_a cb ++ wMo cI cZ cJ mo_a mo)) (w1 := (wSd cI cZ cJ sd_a w_a v_a (wr_a 0) (rd_a 0) (cu_a 0) (sp_a 0) sd ++ wSy cI cZ cJ cu_a cu ++ wOu cI cZ cJ ou_a ou)) hP hD pm9 ht hk1 hFc hB
    generalize H1 = H at hP hS ⊢
    have pm9 : ((wSy cI cZ cJ sp_a sp ++ wBr cI cZ cJ w_a w_b w ++ wBr cI cZ cJ v_a v_b v ++ wWr cI cZ cJ wr_a (cb_a 0) wr ++ wRd cI cZ cJ rd_a (cb_a 0) rd ++ wCb cI cZ cJ cb_a w_a v_a cb ++ wMo cI cZ cJ mo_a mo) ++ (wSd cI cZ cJ sd_a w_a v_a (wr_a 0) (rd_a 0) (cu_a 0) (sp_a 0) sd ++ wSy cI cZ cJ cu_a cu ++ wOu cI cZ cJ ou_a ou) : va_W).Perm (wSd cI cZ cJ sd_a w_a v_a (wr_a 0) (rd_a 0) (cu_a 0) (sp_a 0) sd ++ wSy cI cZ cJ cu_a cu ++ wSy cI cZ cJ sp_a sp ++ wBr cI cZ cJ w_a w_b w ++ wBr cI cZ cJ v_a v_b v ++ wWr cI cZ cJ wr_a (cb_a 0) wr ++ wRd cI cZ cJ rd_a (cb_a 0) rd ++ wCb cI cZ cJ cb_a w_a v_a cb ++ wMo cI cZ cJ mo_a mo ++ wOu cI cZ cJ ou_a ou) := pm_1 _ _ _ _ _ _ _ _ _ _
    have hP : va_P (dC, dI) vwCl (wSd cI cZ cJ sd_a w_a v_a (wr_a 0) (rd_a 0) (cu_a 0) (sp_a 0) sd ++ wSy cI cZ cJ cu_a cu ++ wSy cI cZ cJ sp_a sp ++ wBr cI cZ cJ w_a w_b w ++ wBr cI cZ cJ v_a v_b v ++ wWr cI cZ cJ wr_a (cb_a 0) wr ++ wRd cI cZ cJ rd_a (cb_a 0) rd ++ wCb cI cZ cJ cb_a w_a v_a cb ++ wMo cI cZ cJ mo_a mo ++ wOu cI cZ cJ ou_a ou) H := pw_P hP (fun q hq => pm9.mem_iff.mpr hq)
    have hD : va_D A (wSd cI cZ cJ sd_a w_a v_a (wr_a 0) (rd_a 0) (cu_a 0) (sp_a 0) sd ++ wSy cI cZ cJ cu_a cu ++ wSy cI cZ cJ sp_a sp ++ wBr cI cZ cJ w_a w_b w ++ wBr cI cZ cJ v_a v_b v ++ wWr cI cZ cJ wr_a (cb_a 0) wr ++ wRd cI cZ cJ rd_a (cb_a 0) rd ++ wCb cI cZ cJ cb_a w_a v_a cb ++ wMo cI cZ cJ mo_a mo ++ wOu cI cZ cJ ou_a ou) := pw_Dp hD pm9
    refine lv_istore (lv' := [(5, .int 1), (0, .ref b), (1, .ref (sd_a 0)), (2, .ref (mo_a 0)), (3, .ref (ou_a 0)), (4, .int i)]) hx hb d_law_149 hl (by decide) rfl (fun ls hl => ?_)
    refine lv_aload_n hx hb d_law_151 rfl (lv_at hl 3 rfl) ?_
    refine lv_aload_n hx hb d_law_152 rfl (lv_at hl 1 rfl) ?_
    refine lv_iload hx hb d_law_153 (lv_at hl 5 rfl) ?_
    refine lv_iconst (v := 1) hx hb d_law_155 (by decide) ?_
    refine lv_iadd hx hb d_law_156 ?_
    refine va_sld hx hb hX0 hbl hbA hS (hin 1 (by decide) (by decide)) d_law_157 ?_
    refine lv_aload_n hx hb d_law_158 rfl (lv_at hl 1 rfl) ?_
    refine lv_iload hx hb d_law_159 (lv_at hl 5 rfl) ?_
    refine lv_iconst (v := 2) hx hb d_law_161 (by decide) ?_
    refine lv_iadd hx hb d_law_162 ?_
    refine va_sld hx hb hX0 hbl hbA hS (hin 2 (by decide) (by decide)) d_law_163 ?_
    have pm9 : ((wSd cI cZ cJ sd_a w_a v_a (wr_a 0) (rd_a 0) (cu_a 0) (sp_a 0) sd ++ wSy cI cZ cJ cu_a cu ++ wSy cI cZ cJ sp_a sp ++ wBr cI cZ cJ w_a w_b w ++ wBr cI cZ cJ v_a v_b v ++ wWr cI cZ cJ wr_a (cb_a 0) wr ++ wRd cI cZ cJ rd_a (cb_a 0) rd ++ wCb cI cZ cJ cb_a w_a v_a cb ++ wMo cI cZ cJ mo_a mo ++ wOu cI cZ cJ ou_a ou) : va_W).Perm ((wMo cI cZ cJ mo_a mo) ++ (wSd cI cZ cJ sd_a w_a v_a (wr_a 0) (rd_a 0) (cu_a 0) (sp_a 0) sd ++ wSy cI cZ cJ cu_a cu ++ wSy cI cZ cJ sp_a sp ++ wBr cI cZ cJ w_a w_b w ++ wBr cI cZ cJ v_a v_b v ++ wWr cI cZ cJ wr_a (cb_a 0) wr ++ wRd cI cZ cJ rd_a (cb_a 0) rd ++ wCb cI cZ cJ cb_a w_a v_a cb ++ wOu cI cZ cJ ou_a ou)) := pm_2 _ _ _ _ _ _ _ _ _ _
    have hPc := pw_P (ws' := (wMo cI cZ cJ mo_a mo)) hP (fun q hq => pm9.mem_iff.mpr (List.mem_append_left _ hq))
    have hDc := pw_D (wc := (wMo cI cZ cJ mo_a mo)) hD pm9
    have hFc := pw_free (wc := (wMo cI cZ cJ mo_a mo)) hD hS hA (fun q hq => pm9.mem_iff.mpr (List.mem_append_left _ hq))
    refine va_calli (va_runV (As := [.int (xs (i + 1).toNatClampNeg), .int (xs (i + 2).toNatClampNeg)]) (rest := []) ⟨hx, hb, hml, hown, hts⟩ (k_Model_symbol l dC dI cI cZ cJ mo_a H.size hg) (cwV 2 hts (gV t_910 t_911 t_912 t_63 t_913) rfl rfl rfl hd_Model_symbol ⟨Nat.le_trans (Nat.le_of_ble_eq_true rfl) hRf, Nat.le_trans (Nat.le_of_ble_eq_true rfl) hRl⟩) ⟨kP_blind, va_recv hK hPc (ci := 7) (q0 := 0) rfl rfl, kP_at hPc hK hDc hN⟩ rfl rfl hl.1 rfl (lv_room (Nat.le_of_ble_eq_true rfl)) d_law_164 ⟨by omega, by omega⟩) hS (fun q _ h => hFc q h) hFc (fun r9 u t H1 locs ht hvm hw hB hz1 hk1 hS => ?_)
    rw [hw]
    obtain ⟨hP, hD⟩ := pw_join (wr := (wSd cI cZ cJ sd_a w_a v_a (wr_a 0) (rd_a 0) (cu_a 0) (sp_a 0) sd ++ wSy cI cZ cJ cu_a cu ++ wSy cI cZ cJ sp_a sp ++ wBr cI cZ cJ w_a w_b w ++ wBr cI cZ cJ v_a v_b v ++ wWr cI cZ cJ wr_a (cb_a 0) wr ++ wRd cI cZ cJ rd_a (cb_a 0) rd ++ wCb cI cZ cJ cb_a w_a v_a cb ++ wOu cI cZ cJ ou_a ou)) (w1 := (wMo cI cZ cJ mo_a mo')) hP hD pm9 ht hk1 hFc hB
    generalize H1 = H at hP hS ⊢
    have pm9 : ((wSd cI cZ cJ sd_a w_a v_a (wr_a 0) (rd_a 0) (cu_a 0) (sp_a 0) sd ++ wSy cI cZ cJ cu_a cu ++ wSy cI cZ cJ sp_a sp ++ wBr cI cZ cJ w_a w_b w ++ wBr cI cZ cJ v_a v_b v ++ wWr cI cZ cJ wr_a (cb_a 0) wr ++ wRd cI cZ cJ rd_a (cb_a 0) rd ++ wCb cI cZ cJ cb_a w_a v_a cb ++ wOu cI cZ cJ ou_a ou) ++ (wMo cI cZ cJ mo_a mo') : va_W).Perm (wSd cI cZ cJ sd_a w_a v_a (wr_a 0) (rd_a 0) (cu_a 0) (sp_a 0) sd ++ wSy cI cZ cJ cu_a cu ++ wSy cI cZ cJ sp_a sp ++ wBr cI cZ cJ w_a w_b w ++ wBr cI cZ cJ v_a v_b v ++ wWr cI cZ cJ wr_a (cb_a 0) wr ++ wRd cI cZ cJ rd_a (cb_a 0) rd ++ wCb cI cZ cJ cb_a w_a v_a cb ++ wMo cI cZ cJ mo_a mo' ++ wOu cI cZ cJ ou_a ou) := pm_3 _ _ _ _ _ _ _ _ _ _
    have hP : va_P (dC, dI) vwCl (wSd cI cZ cJ sd_a w_a v_a (wr_a 0) (rd_a 0) (cu_a 0) (sp_a 0) sd ++ wSy cI cZ cJ cu_a cu ++ wSy cI cZ cJ sp_a sp ++ wBr cI cZ cJ w_a w_b w ++ wBr cI cZ cJ v_a v_b v ++ wWr cI cZ cJ wr_a (cb_a 0) wr ++ wRd cI cZ cJ rd_a (cb_a 0) rd ++ wCb cI cZ cJ cb_a w_a v_a cb ++ wMo cI cZ cJ mo_a mo' ++ wOu cI cZ cJ ou_a ou) H := pw_P hP (fun q hq => pm9.mem_iff.mpr hq)
    have hD : va_D A (wSd cI cZ cJ sd_a w_a v_a (wr_a 0) (rd_a 0) (cu_a 0) (sp_a 0) sd ++ wSy cI cZ cJ cu_a cu ++ wSy cI cZ cJ sp_a sp ++ wBr cI cZ cJ w_a w_b w ++ wBr cI cZ cJ v_a v_b v ++ wWr cI cZ cJ wr_a (cb_a 0) wr ++ wRd cI cZ cJ rd_a (cb_a 0) rd ++ wCb cI cZ cJ cb_a w_a v_a cb ++ wMo cI cZ cJ mo_a mo' ++ wOu cI cZ cJ ou_a ou) := pw_Dp hD pm9
    refine lv_istore (lv' := [(6, .int q), (5, .int 1), (0, .ref b), (1, .ref (sd_a 0)), (2, .ref (mo_a 0)), (3, .ref (ou_a 0)), (4, .int i)]) hx hb d_law_167 hl (by decide) rfl (fun ls hl => ?_)
    refine lv_aload_n hx hb d_law_169 rfl (lv_at hl 4 rfl) ?_
    have hth : f_Model_thrown mo' = some (Mo_code mo') := rfl
    have pm9 : ((wSd cI cZ cJ sd_a w_a v_a (wr_a 0) (rd_a 0) (cu_a 0) (sp_a 0) sd ++ wSy cI cZ cJ cu_a cu ++ wSy cI cZ cJ sp_a sp ++ wBr cI cZ cJ w_a w_b w ++ wBr cI cZ cJ v_a v_b v ++ wWr cI cZ cJ wr_a (cb_a 0) wr ++ wRd cI cZ cJ rd_a (cb_a 0) rd ++ wCb cI cZ cJ cb_a w_a v_a cb ++ wMo cI cZ cJ mo_a mo' ++ wOu cI cZ cJ ou_a ou) : va_W).Perm ((wMo cI cZ cJ mo_a mo') ++ (wSd cI cZ cJ sd_a w_a v_a (wr_a 0) (rd_a 0) (cu_a 0) (sp_a 0) sd ++ wSy cI cZ cJ cu_a cu ++ wSy cI cZ cJ sp_a sp ++ wBr cI cZ cJ w_a w_b w ++ wBr cI cZ cJ v_a v_b v ++ wWr cI cZ cJ wr_a (cb_a 0) wr ++ wRd cI cZ cJ rd_a (cb_a 0) rd ++ wCb cI cZ cJ cb_a w_a v_a cb ++ wOu cI cZ cJ ou_a ou)) := pm_2 _ _ _ _ _ _ _ _ _ _
    have hPc := pw_P (ws' := (wMo cI cZ cJ mo_a mo')) hP (fun q hq => pm9.mem_iff.mpr (List.mem_append_left _ hq))
    have hDc := pw_D (wc := (wMo cI cZ cJ mo_a mo')) hD pm9
    have hFc := pw_free (wc := (wMo cI cZ cJ mo_a mo')) hD hS hA (fun q hq => pm9.mem_iff.mpr (List.mem_append_left _ hq))
    refine va_calli (va_runV (As := []) (rest := []) ⟨hx, hb, hml, hown, hts⟩ (k_Model_thrown l dC dI cI cZ cJ mo_a H.size hth) (cwV 0 hts (gV t_906 t_907 t_908 t_63 t_909) rfl rfl rfl hd_Model_thrown ⟨Nat.le_trans (Nat.le_of_ble_eq_true rfl) hRf, Nat.le_trans (Nat.le_of_ble_eq_true rfl) hRl⟩) ⟨kP_blind, va_recv hK hPc (ci := 7) (q0 := 0) rfl rfl, kP_at hPc hK hDc hN⟩ rfl rfl hl.1 rfl (lv_room (Nat.le_of_ble_eq_true rfl)) d_law_170 ⟨by omega, by omega⟩) hS (fun q _ h => hFc q h) hFc (fun r9 u t H1 locs ht hvm hw hB hz1 hk1 hS => ?_)
    rw [hw]
    obtain ⟨hP, hD⟩ := pw_join (wr := (wSd cI cZ cJ sd_a w_a v_a (wr_a 0) (rd_a 0) (cu_a 0) (sp_a 0) sd ++ wSy cI cZ cJ cu_a cu ++ wSy cI cZ cJ sp_a sp ++ wBr cI cZ cJ w_a w_b w ++ wBr cI cZ cJ v_a v_b v ++ wWr cI cZ cJ wr_a (cb_a 0) wr ++ wRd cI cZ cJ rd_a (cb_a 0) rd ++ wCb cI cZ cJ cb_a w_a v_a cb ++ wOu cI cZ cJ ou_a ou)) (w1 := (wMo cI cZ cJ mo_a mo')) hP hD pm9 ht hk1 hFc hB
    generalize H1 = H at hP hS ⊢
    have pm9 : ((wSd cI cZ cJ sd_a w_a v_a (wr_a 0) (rd_a 0) (cu_a 0) (sp_a 0) sd ++ wSy cI cZ cJ cu_a cu ++ wSy cI cZ cJ sp_a sp ++ wBr cI cZ cJ w_a w_b w ++ wBr cI cZ cJ v_a v_b v ++ wWr cI cZ cJ wr_a (cb_a 0) wr ++ wRd cI cZ cJ rd_a (cb_a 0) rd ++ wCb cI cZ cJ cb_a w_a v_a cb ++ wOu cI cZ cJ ou_a ou) ++ (wMo cI cZ cJ mo_a mo') : va_W).Perm (wSd cI cZ cJ sd_a w_a v_a (wr_a 0) (rd_a 0) (cu_a 0) (sp_a 0) sd ++ wSy cI cZ cJ cu_a cu ++ wSy cI cZ cJ sp_a sp ++ wBr cI cZ cJ w_a w_b w ++ wBr cI cZ cJ v_a v_b v ++ wWr cI cZ cJ wr_a (cb_a 0) wr ++ wRd cI cZ cJ rd_a (cb_a 0) rd ++ wCb cI cZ cJ cb_a w_a v_a cb ++ wMo cI cZ cJ mo_a mo' ++ wOu cI cZ cJ ou_a ou) := pm_3 _ _ _ _ _ _ _ _ _ _
    have hP : va_P (dC, dI) vwCl (wSd cI cZ cJ sd_a w_a v_a (wr_a 0) (rd_a 0) (cu_a 0) (sp_a 0) sd ++ wSy cI cZ cJ cu_a cu ++ wSy cI cZ cJ sp_a sp ++ wBr cI cZ cJ w_a w_b w ++ wBr cI cZ cJ v_a v_b v ++ wWr cI cZ cJ wr_a (cb_a 0) wr ++ wRd cI cZ cJ rd_a (cb_a 0) rd ++ wCb cI cZ cJ cb_a w_a v_a cb ++ wMo cI cZ cJ mo_a mo' ++ wOu cI cZ cJ ou_a ou) H := pw_P hP (fun q hq => pm9.mem_iff.mpr hq)
    have hD : va_D A (wSd cI cZ cJ sd_a w_a v_a (wr_a 0) (rd_a 0) (cu_a 0) (sp_a 0) sd ++ wSy cI cZ cJ cu_a cu ++ wSy cI cZ cJ sp_a sp ++ wBr cI cZ cJ w_a w_b w ++ wBr cI cZ cJ v_a v_b v ++ wWr cI cZ cJ wr_a (cb_a 0) wr ++ wRd cI cZ cJ rd_a (cb_a 0) rd ++ wCb cI cZ cJ cb_a w_a v_a cb ++ wMo cI cZ cJ mo_a mo' ++ wOu cI cZ cJ ou_a ou) := pw_Dp hD pm9
    refine lv_iload hx hb d_law_173 (lv_at hl 1 rfl) ?_
    refine lv_icmp_eq (tgt := 180) hx hb d_law_175 (by decide) (fun _ => ?_) (fun h9 => absurd hcode h9)
    refine lv_iload hx hb d_law_180 (lv_at hl 1 rfl) ?_
    refine lv_if_ne (tgt := 197) hx hb d_law_182 (by decide) (fun _ => ?_) (fun h9 => absurd h9 (by decide))
    refine lv_goto (tgt := 1131) hx hb d_law_197 (by decide) ?_
    have hl := lv_sub (l' := [(0, .ref b), (1, .ref (sd_a 0)), (2, .ref (mo_a 0)), (3, .ref (ou_a 0)), (4, .int i)]) hl [2, 3, 4, 5, 6] rfl
    refine W.widen (k := j + 1 + Br_byL w + Br_byL v) (n := 6 * (j + 1) + 2 * Br_byL w + 2 * Br_byL v) (by omega) (by omega) ?_
    exact hk _ _ _ cu_a sp_a w_b v_b cu sp w v wr rd cb mo' ou hrel hP hD hS hl
  · refine lv_aload_n hx hb d_law_132 rfl (lv_at hl 1 rfl) ?_
    refine lv_aload_n hx hb d_law_133 rfl (lv_at hl 0 rfl) ?_
    refine lv_iload hx hb d_law_134 (lv_at hl 4 rfl) ?_
    refine lv_iconst (v := 1) hx hb d_law_136 (by decide) ?_
    refine lv_iadd hx hb d_law_137 ?_
    refine va_sld hx hb hX0 hbl hbA hS (hin 1 (by decide) (by decide)) d_law_138 ?_
    refine lv_aload_n hx hb d_law_139 rfl (lv_at hl 0 rfl) ?_
    refine lv_iload hx hb d_law_140 (lv_at hl 4 rfl) ?_
    refine lv_iconst (v := 2) hx hb d_law_142 (by decide) ?_
    refine lv_iadd hx hb d_law_143 ?_
    refine va_sld hx hb hX0 hbl hbA hS (hin 2 (by decide) (by decide)) d_law_144 ?_
    refine lv_aload_n hx hb d_law_145 rfl (lv_at hl 3 rfl) ?_
    have pm9 : ((wSd cI cZ cJ sd_a w_a v_a (wr_a 0) (rd_a 0) (cu_a 0) (sp_a 0) sd ++ wSy cI cZ cJ cu_a cu ++ wSy cI cZ cJ sp_a sp ++ wBr cI cZ cJ w_a w_b w ++ wBr cI cZ cJ v_a v_b v ++ wWr cI cZ cJ wr_a (cb_a 0) wr ++ wRd cI cZ cJ rd_a (cb_a 0) rd ++ wCb cI cZ cJ cb_a w_a v_a cb ++ wMo cI cZ cJ mo_a mo ++ wOu cI cZ cJ ou_a ou) : va_W).Perm ((wSd cI cZ cJ sd_a w_a v_a (wr_a 0) (rd_a 0) (cu_a 0) (sp_a 0) sd ++ wSy cI cZ cJ cu_a cu ++ wOu cI cZ cJ ou_a ou) ++ (wSy cI cZ cJ sp_a sp ++ wBr cI cZ cJ w_a w_b w ++ wBr cI cZ cJ v_a v_b v ++ wWr cI cZ cJ wr_a (cb_a 0) wr ++ wRd cI cZ cJ rd_a (cb_a 0) rd ++ wCb cI cZ cJ cb_a w_a v_a cb ++ wMo cI cZ cJ mo_a mo)) := pm_0 _ _ _ _ _ _ _ _ _ _
    have hPc := pw_P (ws' := (wSd cI cZ cJ sd_a w_a v_a (wr_a 0) (rd_a 0) (cu_a 0) (sp_a 0) sd ++ wSy cI cZ cJ cu_a cu ++ wOu cI cZ cJ ou_a ou)) hP (fun q hq => pm9.mem_iff.mpr (List.mem_append_left _ hq))
    have hDc := pw_D (wc := (wSd cI cZ cJ sd_a w_a v_a (wr_a 0) (rd_a 0) (cu_a 0) (sp_a 0) sd ++ wSy cI cZ cJ cu_a cu ++ wOu cI cZ cJ ou_a ou)) hD pm9
    have hFc := pw_free (wc := (wSd cI cZ cJ sd_a w_a v_a (wr_a 0) (rd_a 0) (cu_a 0) (sp_a 0) sd ++ wSy cI cZ cJ cu_a cu ++ wOu cI cZ cJ ou_a ou)) hD hS hA (fun q hq => pm9.mem_iff.mpr (List.mem_append_left _ hq))
    refine va_calli (w_runS (As := [.ref (sd_a 0), .int (xs (i + 1).toNatClampNeg), .int (xs (i + 2).toNatClampNeg), .ref (ou_a 0)]) (rest := []) ⟨hx, hb, hml, hown, hts⟩ (kx_Law_symbol_4 l hl9 dC dI cI cZ cJ sd_a cu_a ou_a w_a v_a (wr_a 0) (rd_a 0) (sp_a 0) H.size hf) (cwH_of 4 hts t_559 rfl rfl t_53 t_557 t_558 hd_Law_symbol.2 ⟨Nat.le_trans (Nat.le_of_ble_eq_true rfl) hRf, Nat.le_trans (Nat.le_of_ble_eq_true rfl) hRl⟩) ⟨kPX_blind, kPX_at hPc hK hDc hN (fun q hq => hS.2.1 q hq (fun h9 => absurd (hA2 q h9) (Nat.not_le.mpr hq))) hT hX⟩ rfl rfl hl.1 rfl (lv_room (Nat.le_of_ble_eq_true rfl)) d_law_146 ⟨by omega, by omega⟩) hS (fun q _ h => hFc q h) hFc (fun r9 u t H1 locs ht hvm hw hB hz1 hk1 hS => ?_)
    rw [hw]
    obtain ⟨hP, hD⟩ := pw_join (wr := (wSy cI cZ cJ sp_a sp ++ wBr cI cZ cJ w_a w_b w ++ wBr cI cZ cJ v_a v_b v ++ wWr cI cZ cJ wr_a (cb_a 0) wr ++ wRd cI cZ cJ rd_a (cb_a 0) rd ++ wCb cI cZ cJ cb_a w_a v_a cb ++ wMo cI cZ cJ mo_a mo)) (w1 := (wSd cI cZ cJ sd_a w_a v_a (wr_a 0) (rd_a 0) (cu_a 0) (sp_a 0) sd ++ wSy cI cZ cJ cu_a cu ++ wOu cI cZ cJ ou_a ou)) hP hD pm9 ht hk1 hFc hB
    generalize H1 = H at hP hS ⊢
    have pm9 : ((wSy cI cZ cJ sp_a sp ++ wBr cI cZ cJ w_a w_b w ++ wBr cI cZ cJ v_a v_b v ++ wWr cI cZ cJ wr_a (cb_a 0) wr ++ wRd cI cZ cJ rd_a (cb_a 0) rd ++ wCb cI cZ cJ cb_a w_a v_a cb ++ wMo cI cZ cJ mo_a mo) ++ (wSd cI cZ cJ sd_a w_a v_a (wr_a 0) (rd_a 0) (cu_a 0) (sp_a 0) sd ++ wSy cI cZ cJ cu_a cu ++ wOu cI cZ cJ ou_a ou) : va_W).Perm (wSd cI cZ cJ sd_a w_a v_a (wr_a 0) (rd_a 0) (cu_a 0) (sp_a 0) sd ++ wSy cI cZ cJ cu_a cu ++ wSy cI cZ cJ sp_a sp ++ wBr cI cZ cJ w_a w_b w ++ wBr cI cZ cJ v_a v_b v ++ wWr cI cZ cJ wr_a (cb_a 0) wr ++ wRd cI cZ cJ rd_a (cb_a 0) rd ++ wCb cI cZ cJ cb_a w_a v_a cb ++ wMo cI cZ cJ mo_a mo ++ wOu cI cZ cJ ou_a ou) := pm_1 _ _ _ _ _ _ _ _ _ _
    have hP : va_P (dC, dI) vwCl (wSd cI cZ cJ sd_a w_a v_a (wr_a 0) (rd_a 0) (cu_a 0) (sp_a 0) sd ++ wSy cI cZ cJ cu_a cu ++ wSy cI cZ cJ sp_a sp ++ wBr cI cZ cJ w_a w_b w ++ wBr cI cZ cJ v_a v_b v ++ wWr cI cZ cJ wr_a (cb_a 0) wr ++ wRd cI cZ cJ rd_a (cb_a 0) rd ++ wCb cI cZ cJ cb_a w_a v_a cb ++ wMo cI cZ cJ mo_a mo ++ wOu cI cZ cJ ou_a ou) H := pw_P hP (fun q hq => pm9.mem_iff.mpr hq)
    have hD : va_D A (wSd cI cZ cJ sd_a w_a v_a (wr_a 0) (rd_a 0) (cu_a 0) (sp_a 0) sd ++ wSy cI cZ cJ cu_a cu ++ wSy cI cZ cJ sp_a sp ++ wBr cI cZ cJ w_a w_b w ++ wBr cI cZ cJ v_a v_b v ++ wWr cI cZ cJ wr_a (cb_a 0) wr ++ wRd cI cZ cJ rd_a (cb_a 0) rd ++ wCb cI cZ cJ cb_a w_a v_a cb ++ wMo cI cZ cJ mo_a mo ++ wOu cI cZ cJ ou_a ou) := pw_Dp hD pm9
    refine lv_istore (lv' := [(5, .int 2), (0, .ref b), (1, .ref (sd_a 0)), (2, .ref (mo_a 0)), (3, .ref (ou_a 0)), (4, .int i)]) hx hb d_law_149 hl (by decide) rfl (fun ls hl => ?_)
    refine lv_aload_n hx hb d_law_151 rfl (lv_at hl 3 rfl) ?_
    refine lv_aload_n hx hb d_law_152 rfl (lv_at hl 1 rfl) ?_
    refine lv_iload hx hb d_law_153 (lv_at hl 5 rfl) ?_
    refine lv_iconst (v := 1) hx hb d_law_155 (by decide) ?_
    refine lv_iadd hx hb d_law_156 ?_
    refine va_sld hx hb hX0 hbl hbA hS (hin 1 (by decide) (by decide)) d_law_157 ?_
    refine lv_aload_n hx hb d_law_158 rfl (lv_at hl 1 rfl) ?_
    refine lv_iload hx hb d_law_159 (lv_at hl 5 rfl) ?_
    refine lv_iconst (v := 2) hx hb d_law_161 (by decide) ?_
    refine lv_iadd hx hb d_law_162 ?_
    refine va_sld hx hb hX0 hbl hbA hS (hin 2 (by decide) (by decide)) d_law_163 ?_
    have pm9 : ((wSd cI cZ cJ sd_a w_a v_a (wr_a 0) (rd_a 0) (cu_a 0) (sp_a 0) sd ++ wSy cI cZ cJ cu_a cu ++ wSy cI cZ cJ sp_a sp ++ wBr cI cZ cJ w_a w_b w ++ wBr cI cZ cJ v_a v_b v ++ wWr cI cZ cJ wr_a (cb_a 0) wr ++ wRd cI cZ cJ rd_a (cb_a 0) rd ++ wCb cI cZ cJ cb_a w_a v_a cb ++ wMo cI cZ cJ mo_a mo ++ wOu cI cZ cJ ou_a ou) : va_W).Perm ((wMo cI cZ cJ mo_a mo) ++ (wSd cI cZ cJ sd_a w_a v_a (wr_a 0) (rd_a 0) (cu_a 0) (sp_a 0) sd ++ wSy cI cZ cJ cu_a cu ++ wSy cI cZ cJ sp_a sp ++ wBr cI cZ cJ w_a w_b w ++ wBr cI cZ cJ v_a v_b v ++ wWr cI cZ cJ wr_a (cb_a 0) wr ++ wRd cI cZ cJ rd_a (cb_a 0) rd ++ wCb cI cZ cJ cb_a w_a v_a cb ++ wOu cI cZ cJ ou_a ou)) := pm_2 _ _ _ _ _ _ _ _ _ _
    have hPc := pw_P (ws' := (wMo cI cZ cJ mo_a mo)) hP (fun q hq => pm9.mem_iff.mpr (List.mem_append_left _ hq))
    have hDc := pw_D (wc := (wMo cI cZ cJ mo_a mo)) hD pm9
    have hFc := pw_free (wc := (wMo cI cZ cJ mo_a mo)) hD hS hA (fun q hq => pm9.mem_iff.mpr (List.mem_append_left _ hq))
    refine va_calli (va_runV (As := [.int (xs (i + 1).toNatClampNeg), .int (xs (i + 2).toNatClampNeg)]) (rest := []) ⟨hx, hb, hml, hown, hts⟩ (k_Model_symbol l dC dI cI cZ cJ mo_a H.size hg) (cwV 2 hts (gV t_910 t_911 t_912 t_63 t_913) rfl rfl rfl hd_Model_symbol ⟨Nat.le_trans (Nat.le_of_ble_eq_true rfl) hRf, Nat.le_trans (Nat.le_of_ble_eq_true rfl) hRl⟩) ⟨kP_blind, va_recv hK hPc (ci := 7) (q0 := 0) rfl rfl, kP_at hPc hK hDc hN⟩ rfl rfl hl.1 rfl (lv_room (Nat.le_of_ble_eq_true rfl)) d_law_164 ⟨by omega, by omega⟩) hS (fun q _ h => hFc q h) hFc (fun r9 u t H1 locs ht hvm hw hB hz1 hk1 hS => ?_)
    rw [hw]
    obtain ⟨hP, hD⟩ := pw_join (wr := (wSd cI cZ cJ sd_a w_a v_a (wr_a 0) (rd_a 0) (cu_a 0) (sp_a 0) sd ++ wSy cI cZ cJ cu_a cu ++ wSy cI cZ cJ sp_a sp ++ wBr cI cZ cJ w_a w_b w ++ wBr cI cZ cJ v_a v_b v ++ wWr cI cZ cJ wr_a (cb_a 0) wr ++ wRd cI cZ cJ rd_a (cb_a 0) rd ++ wCb cI cZ cJ cb_a w_a v_a cb ++ wOu cI cZ cJ ou_a ou)) (w1 := (wMo cI cZ cJ mo_a mo')) hP hD pm9 ht hk1 hFc hB
    generalize H1 = H at hP hS ⊢
    have pm9 : ((wSd cI cZ cJ sd_a w_a v_a (wr_a 0) (rd_a 0) (cu_a 0) (sp_a 0) sd ++ wSy cI cZ cJ cu_a cu ++ wSy cI cZ cJ sp_a sp ++ wBr cI cZ cJ w_a w_b w ++ wBr cI cZ cJ v_a v_b v ++ wWr cI cZ cJ wr_a (cb_a 0) wr ++ wRd cI cZ cJ rd_a (cb_a 0) rd ++ wCb cI cZ cJ cb_a w_a v_a cb ++ wOu cI cZ cJ ou_a ou) ++ (wMo cI cZ cJ mo_a mo') : va_W).Perm (wSd cI cZ cJ sd_a w_a v_a (wr_a 0) (rd_a 0) (cu_a 0) (sp_a 0) sd ++ wSy cI cZ cJ cu_a cu ++ wSy cI cZ cJ sp_a sp ++ wBr cI cZ cJ w_a w_b w ++ wBr cI cZ cJ v_a v_b v ++ wWr cI cZ cJ wr_a (cb_a 0) wr ++ wRd cI cZ cJ rd_a (cb_a 0) rd ++ wCb cI cZ cJ cb_a w_a v_a cb ++ wMo cI cZ cJ mo_a mo' ++ wOu cI cZ cJ ou_a ou) := pm_3 _ _ _ _ _ _ _ _ _ _
    have hP : va_P (dC, dI) vwCl (wSd cI cZ cJ sd_a w_a v_a (wr_a 0) (rd_a 0) (cu_a 0) (sp_a 0) sd ++ wSy cI cZ cJ cu_a cu ++ wSy cI cZ cJ sp_a sp ++ wBr cI cZ cJ w_a w_b w ++ wBr cI cZ cJ v_a v_b v ++ wWr cI cZ cJ wr_a (cb_a 0) wr ++ wRd cI cZ cJ rd_a (cb_a 0) rd ++ wCb cI cZ cJ cb_a w_a v_a cb ++ wMo cI cZ cJ mo_a mo' ++ wOu cI cZ cJ ou_a ou) H := pw_P hP (fun q hq => pm9.mem_iff.mpr hq)
    have hD : va_D A (wSd cI cZ cJ sd_a w_a v_a (wr_a 0) (rd_a 0) (cu_a 0) (sp_a 0) sd ++ wSy cI cZ cJ cu_a cu ++ wSy cI cZ cJ sp_a sp ++ wBr cI cZ cJ w_a w_b w ++ wBr cI cZ cJ v_a v_b v ++ wWr cI cZ cJ wr_a (cb_a 0) wr ++ wRd cI cZ cJ rd_a (cb_a 0) rd ++ wCb cI cZ cJ cb_a w_a v_a cb ++ wMo cI cZ cJ mo_a mo' ++ wOu cI cZ cJ ou_a ou) := pw_Dp hD pm9
    refine lv_istore (lv' := [(6, .int q), (5, .int 2), (0, .ref b), (1, .ref (sd_a 0)), (2, .ref (mo_a 0)), (3, .ref (ou_a 0)), (4, .int i)]) hx hb d_law_167 hl (by decide) rfl (fun ls hl => ?_)
    refine lv_aload_n hx hb d_law_169 rfl (lv_at hl 4 rfl) ?_
    have hth : f_Model_thrown mo' = some (Mo_code mo') := rfl
    have pm9 : ((wSd cI cZ cJ sd_a w_a v_a (wr_a 0) (rd_a 0) (cu_a 0) (sp_a 0) sd ++ wSy cI cZ cJ cu_a cu ++ wSy cI cZ cJ sp_a sp ++ wBr cI cZ cJ w_a w_b w ++ wBr cI cZ cJ v_a v_b v ++ wWr cI cZ cJ wr_a (cb_a 0) wr ++ wRd cI cZ cJ rd_a (cb_a 0) rd ++ wCb cI cZ cJ cb_a w_a v_a cb ++ wMo cI cZ cJ mo_a mo' ++ wOu cI cZ cJ ou_a ou) : va_W).Perm ((wMo cI cZ cJ mo_a mo') ++ (wSd cI cZ cJ sd_a w_a v_a (wr_a 0) (rd_a 0) (cu_a 0) (sp_a 0) sd ++ wSy cI cZ cJ cu_a cu ++ wSy cI cZ cJ sp_a sp ++ wBr cI cZ cJ w_a w_b w ++ wBr cI cZ cJ v_a v_b v ++ wWr cI cZ cJ wr_a (cb_a 0) wr ++ wRd cI cZ cJ rd_a (cb_a 0) rd ++ wCb cI cZ cJ cb_a w_a v_a cb ++ wOu cI cZ cJ ou_a ou)) := pm_2 _ _ _ _ _ _ _ _ _ _
    have hPc := pw_P (ws' := (wMo cI cZ cJ mo_a mo')) hP (fun q hq => pm9.mem_iff.mpr (List.mem_append_left _ hq))
    have hDc := pw_D (wc := (wMo cI cZ cJ mo_a mo')) hD pm9
    have hFc := pw_free (wc := (wMo cI cZ cJ mo_a mo')) hD hS hA (fun q hq => pm9.mem_iff.mpr (List.mem_append_left _ hq))
    refine va_calli (va_runV (As := []) (rest := []) ⟨hx, hb, hml, hown, hts⟩ (k_Model_thrown l dC dI cI cZ cJ mo_a H.size hth) (cwV 0 hts (gV t_906 t_907 t_908 t_63 t_909) rfl rfl rfl hd_Model_thrown ⟨Nat.le_trans (Nat.le_of_ble_eq_true rfl) hRf, Nat.le_trans (Nat.le_of_ble_eq_true rfl) hRl⟩) ⟨kP_blind, va_recv hK hPc (ci := 7) (q0 := 0) rfl rfl, kP_at hPc hK hDc hN⟩ rfl rfl hl.1 rfl (lv_room (Nat.le_of_ble_eq_true rfl)) d_law_170 ⟨by omega, by omega⟩) hS (fun q _ h => hFc q h) hFc (fun r9 u t H1 locs ht hvm hw hB hz1 hk1 hS => ?_)
    rw [hw]
    obtain ⟨hP, hD⟩ := pw_join (wr := (wSd cI cZ cJ sd_a w_a v_a (wr_a 0) (rd_a 0) (cu_a 0) (sp_a 0) sd ++ wSy cI cZ cJ cu_a cu ++ wSy cI cZ cJ sp_a sp ++ wBr cI cZ cJ w_a w_b w ++ wBr cI cZ cJ v_a v_b v ++ wWr cI cZ cJ wr_a (cb_a 0) wr ++ wRd cI cZ cJ rd_a (cb_a 0) rd ++ wCb cI cZ cJ cb_a w_a v_a cb ++ wOu cI cZ cJ ou_a ou)) (w1 := (wMo cI cZ cJ mo_a mo')) hP hD pm9 ht hk1 hFc hB
    generalize H1 = H at hP hS ⊢
    have pm9 : ((wSd cI cZ cJ sd_a w_a v_a (wr_a 0) (rd_a 0) (cu_a 0) (sp_a 0) sd ++ wSy cI cZ cJ cu_a cu ++ wSy cI cZ cJ sp_a sp ++ wBr cI cZ cJ w_a w_b w ++ wBr cI cZ cJ v_a v_b v ++ wWr cI cZ cJ wr_a (cb_a 0) wr ++ wRd cI cZ cJ rd_a (cb_a 0) rd ++ wCb cI cZ cJ cb_a w_a v_a cb ++ wOu cI cZ cJ ou_a ou) ++ (wMo cI cZ cJ mo_a mo') : va_W).Perm (wSd cI cZ cJ sd_a w_a v_a (wr_a 0) (rd_a 0) (cu_a 0) (sp_a 0) sd ++ wSy cI cZ cJ cu_a cu ++ wSy cI cZ cJ sp_a sp ++ wBr cI cZ cJ w_a w_b w ++ wBr cI cZ cJ v_a v_b v ++ wWr cI cZ cJ wr_a (cb_a 0) wr ++ wRd cI cZ cJ rd_a (cb_a 0) rd ++ wCb cI cZ cJ cb_a w_a v_a cb ++ wMo cI cZ cJ mo_a mo' ++ wOu cI cZ cJ ou_a ou) := pm_3 _ _ _ _ _ _ _ _ _ _
    have hP : va_P (dC, dI) vwCl (wSd cI cZ cJ sd_a w_a v_a (wr_a 0) (rd_a 0) (cu_a 0) (sp_a 0) sd ++ wSy cI cZ cJ cu_a cu ++ wSy cI cZ cJ sp_a sp ++ wBr cI cZ cJ w_a w_b w ++ wBr cI cZ cJ v_a v_b v ++ wWr cI cZ cJ wr_a (cb_a 0) wr ++ wRd cI cZ cJ rd_a (cb_a 0) rd ++ wCb cI cZ cJ cb_a w_a v_a cb ++ wMo cI cZ cJ mo_a mo' ++ wOu cI cZ cJ ou_a ou) H := pw_P hP (fun q hq => pm9.mem_iff.mpr hq)
    have hD : va_D A (wSd cI cZ cJ sd_a w_a v_a (wr_a 0) (rd_a 0) (cu_a 0) (sp_a 0) sd ++ wSy cI cZ cJ cu_a cu ++ wSy cI cZ cJ sp_a sp ++ wBr cI cZ cJ w_a w_b w ++ wBr cI cZ cJ v_a v_b v ++ wWr cI cZ cJ wr_a (cb_a 0) wr ++ wRd cI cZ cJ rd_a (cb_a 0) rd ++ wCb cI cZ cJ cb_a w_a v_a cb ++ wMo cI cZ cJ mo_a mo' ++ wOu cI cZ cJ ou_a ou) := pw_Dp hD pm9
    refine lv_iload hx hb d_law_173 (lv_at hl 1 rfl) ?_
    refine lv_icmp_eq (tgt := 180) hx hb d_law_175 (by decide) (fun _ => ?_) (fun h9 => absurd hcode h9)
    refine lv_iload hx hb d_law_180 (lv_at hl 1 rfl) ?_
    refine lv_if_ne (tgt := 197) hx hb d_law_182 (by decide) (fun _ => ?_) (fun h9 => absurd h9 (by decide))
    refine lv_goto (tgt := 1131) hx hb d_law_197 (by decide) ?_
    have hl := lv_sub (l' := [(0, .ref b), (1, .ref (sd_a 0)), (2, .ref (mo_a 0)), (3, .ref (ou_a 0)), (4, .int i)]) hl [2, 3, 4, 5, 6] rfl
    refine W.widen (k := j + 1 + Br_byL w + Br_byL v) (n := 6 * (j + 1) + 2 * Br_byL w + 2 * Br_byL v) (by omega) (by omega) ?_
    exact hk _ _ _ cu_a sp_a w_b v_b cu sp w v wr rd cb mo' ou hrel hP hD hS hl
set_option maxHeartbeats 8000000 in
set_option maxRecDepth 100000 in
theorem L_C_put {p : Program} {l : Launch} {e : Env} {R : Room} {s : State} {m : MethodId} {args : Array Value} {below : List Frame} {meth : Method} {c : Code} {Q : State → Prop} {A : Nat → Prop} {dC : Nat → ClassId} {dI : Nat → Nat → Nat} {cI cZ cJ : ClassId} {sd_a cu_a sp_a : Nat → Nat} {w_a w_b v_a v_b : Nat} {wr_a rd_a cb_a mo_a ou_a : Nat → Nat} {sd : Sd} {cu sp : Sy} {w v : Br} {wr : Wr} {rd : Rd} {cb : Cb} {mo : Mo} {ou : Ou} {b L : Nat} {xs : Nat → Int32} {i : Int32} {j : Nat} {Rl : Sd → Sy → Sy → Br → Br → Wr → Rd → Cb → Mo → Prop} (hl9 : l.stackTraces = false) (C0 : lcx p c m s args R (dC, dI) (TYS cI cZ cJ) A b L xs i j) (hRb : ∀ sd cu sp w v wr rd cb mo, Rl sd cu sp w v wr rd cb mo → Br_byL w ≤ 40000 ∧ Br_byL v ≤ 40000) (hR0 : Rl sd cu sp w v wr rd cb mo) (hT0 : T_C_put Rl sd cu sp w v wr rd cb mo (xs (i + 1).toNatClampNeg) (xs (i + 2).toNatClampNeg) (xs (i + 3).toNatClampNeg) (zb (xs (i + 4).toNatClampNeg)))
    (hk : ∀ (H : Heap) (locs : List Loc) (ls : Array Slot) (cu_a sp_a : Nat → Nat) (w_b v_b : Nat) (cu sp : Sy) (w v : Br) (wr : Wr) (rd : Rd) (cb : Cb) (mo : Mo) (ou : Ou), Rl sd cu sp w v wr rd cb mo → va_P (dC, dI) vwCl (wSd cI cZ cJ sd_a w_a v_a (wr_a 0) (rd_a 0) (cu_a 0) (sp_a 0) sd ++ wSy cI cZ cJ cu_a cu ++ wSy cI cZ cJ sp_a sp ++ wBr cI cZ cJ w_a w_b w ++ wBr cI cZ cJ v_a v_b v ++ wWr cI cZ cJ wr_a (cb_a 0) wr ++ wRd cI cZ cJ rd_a (cb_a 0) rd ++ wCb cI cZ cJ cb_a w_a v_a cb ++ wMo cI cZ cJ mo_a mo ++ wOu cI cZ cJ ou_a ou) H → va_D A (wSd cI cZ cJ sd_a w_a v_a (wr_a 0) (rd_a 0) (cu_a 0) (sp_a 0) sd ++ wSy cI cZ cJ cu_a cu ++ wSy cI cZ cJ sp_a sp ++ wBr cI cZ cJ w_a w_b w ++ wBr cI cZ cJ v_a v_b v ++ wWr cI cZ cJ wr_a (cb_a 0) wr ++ wRd cI cZ cJ rd_a (cb_a 0) rd ++ wCb cI cZ cJ cb_a w_a v_a cb ++ wMo cI cZ cJ mo_a mo ++ wOu cI cZ cJ ou_a ou) → va_S A s.heap H locs → lv_has ls 7 [(0, .ref b), (1, .ref (sd_a 0)), (2, .ref (mo_a 0)), (3, .ref (ou_a 0)), (4, .int i)] → W p l e R s m args below meth c H locs (j + 1 + Br_byL w + Br_byL v) (6 * (j + 1) + 2 * Br_byL w + 2 * Br_byL v) Q (F0 m 1131 ls []))
    {H : Heap} {locs : List Loc} {ls : Array Slot} (hP : va_P (dC, dI) vwCl (wSd cI cZ cJ sd_a w_a v_a (wr_a 0) (rd_a 0) (cu_a 0) (sp_a 0) sd ++ wSy cI cZ cJ cu_a cu ++ wSy cI cZ cJ sp_a sp ++ wBr cI cZ cJ w_a w_b w ++ wBr cI cZ cJ v_a v_b v ++ wWr cI cZ cJ wr_a (cb_a 0) wr ++ wRd cI cZ cJ rd_a (cb_a 0) rd ++ wCb cI cZ cJ cb_a w_a v_a cb ++ wMo cI cZ cJ mo_a mo ++ wOu cI cZ cJ ou_a ou) H) (hD : va_D A (wSd cI cZ cJ sd_a w_a v_a (wr_a 0) (rd_a 0) (cu_a 0) (sp_a 0) sd ++ wSy cI cZ cJ cu_a cu ++ wSy cI cZ cJ sp_a sp ++ wBr cI cZ cJ w_a w_b w ++ wBr cI cZ cJ v_a v_b v ++ wWr cI cZ cJ wr_a (cb_a 0) wr ++ wRd cI cZ cJ rd_a (cb_a 0) rd ++ wCb cI cZ cJ cb_a w_a v_a cb ++ wMo cI cZ cJ mo_a mo ++ wOu cI cZ cJ ou_a ou)) (hS : va_S A s.heap H locs) (hl : lv_has ls 7 [(0, .ref b), (1, .ref (sd_a 0)), (2, .ref (mo_a 0)), (3, .ref (ou_a 0)), (4, .int i)]) : W p l e R s m args below meth c H locs (j + Br_byL w + Br_byL v) (6 * j + 2 * Br_byL w + 2 * Br_byL v) Q (F0 m 200 ls []) := by
  obtain ⟨hx, hb, hml, hown, hts, hK, hA, hA2, hRf, hRl, hN, hT, hX, hX0, hbl, hin, hj, hRc, hRs⟩ := C0
  have hbA : ¬ A b := fun h => absurd (hA2 b h) (Nat.not_le.mpr hbl)
  obtain ⟨hw0, hv0⟩ := hRb _ _ _ _ _ _ _ _ _ hR0
  unfold T_C_put at hT0
  rcases hT0 with ⟨r, cu', mo', hf, hg, hcode, hrel⟩ | ⟨hf, q, mo', hg, hcode, hrel⟩
  · obtain ⟨ou', heou⟩ : ∃ z : Ou, z = (vp_updL (Ou_f ou) 0 (zl r)) := ⟨_, rfl⟩
    have hf1 : f_Law_put sd cu ou (xs (i + 1).toNatClampNeg) (xs (i + 2).toNatClampNeg) (xs (i + 3).toNatClampNeg) (zb (xs (i + 4).toNatClampNeg)) = some (0, cu', ou') := by
      rw [f_Law_put, hf, bd_s, heou]
      by_cases h9 : r = 0
      · rw [zl, if_pos h9]; first | exact Eq.trans (if_pos h9) rfl | (rw [if_pos h9]; rfl)
      · rw [zl, if_neg h9]; first | exact Eq.trans (if_neg h9) rfl | (rw [if_neg h9]; rfl)
    have hou : Ou_f ou' (0 : Int32).toNatClampNeg = (zl r) := by rw [heou]; exact updL_at _ _ _
    refine lv_aload_n hx hb d_law_200 rfl (lv_at hl 1 rfl) ?_
    refine lv_aload_n hx hb d_law_201 rfl (lv_at hl 0 rfl) ?_
    refine lv_iload hx hb d_law_202 (lv_at hl 4 rfl) ?_
    refine lv_iconst (v := 1) hx hb d_law_204 (by decide) ?_
    refine lv_iadd hx hb d_law_205 ?_
    refine va_sld hx hb hX0 hbl hbA hS (hin 1 (by decide) (by decide)) d_law_206 ?_
    refine lv_aload_n hx hb d_law_207 rfl (lv_at hl 0 rfl) ?_
    refine lv_iload hx hb d_law_208 (lv_at hl 4 rfl) ?_
    refine lv_iconst (v := 2) hx hb d_law_210 (by decide) ?_
    refine lv_iadd hx hb d_law_211 ?_
    refine va_sld hx hb hX0 hbl hbA hS (hin 2 (by decide) (by decide)) d_law_212 ?_
    refine lv_aload_n hx hb d_law_213 rfl (lv_at hl 0 rfl) ?_
    refine lv_iload hx hb d_law_214 (lv_at hl 4 rfl) ?_
    refine lv_iconst (v := 3) hx hb d_law_216 (by decide) ?_
    refine lv_iadd hx hb d_law_217 ?_
    refine va_sld hx hb hX0 hbl hbA hS (hin 3 (by decide) (by decide)) d_law_218 ?_
    refine lv_aload_n hx hb d_law_219 rfl (lv_at hl 0 rfl) ?_
    refine lv_iload hx hb d_law_220 (lv_at hl 4 rfl) ?_
    refine lv_iconst (v := 4) hx hb d_law_222 (by decide) ?_
    refine lv_iadd hx hb d_law_223 ?_
    refine va_sld hx hb hX0 hbl hbA hS (hin 4 (by decide) (by decide)) d_law_224 ?_
    refine lw_zb hx hb d_law_225 d_law_228 d_law_229 d_law_232 ?_
    refine lv_aload_n hx hb d_law_233 rfl (lv_at hl 3 rfl) ?_
    have pm9 : ((wSd cI cZ cJ sd_a w_a v_a (wr_a 0) (rd_a 0) (cu_a 0) (sp_a 0) sd ++ wSy cI cZ cJ cu_a cu ++ wSy cI cZ cJ sp_a sp ++ wBr cI cZ cJ w_a w_b w ++ wBr cI cZ cJ v_a v_b v ++ wWr cI cZ cJ wr_a (cb_a 0) wr ++ wRd cI cZ cJ rd_a (cb_a 0) rd ++ wCb cI cZ cJ cb_a w_a v_a cb ++ wMo cI cZ cJ mo_a mo ++ wOu cI cZ cJ ou_a ou) : va_W).Perm ((wSd cI cZ cJ sd_a w_a v_a (wr_a 0) (rd_a 0) (cu_a 0) (sp_a 0) sd ++ wSy cI cZ cJ cu_a cu ++ wOu cI cZ cJ ou_a ou) ++ (wSy cI cZ cJ sp_a sp ++ wBr cI cZ cJ w_a w_b w ++ wBr cI cZ cJ v_a v_b v ++ wWr cI cZ cJ wr_a (cb_a 0) wr ++ wRd cI cZ cJ rd_a (cb_a 0) rd ++ wCb cI cZ cJ cb_a w_a v_a cb ++ wMo cI cZ cJ mo_a mo)) := pm_0 _ _ _ _ _ _ _ _ _ _
    have hPc := pw_P (ws' := (wSd cI cZ cJ sd_a w_a v_a (wr_a 0) (rd_a 0) (cu_a 0) (sp_a 0) sd ++ wSy cI cZ cJ cu_a cu ++ wOu cI cZ cJ ou_a ou)) hP (fun q hq => pm9.mem_iff.mpr (List.mem_append_left _ hq))
    have hDc := pw_D (wc := (wSd cI cZ cJ sd_a w_a v_a (wr_a 0) (rd_a 0) (cu_a 0) (sp_a 0) sd ++ wSy cI cZ cJ cu_a cu ++ wOu cI cZ cJ ou_a ou)) hD pm9
    have hFc := pw_free (wc := (wSd cI cZ cJ sd_a w_a v_a (wr_a 0) (rd_a 0) (cu_a 0) (sp_a 0) sd ++ wSy cI cZ cJ cu_a cu ++ wOu cI cZ cJ ou_a ou)) hD hS hA (fun q hq => pm9.mem_iff.mpr (List.mem_append_left _ hq))
    refine va_calli (w_runS (As := [.ref (sd_a 0), .int (xs (i + 1).toNatClampNeg), .int (xs (i + 2).toNatClampNeg), .int (xs (i + 3).toNatClampNeg), .int (zb (xs (i + 4).toNatClampNeg)), .ref (ou_a 0)]) (rest := []) ⟨hx, hb, hml, hown, hts⟩ (k_Law_put l dC dI cI cZ cJ sd_a cu_a ou_a w_a v_a (wr_a 0) (rd_a 0) (sp_a 0) H.size hf1) (cwH_of 6 hts t_654 rfl rfl t_53 t_652 t_653 hd_Law_put.2 ⟨Nat.le_trans (Nat.le_of_ble_eq_true rfl) hRf, Nat.le_trans (Nat.le_of_ble_eq_true rfl) hRl⟩) ⟨kP_blind, kP_at hPc hK hDc hN⟩ rfl rfl hl.1 rfl (lv_room (Nat.le_of_ble_eq_true rfl)) d_law_234 ⟨by omega, by omega⟩) hS (fun q _ h => hFc q h) hFc (fun r9 u t H1 locs ht hvm hw hB hz1 hk1 hS => ?_)
    rw [hw]
    obtain ⟨hP, hD⟩ := pw_join (wr := (wSy cI cZ cJ sp_a sp ++ wBr cI cZ cJ w_a w_b w ++ wBr cI cZ cJ v_a v_b v ++ wWr cI cZ cJ wr_a (cb_a 0) wr ++ wRd cI cZ cJ rd_a (cb_a 0) rd ++ wCb cI cZ cJ cb_a w_a v_a cb ++ wMo cI cZ cJ mo_a mo)) (w1 := (wSd cI cZ cJ sd_a w_a v_a (wr_a 0) (rd_a 0) (cu_a 0) (sp_a 0) sd ++ wSy cI cZ cJ cu_a cu' ++ wOu cI cZ cJ ou_a ou')) hP hD pm9 ht hk1 hFc hB
    generalize H1 = H at hP hS ⊢
    have pm9 : ((wSy cI cZ cJ sp_a sp ++ wBr cI cZ cJ w_a w_b w ++ wBr cI cZ cJ v_a v_b v ++ wWr cI cZ cJ wr_a (cb_a 0) wr ++ wRd cI cZ cJ rd_a (cb_a 0) rd ++ wCb cI cZ cJ cb_a w_a v_a cb ++ wMo cI cZ cJ mo_a mo) ++ (wSd cI cZ cJ sd_a w_a v_a (wr_a 0) (rd_a 0) (cu_a 0) (sp_a 0) sd ++ wSy cI cZ cJ cu_a cu' ++ wOu cI cZ cJ ou_a ou') : va_W).Perm (wSd cI cZ cJ sd_a w_a v_a (wr_a 0) (rd_a 0) (cu_a 0) (sp_a 0) sd ++ wSy cI cZ cJ cu_a cu' ++ wSy cI cZ cJ sp_a sp ++ wBr cI cZ cJ w_a w_b w ++ wBr cI cZ cJ v_a v_b v ++ wWr cI cZ cJ wr_a (cb_a 0) wr ++ wRd cI cZ cJ rd_a (cb_a 0) rd ++ wCb cI cZ cJ cb_a w_a v_a cb ++ wMo cI cZ cJ mo_a mo ++ wOu cI cZ cJ ou_a ou') := pm_1 _ _ _ _ _ _ _ _ _ _
    have hP : va_P (dC, dI) vwCl (wSd cI cZ cJ sd_a w_a v_a (wr_a 0) (rd_a 0) (cu_a 0) (sp_a 0) sd ++ wSy cI cZ cJ cu_a cu' ++ wSy cI cZ cJ sp_a sp ++ wBr cI cZ cJ w_a w_b w ++ wBr cI cZ cJ v_a v_b v ++ wWr cI cZ cJ wr_a (cb_a 0) wr ++ wRd cI cZ cJ rd_a (cb_a 0) rd ++ wCb cI cZ cJ cb_a w_a v_a cb ++ wMo cI cZ cJ mo_a mo ++ wOu cI cZ cJ ou_a ou') H := pw_P hP (fun q hq => pm9.mem_iff.mpr hq)
    have hD : va_D A (wSd cI cZ cJ sd_a w_a v_a (wr_a 0) (rd_a 0) (cu_a 0) (sp_a 0) sd ++ wSy cI cZ cJ cu_a cu' ++ wSy cI cZ cJ sp_a sp ++ wBr cI cZ cJ w_a w_b w ++ wBr cI cZ cJ v_a v_b v ++ wWr cI cZ cJ wr_a (cb_a 0) wr ++ wRd cI cZ cJ rd_a (cb_a 0) rd ++ wCb cI cZ cJ cb_a w_a v_a cb ++ wMo cI cZ cJ mo_a mo ++ wOu cI cZ cJ ou_a ou') := pw_Dp hD pm9
    refine lv_istore (lv' := [(5, .int 0), (0, .ref b), (1, .ref (sd_a 0)), (2, .ref (mo_a 0)), (3, .ref (ou_a 0)), (4, .int i)]) hx hb d_law_237 hl (by decide) rfl (fun ls hl => ?_)
    refine lv_aload_n hx hb d_law_239 rfl (lv_at hl 3 rfl) ?_
    refine lv_aload_n hx hb d_law_240 rfl (lv_at hl 1 rfl) ?_
    refine lv_iload hx hb d_law_241 (lv_at hl 5 rfl) ?_
    refine lv_iconst (v := 1) hx hb d_law_243 (by decide) ?_
    refine lv_iadd hx hb d_law_244 ?_
    refine va_sld hx hb hX0 hbl hbA hS (hin 1 (by decide) (by decide)) d_law_245 ?_
    refine lv_aload_n hx hb d_law_246 rfl (lv_at hl 1 rfl) ?_
    refine lv_iload hx hb d_law_247 (lv_at hl 5 rfl) ?_
    refine lv_iconst (v := 2) hx hb d_law_249 (by decide) ?_
    refine lv_iadd hx hb d_law_250 ?_
    refine va_sld hx hb hX0 hbl hbA hS (hin 2 (by decide) (by decide)) d_law_251 ?_
    refine lv_aload_n hx hb d_law_252 rfl (lv_at hl 1 rfl) ?_
    refine lv_iload hx hb d_law_253 (lv_at hl 5 rfl) ?_
    refine lv_iconst (v := 3) hx hb d_law_255 (by decide) ?_
    refine lv_iadd hx hb d_law_256 ?_
    refine va_sld hx hb hX0 hbl hbA hS (hin 3 (by decide) (by decide)) d_law_257 ?_
    refine lv_aload_n hx hb d_law_258 rfl (lv_at hl 1 rfl) ?_
    refine lv_iload hx hb d_law_259 (lv_at hl 5 rfl) ?_
    refine lv_iconst (v := 4) hx hb d_law_261 (by decide) ?_
    refine lv_iadd hx hb d_law_262 ?_
    refine va_sld hx hb hX0 hbl hbA hS (hin 4 (by decide) (by decide)) d_law_263 ?_
    refine lw_zb hx hb d_law_264 d_law_267 d_law_268 d_law_271 ?_
    have pm9 : ((wSd cI cZ cJ sd_a w_a v_a (wr_a 0) (rd_a 0) (cu_a 0) (sp_a 0) sd ++ wSy cI cZ cJ cu_a cu' ++ wSy cI cZ cJ sp_a sp ++ wBr cI cZ cJ w_a w_b w ++ wBr cI cZ cJ v_a v_b v ++ wWr cI cZ cJ wr_a (cb_a 0) wr ++ wRd cI cZ cJ rd_a (cb_a 0) rd ++ wCb cI cZ cJ cb_a w_a v_a cb ++ wMo cI cZ cJ mo_a mo ++ wOu cI cZ cJ ou_a ou') : va_W).Perm ((wMo cI cZ cJ mo_a mo) ++ (wSd cI cZ cJ sd_a w_a v_a (wr_a 0) (rd_a 0) (cu_a 0) (sp_a 0) sd ++ wSy cI cZ cJ cu_a cu' ++ wSy cI cZ cJ sp_a sp ++ wBr cI cZ cJ w_a w_b w ++ wBr cI cZ cJ v_a v_b v ++ wWr cI cZ cJ wr_a (cb_a 0) wr ++ wRd cI cZ cJ rd_a (cb_a 0) rd ++ wCb cI cZ cJ cb_a w_a v_a cb ++ wOu cI cZ cJ ou_a ou')) := pm_2 _ _ _ _ _ _ _ _ _ _
    have hPc := pw_P (ws' := (wMo cI cZ cJ mo_a mo)) hP (fun q hq => pm9.mem_iff.mpr (List.mem_append_left _ hq))
    have hDc := pw_D (wc := (wMo cI cZ cJ mo_a mo)) hD pm9
    have hFc := pw_free (wc := (wMo cI cZ cJ mo_a mo)) hD hS hA (fun q hq => pm9.mem_iff.mpr (List.mem_append_left _ hq))
    refine va_calli (va_runV (As := [.int (xs (i + 1).toNatClampNeg), .int (xs (i + 2).toNatClampNeg), .int (xs (i + 3).toNatClampNeg), .int (zb (xs (i + 4).toNatClampNeg))]) (rest := []) ⟨hx, hb, hml, hown, hts⟩ (k_Model_put l dC dI cI cZ cJ mo_a H.size hg) (cwV 4 hts (gV t_918 t_919 t_920 t_63 t_921) rfl rfl rfl hd_Model_put ⟨Nat.le_trans (Nat.le_of_ble_eq_true rfl) hRf, Nat.le_trans (Nat.le_of_ble_eq_true rfl) hRl⟩) ⟨kP_blind, va_recv hK hPc (ci := 7) (q0 := 0) rfl rfl, kP_at hPc hK hDc hN⟩ rfl rfl hl.1 rfl (lv_room (Nat.le_of_ble_eq_true rfl)) d_law_272 ⟨by omega, by omega⟩) hS (fun q _ h => hFc q h) hFc (fun r9 u t H1 locs ht hvm hw hB hz1 hk1 hS => ?_)
    rw [hw.1]
    obtain ⟨hP, hD⟩ := pw_join (wr := (wSd cI cZ cJ sd_a w_a v_a (wr_a 0) (rd_a 0) (cu_a 0) (sp_a 0) sd ++ wSy cI cZ cJ cu_a cu' ++ wSy cI cZ cJ sp_a sp ++ wBr cI cZ cJ w_a w_b w ++ wBr cI cZ cJ v_a v_b v ++ wWr cI cZ cJ wr_a (cb_a 0) wr ++ wRd cI cZ cJ rd_a (cb_a 0) rd ++ wCb cI cZ cJ cb_a w_a v_a cb ++ wOu cI cZ cJ ou_a ou')) (w1 := (wMo cI cZ cJ mo_a mo')) hP hD pm9 ht hk1 hFc hB
    generalize H1 = H at hP hS ⊢
    have pm9 : ((wSd cI cZ cJ sd_a w_a v_a (wr_a 0) (rd_a 0) (cu_a 0) (sp_a 0) sd ++ wSy cI cZ cJ cu_a cu' ++ wSy cI cZ cJ sp_a sp ++ wBr cI cZ cJ w_a w_b w ++ wBr cI cZ cJ v_a v_b v ++ wWr cI cZ cJ wr_a (cb_a 0) wr ++ wRd cI cZ cJ rd_a (cb_a 0) rd ++ wCb cI cZ cJ cb_a w_a v_a cb ++ wOu cI cZ cJ ou_a ou') ++ (wMo cI cZ cJ mo_a mo') : va_W).Perm (wSd cI cZ cJ sd_a w_a v_a (wr_a 0) (rd_a 0) (cu_a 0) (sp_a 0) sd ++ wSy cI cZ cJ cu_a cu' ++ wSy cI cZ cJ sp_a sp ++ wBr cI cZ cJ w_a w_b w ++ wBr cI cZ cJ v_a v_b v ++ wWr cI cZ cJ wr_a (cb_a 0) wr ++ wRd cI cZ cJ rd_a (cb_a 0) rd ++ wCb cI cZ cJ cb_a w_a v_a cb ++ wMo cI cZ cJ mo_a mo' ++ wOu cI cZ cJ ou_a ou') := pm_3 _ _ _ _ _ _ _ _ _ _
    have hP : va_P (dC, dI) vwCl (wSd cI cZ cJ sd_a w_a v_a (wr_a 0) (rd_a 0) (cu_a 0) (sp_a 0) sd ++ wSy cI cZ cJ cu_a cu' ++ wSy cI cZ cJ sp_a sp ++ wBr cI cZ cJ w_a w_b w ++ wBr cI cZ cJ v_a v_b v ++ wWr cI cZ cJ wr_a (cb_a 0) wr ++ wRd cI cZ cJ rd_a (cb_a 0) rd ++ wCb cI cZ cJ cb_a w_a v_a cb ++ wMo cI cZ cJ mo_a mo' ++ wOu cI cZ cJ ou_a ou') H := pw_P hP (fun q hq => pm9.mem_iff.mpr hq)
    have hD : va_D A (wSd cI cZ cJ sd_a w_a v_a (wr_a 0) (rd_a 0) (cu_a 0) (sp_a 0) sd ++ wSy cI cZ cJ cu_a cu' ++ wSy cI cZ cJ sp_a sp ++ wBr cI cZ cJ w_a w_b w ++ wBr cI cZ cJ v_a v_b v ++ wWr cI cZ cJ wr_a (cb_a 0) wr ++ wRd cI cZ cJ rd_a (cb_a 0) rd ++ wCb cI cZ cJ cb_a w_a v_a cb ++ wMo cI cZ cJ mo_a mo' ++ wOu cI cZ cJ ou_a ou') := pw_Dp hD pm9
    refine lv_istore (lv' := [(6, .int r), (5, .int 0), (0, .ref b), (1, .ref (sd_a 0)), (2, .ref (mo_a 0)), (3, .ref (ou_a 0)), (4, .int i)]) hx hb d_law_275 hl (by decide) rfl (fun ls hl => ?_)
    refine lv_aload_n hx hb d_law_277 rfl (lv_at hl 4 rfl) ?_
    have hth : f_Model_thrown mo' = some (Mo_code mo') := rfl
    have pm9 : ((wSd cI cZ cJ sd_a w_a v_a (wr_a 0) (rd_a 0) (cu_a 0) (sp_a 0) sd ++ wSy cI cZ cJ cu_a cu' ++ wSy cI cZ cJ sp_a sp ++ wBr cI cZ cJ w_a w_b w ++ wBr cI cZ cJ v_a v_b v ++ wWr cI cZ cJ wr_a (cb_a 0) wr ++ wRd cI cZ cJ rd_a (cb_a 0) rd ++ wCb cI cZ cJ cb_a w_a v_a cb ++ wMo cI cZ cJ mo_a mo' ++ wOu cI cZ cJ ou_a ou') : va_W).Perm ((wMo cI cZ cJ mo_a mo') ++ (wSd cI cZ cJ sd_a w_a v_a (wr_a 0) (rd_a 0) (cu_a 0) (sp_a 0) sd ++ wSy cI cZ cJ cu_a cu' ++ wSy cI cZ cJ sp_a sp ++ wBr cI cZ cJ w_a w_b w ++ wBr cI cZ cJ v_a v_b v ++ wWr cI cZ cJ wr_a (cb_a 0) wr ++ wRd cI cZ cJ rd_a (cb_a 0) rd ++ wCb cI cZ cJ cb_a w_a v_a cb ++ wOu cI cZ cJ ou_a ou')) := pm_2 _ _ _ _ _ _ _ _ _ _
    have hPc := pw_P (ws' := (wMo cI cZ cJ mo_a mo')) hP (fun q hq => pm9.mem_iff.mpr (List.mem_append_left _ hq))
    have hDc := pw_D (wc := (wMo cI cZ cJ mo_a mo')) hD pm9
    have hFc := pw_free (wc := (wMo cI cZ cJ mo_a mo')) hD hS hA (fun q hq => pm9.mem_iff.mpr (List.mem_append_left _ hq))
    refine va_calli (va_runV (As := []) (rest := []) ⟨hx, hb, hml, hown, hts⟩ (k_Model_thrown l dC dI cI cZ cJ mo_a H.size hth) (cwV 0 hts (gV t_906 t_907 t_908 t_63 t_909) rfl rfl rfl hd_Model_thrown ⟨Nat.le_trans (Nat.le_of_ble_eq_true rfl) hRf, Nat.le_trans (Nat.le_of_ble_eq_true rfl) hRl⟩) ⟨kP_blind, va_recv hK hPc (ci := 7) (q0 := 0) rfl rfl, kP_at hPc hK hDc hN⟩ rfl rfl hl.1 rfl (lv_room (Nat.le_of_ble_eq_true rfl)) d_law_278 ⟨by omega, by omega⟩) hS (fun q _ h => hFc q h) hFc (fun r9 u t H1 locs ht hvm hw hB hz1 hk1 hS => ?_)
    rw [hw]
    obtain ⟨hP, hD⟩ := pw_join (wr := (wSd cI cZ cJ sd_a w_a v_a (wr_a 0) (rd_a 0) (cu_a 0) (sp_a 0) sd ++ wSy cI cZ cJ cu_a cu' ++ wSy cI cZ cJ sp_a sp ++ wBr cI cZ cJ w_a w_b w ++ wBr cI cZ cJ v_a v_b v ++ wWr cI cZ cJ wr_a (cb_a 0) wr ++ wRd cI cZ cJ rd_a (cb_a 0) rd ++ wCb cI cZ cJ cb_a w_a v_a cb ++ wOu cI cZ cJ ou_a ou')) (w1 := (wMo cI cZ cJ mo_a mo')) hP hD pm9 ht hk1 hFc hB
    generalize H1 = H at hP hS ⊢
    have pm9 : ((wSd cI cZ cJ sd_a w_a v_a (wr_a 0) (rd_a 0) (cu_a 0) (sp_a 0) sd ++ wSy cI cZ cJ cu_a cu' ++ wSy cI cZ cJ sp_a sp ++ wBr cI cZ cJ w_a w_b w ++ wBr cI cZ cJ v_a v_b v ++ wWr cI cZ cJ wr_a (cb_a 0) wr ++ wRd cI cZ cJ rd_a (cb_a 0) rd ++ wCb cI cZ cJ cb_a w_a v_a cb ++ wOu cI cZ cJ ou_a ou') ++ (wMo cI cZ cJ mo_a mo') : va_W).Perm (wSd cI cZ cJ sd_a w_a v_a (wr_a 0) (rd_a 0) (cu_a 0) (sp_a 0) sd ++ wSy cI cZ cJ cu_a cu' ++ wSy cI cZ cJ sp_a sp ++ wBr cI cZ cJ w_a w_b w ++ wBr cI cZ cJ v_a v_b v ++ wWr cI cZ cJ wr_a (cb_a 0) wr ++ wRd cI cZ cJ rd_a (cb_a 0) rd ++ wCb cI cZ cJ cb_a w_a v_a cb ++ wMo cI cZ cJ mo_a mo' ++ wOu cI cZ cJ ou_a ou') := pm_3 _ _ _ _ _ _ _ _ _ _
    have hP : va_P (dC, dI) vwCl (wSd cI cZ cJ sd_a w_a v_a (wr_a 0) (rd_a 0) (cu_a 0) (sp_a 0) sd ++ wSy cI cZ cJ cu_a cu' ++ wSy cI cZ cJ sp_a sp ++ wBr cI cZ cJ w_a w_b w ++ wBr cI cZ cJ v_a v_b v ++ wWr cI cZ cJ wr_a (cb_a 0) wr ++ wRd cI cZ cJ rd_a (cb_a 0) rd ++ wCb cI cZ cJ cb_a w_a v_a cb ++ wMo cI cZ cJ mo_a mo' ++ wOu cI cZ cJ ou_a ou') H := pw_P hP (fun q hq => pm9.mem_iff.mpr hq)
    have hD : va_D A (wSd cI cZ cJ sd_a w_a v_a (wr_a 0) (rd_a 0) (cu_a 0) (sp_a 0) sd ++ wSy cI cZ cJ cu_a cu' ++ wSy cI cZ cJ sp_a sp ++ wBr cI cZ cJ w_a w_b w ++ wBr cI cZ cJ v_a v_b v ++ wWr cI cZ cJ wr_a (cb_a 0) wr ++ wRd cI cZ cJ rd_a (cb_a 0) rd ++ wCb cI cZ cJ cb_a w_a v_a cb ++ wMo cI cZ cJ mo_a mo' ++ wOu cI cZ cJ ou_a ou') := pw_Dp hD pm9
    refine lv_iload hx hb d_law_281 (lv_at hl 1 rfl) ?_
    refine lv_icmp_eq (tgt := 288) hx hb d_law_283 (by decide) (fun _ => ?_) (fun h9 => absurd hcode h9)
    refine lv_iload hx hb d_law_288 (lv_at hl 1 rfl) ?_
    refine lv_if_ne (tgt := 312) hx hb d_law_290 (by decide) (fun h9 => absurd rfl h9) (fun _ => ?_)
    refine lv_aload_n hx hb d_law_293 rfl (lv_at hl 5 rfl) ?_
    refine lv_iconst (v := 0) hx hb d_law_294 (by decide) ?_
    refine va_lald (f := Ou_f ou') hx hb hK hP 47 2 rfl rfl (inb_in (by decide)) d_law_295 ?_
    refine lv_iload hx hb d_law_296 (lv_at hl 0 rfl) ?_
    refine lw_zl hx hb d_law_298 d_law_301 d_law_302 d_law_305 ?_
    refine W.lcmp hx hb d_law_306 ?_
    refine lv_if_eq (tgt := 312) hx hb d_law_307 (by decide) (fun _ => ?_) (fun h9 => absurd (by rw [hou]; exact cmp_self _) h9)
    refine lv_goto (tgt := 1131) hx hb d_law_312 (by decide) ?_
    have hl := lv_sub (l' := [(0, .ref b), (1, .ref (sd_a 0)), (2, .ref (mo_a 0)), (3, .ref (ou_a 0)), (4, .int i)]) hl [2, 3, 4, 5, 6] rfl
    refine W.widen (k := j + 1 + Br_byL w + Br_byL v) (n := 6 * (j + 1) + 2 * Br_byL w + 2 * Br_byL v) (by omega) (by omega) ?_
    exact hk _ _ _ cu_a sp_a w_b v_b cu' sp w v wr rd cb mo' ou' hrel hP hD hS hl
  · refine lv_aload_n hx hb d_law_200 rfl (lv_at hl 1 rfl) ?_
    refine lv_aload_n hx hb d_law_201 rfl (lv_at hl 0 rfl) ?_
    refine lv_iload hx hb d_law_202 (lv_at hl 4 rfl) ?_
    refine lv_iconst (v := 1) hx hb d_law_204 (by decide) ?_
    refine lv_iadd hx hb d_law_205 ?_
    refine va_sld hx hb hX0 hbl hbA hS (hin 1 (by decide) (by decide)) d_law_206 ?_
    refine lv_aload_n hx hb d_law_207 rfl (lv_at hl 0 rfl) ?_
    refine lv_iload hx hb d_law_208 (lv_at hl 4 rfl) ?_
    refine lv_iconst (v := 2) hx hb d_law_210 (by decide) ?_
    refine lv_iadd hx hb d_law_211 ?_
    refine va_sld hx hb hX0 hbl hbA hS (hin 2 (by decide) (by decide)) d_law_212 ?_
    refine lv_aload_n hx hb d_law_213 rfl (lv_at hl 0 rfl) ?_
    refine lv_iload hx hb d_law_214 (lv_at hl 4 rfl) ?_
    refine lv_iconst (v := 3) hx hb d_law_216 (by decide) ?_
    refine lv_iadd hx hb d_law_217 ?_
    refine va_sld hx hb hX0 hbl hbA hS (hin 3 (by decide) (by decide)) d_law_218 ?_
    refine lv_aload_n hx hb d_law_219 rfl (lv_at hl 0 rfl) ?_
    refine lv_iload hx hb d_law_220 (lv_at hl 4 rfl) ?_
    refine lv_iconst (v := 4) hx hb d_law_222 (by decide) ?_
    refine lv_iadd hx hb d_law_223 ?_
    refine va_sld hx hb hX0 hbl hbA hS (hin 4 (by decide) (by decide)) d_law_224 ?_
    refine lw_zb hx hb d_law_225 d_law_228 d_law_229 d_law_232 ?_
    refine lv_aload_n hx hb d_law_233 rfl (lv_at hl 3 rfl) ?_
    have pm9 : ((wSd cI cZ cJ sd_a w_a v_a (wr_a 0) (rd_a 0) (cu_a 0) (sp_a 0) sd ++ wSy cI cZ cJ cu_a cu ++ wSy cI cZ cJ sp_a sp ++ wBr cI cZ cJ w_a w_b w ++ wBr cI cZ cJ v_a v_b v ++ wWr cI cZ cJ wr_a (cb_a 0) wr ++ wRd cI cZ cJ rd_a (cb_a 0) rd ++ wCb cI cZ cJ cb_a w_a v_a cb ++ wMo cI cZ cJ mo_a mo ++ wOu cI cZ cJ ou_a ou) : va_W).Perm ((wSd cI cZ cJ sd_a w_a v_a (wr_a 0) (rd_a 0) (cu_a 0) (sp_a 0) sd ++ wSy cI cZ cJ cu_a cu ++ wOu cI cZ cJ ou_a ou) ++ (wSy cI cZ cJ sp_a sp ++ wBr cI cZ cJ w_a w_b w ++ wBr cI cZ cJ v_a v_b v ++ wWr cI cZ cJ wr_a (cb_a 0) wr ++ wRd cI cZ cJ rd_a (cb_a 0) rd ++ wCb cI cZ cJ cb_a w_a v_a cb ++ wMo cI cZ cJ mo_a mo)) := pm_0 _ _ _ _ _ _ _ _ _ _
    have hPc := pw_P (ws' := (wSd cI cZ cJ sd_a w_a v_a (wr_a 0) (rd_a 0) (cu_a 0) (sp_a 0) sd ++ wSy cI cZ cJ cu_a cu ++ wOu cI cZ cJ ou_a ou)) hP (fun q hq => pm9.mem_iff.mpr (List.mem_append_left _ hq))
    have hDc := pw_D (wc := (wSd cI cZ cJ sd_a w_a v_a (wr_a 0) (rd_a 0) (cu_a 0) (sp_a 0) sd ++ wSy cI cZ cJ cu_a cu ++ wOu cI cZ cJ ou_a ou)) hD pm9
    have hFc := pw_free (wc := (wSd cI cZ cJ sd_a w_a v_a (wr_a 0) (rd_a 0) (cu_a 0) (sp_a 0) sd ++ wSy cI cZ cJ cu_a cu ++ wOu cI cZ cJ ou_a ou)) hD hS hA (fun q hq => pm9.mem_iff.mpr (List.mem_append_left _ hq))
    refine va_calli (w_runS (As := [.ref (sd_a 0), .int (xs (i + 1).toNatClampNeg), .int (xs (i + 2).toNatClampNeg), .int (xs (i + 3).toNatClampNeg), .int (zb (xs (i + 4).toNatClampNeg)), .ref (ou_a 0)]) (rest := []) ⟨hx, hb, hml, hown, hts⟩ (kx_Law_put_3 l hl9 dC dI cI cZ cJ sd_a cu_a ou_a w_a v_a (wr_a 0) (rd_a 0) (sp_a 0) H.size hf) (cwH_of 6 hts t_654 rfl rfl t_53 t_652 t_653 hd_Law_put.2 ⟨Nat.le_trans (Nat.le_of_ble_eq_true rfl) hRf, Nat.le_trans (Nat.le_of_ble_eq_true rfl) hRl⟩) ⟨kPX_blind, kPX_at hPc hK hDc hN (fun q hq => hS.2.1 q hq (fun h9 => absurd (hA2 q h9) (Nat.not_le.mpr hq))) hT hX⟩ rfl rfl hl.1 rfl (lv_room (Nat.le_of_ble_eq_true rfl)) d_law_234 ⟨by omega, by omega⟩) hS (fun q _ h => hFc q h) hFc (fun r9 u t H1 locs ht hvm hw hB hz1 hk1 hS => ?_)
    rw [hw]
    obtain ⟨hP, hD⟩ := pw_join (wr := (wSy cI cZ cJ sp_a sp ++ wBr cI cZ cJ w_a w_b w ++ wBr cI cZ cJ v_a v_b v ++ wWr cI cZ cJ wr_a (cb_a 0) wr ++ wRd cI cZ cJ rd_a (cb_a 0) rd ++ wCb cI cZ cJ cb_a w_a v_a cb ++ wMo cI cZ cJ mo_a mo)) (w1 := (wSd cI cZ cJ sd_a w_a v_a (wr_a 0) (rd_a 0) (cu_a 0) (sp_a 0) sd ++ wSy cI cZ cJ cu_a cu ++ wOu cI cZ cJ ou_a ou)) hP hD pm9 ht hk1 hFc hB
    generalize H1 = H at hP hS ⊢
    have pm9 : ((wSy cI cZ cJ sp_a sp ++ wBr cI cZ cJ w_a w_b w ++ wBr cI cZ cJ v_a v_b v ++ wWr cI cZ cJ wr_a (cb_a 0) wr ++ wRd cI cZ cJ rd_a (cb_a 0) rd ++ wCb cI cZ cJ cb_a w_a v_a cb ++ wMo cI cZ cJ mo_a mo) ++ (wSd cI cZ cJ sd_a w_a v_a (wr_a 0) (rd_a 0) (cu_a 0) (sp_a 0) sd ++ wSy cI cZ cJ cu_a cu ++ wOu cI cZ cJ ou_a ou) : va_W).Perm (wSd cI cZ cJ sd_a w_a v_a (wr_a 0) (rd_a 0) (cu_a 0) (sp_a 0) sd ++ wSy cI cZ cJ cu_a cu ++ wSy cI cZ cJ sp_a sp ++ wBr cI cZ cJ w_a w_b w ++ wBr cI cZ cJ v_a v_b v ++ wWr cI cZ cJ wr_a (cb_a 0) wr ++ wRd cI cZ cJ rd_a (cb_a 0) rd ++ wCb cI cZ cJ cb_a w_a v_a cb ++ wMo cI cZ cJ mo_a mo ++ wOu cI cZ cJ ou_a ou) := pm_1 _ _ _ _ _ _ _ _ _ _
    have hP : va_P (dC, dI) vwCl (wSd cI cZ cJ sd_a w_a v_a (wr_a 0) (rd_a 0) (cu_a 0) (sp_a 0) sd ++ wSy cI cZ cJ cu_a cu ++ wSy cI cZ cJ sp_a sp ++ wBr cI cZ cJ w_a w_b w ++ wBr cI cZ cJ v_a v_b v ++ wWr cI cZ cJ wr_a (cb_a 0) wr ++ wRd cI cZ cJ rd_a (cb_a 0) rd ++ wCb cI cZ cJ cb_a w_a v_a cb ++ wMo cI cZ cJ mo_a mo ++ wOu cI cZ cJ ou_a ou) H := pw_P hP (fun q hq => pm9.mem_iff.mpr hq)
    have hD : va_D A (wSd cI cZ cJ sd_a w_a v_a (wr_a 0) (rd_a 0) (cu_a 0) (sp_a 0) sd ++ wSy cI cZ cJ cu_a cu ++ wSy cI cZ cJ sp_a sp ++ wBr cI cZ cJ w_a w_b w ++ wBr cI cZ cJ v_a v_b v ++ wWr cI cZ cJ wr_a (cb_a 0) wr ++ wRd cI cZ cJ rd_a (cb_a 0) rd ++ wCb cI cZ cJ cb_a w_a v_a cb ++ wMo cI cZ cJ mo_a mo ++ wOu cI cZ cJ ou_a ou) := pw_Dp hD pm9
    refine lv_istore (lv' := [(5, .int 1), (0, .ref b), (1, .ref (sd_a 0)), (2, .ref (mo_a 0)), (3, .ref (ou_a 0)), (4, .int i)]) hx hb d_law_237 hl (by decide) rfl (fun ls hl => ?_)
    refine lv_aload_n hx hb d_law_239 rfl (lv_at hl 3 rfl) ?_
    refine lv_aload_n hx hb d_law_240 rfl (lv_at hl 1 rfl) ?_
    refine lv_iload hx hb d_law_241 (lv_at hl 5 rfl) ?_
    refine lv_iconst (v := 1) hx hb d_law_243 (by decide) ?_
    refine lv_iadd hx hb d_law_244 ?_
    refine va_sld hx hb hX0 hbl hbA hS (hin 1 (by decide) (by decide)) d_law_245 ?_
    refine lv_aload_n hx hb d_law_246 rfl (lv_at hl 1 rfl) ?_
    refine lv_iload hx hb d_law_247 (lv_at hl 5 rfl) ?_
    refine lv_iconst (v := 2) hx hb d_law_249 (by decide) ?_
    refine lv_iadd hx hb d_law_250 ?_
    refine va_sld hx hb hX0 hbl hbA hS (hin 2 (by decide) (by decide)) d_law_251 ?_
    refine lv_aload_n hx hb d_law_252 rfl (lv_at hl 1 rfl) ?_
    refine lv_iload hx hb d_law_253 (lv_at hl 5 rfl) ?_
    refine lv_iconst (v := 3) hx hb d_law_255 (by decide) ?_
    refine lv_iadd hx hb d_law_256 ?_
    refine va_sld hx hb hX0 hbl hbA hS (hin 3 (by decide) (by decide)) d_law_257 ?_
    refine lv_aload_n hx hb d_law_258 rfl (lv_at hl 1 rfl) ?_
    refine lv_iload hx hb d_law_259 (lv_at hl 5 rfl) ?_
    refine lv_iconst (v := 4) hx hb d_law_261 (by decide) ?_
    refine lv_iadd hx hb d_law_262 ?_
    refine va_sld hx hb hX0 hbl hbA hS (hin 4 (by decide) (by decide)) d_law_263 ?_
    refine lw_zb hx hb d_law_264 d_law_267 d_law_268 d_law_271 ?_
    have pm9 : ((wSd cI cZ cJ sd_a w_a v_a (wr_a 0) (rd_a 0) (cu_a 0) (sp_a 0) sd ++ wSy cI cZ cJ cu_a cu ++ wSy cI cZ cJ sp_a sp ++ wBr cI cZ cJ w_a w_b w ++ wBr cI cZ cJ v_a v_b v ++ wWr cI cZ cJ wr_a (cb_a 0) wr ++ wRd cI cZ cJ rd_a (cb_a 0) rd ++ wCb cI cZ cJ cb_a w_a v_a cb ++ wMo cI cZ cJ mo_a mo ++ wOu cI cZ cJ ou_a ou) : va_W).Perm ((wMo cI cZ cJ mo_a mo) ++ (wSd cI cZ cJ sd_a w_a v_a (wr_a 0) (rd_a 0) (cu_a 0) (sp_a 0) sd ++ wSy cI cZ cJ cu_a cu ++ wSy cI cZ cJ sp_a sp ++ wBr cI cZ cJ w_a w_b w ++ wBr cI cZ cJ v_a v_b v ++ wWr cI cZ cJ wr_a (cb_a 0) wr ++ wRd cI cZ cJ rd_a (cb_a 0) rd ++ wCb cI cZ cJ cb_a w_a v_a cb ++ wOu cI cZ cJ ou_a ou)) := pm_2 _ _ _ _ _ _ _ _ _ _
    have hPc := pw_P (ws' := (wMo cI cZ cJ mo_a mo)) hP (fun q hq => pm9.mem_iff.mpr (List.mem_append_left _ hq))
    have hDc := pw_D (wc := (wMo cI cZ cJ mo_a mo)) hD pm9
    have hFc := pw_free (wc := (wMo cI cZ cJ mo_a mo)) hD hS hA (fun q hq => pm9.mem_iff.mpr (List.mem_append_left _ hq))
    refine va_calli (va_runV (As := [.int (xs (i + 1).toNatClampNeg), .int (xs (i + 2).toNatClampNeg), .int (xs (i + 3).toNatClampNeg), .int (zb (xs (i + 4).toNatClampNeg))]) (rest := []) ⟨hx, hb, hml, hown, hts⟩ (k_Model_put l dC dI cI cZ cJ mo_a H.size hg) (cwV 4 hts (gV t_918 t_919 t_920 t_63 t_921) rfl rfl rfl hd_Model_put ⟨Nat.le_trans (Nat.le_of_ble_eq_true rfl) hRf, Nat.le_trans (Nat.le_of_ble_eq_true rfl) hRl⟩) ⟨kP_blind, va_recv hK hPc (ci := 7) (q0 := 0) rfl rfl, kP_at hPc hK hDc hN⟩ rfl rfl hl.1 rfl (lv_room (Nat.le_of_ble_eq_true rfl)) d_law_272 ⟨by omega, by omega⟩) hS (fun q _ h => hFc q h) hFc (fun r9 u t H1 locs ht hvm hw hB hz1 hk1 hS => ?_)
    rw [hw.1]
    obtain ⟨hP, hD⟩ := pw_join (wr := (wSd cI cZ cJ sd_a w_a v_a (wr_a 0) (rd_a 0) (cu_a 0) (sp_a 0) sd ++ wSy cI cZ cJ cu_a cu ++ wSy cI cZ cJ sp_a sp ++ wBr cI cZ cJ w_a w_b w ++ wBr cI cZ cJ v_a v_b v ++ wWr cI cZ cJ wr_a (cb_a 0) wr ++ wRd cI cZ cJ rd_a (cb_a 0) rd ++ wCb cI cZ cJ cb_a w_a v_a cb ++ wOu cI cZ cJ ou_a ou)) (w1 := (wMo cI cZ cJ mo_a mo')) hP hD pm9 ht hk1 hFc hB
    generalize H1 = H at hP hS ⊢
    have pm9 : ((wSd cI cZ cJ sd_a w_a v_a (wr_a 0) (rd_a 0) (cu_a 0) (sp_a 0) sd ++ wSy cI cZ cJ cu_a cu ++ wSy cI cZ cJ sp_a sp ++ wBr cI cZ cJ w_a w_b w ++ wBr cI cZ cJ v_a v_b v ++ wWr cI cZ cJ wr_a (cb_a 0) wr ++ wRd cI cZ cJ rd_a (cb_a 0) rd ++ wCb cI cZ cJ cb_a w_a v_a cb ++ wOu cI cZ cJ ou_a ou) ++ (wMo cI cZ cJ mo_a mo') : va_W).Perm (wSd cI cZ cJ sd_a w_a v_a (wr_a 0) (rd_a 0) (cu_a 0) (sp_a 0) sd ++ wSy cI cZ cJ cu_a cu ++ wSy cI cZ cJ sp_a sp ++ wBr cI cZ cJ w_a w_b w ++ wBr cI cZ cJ v_a v_b v ++ wWr cI cZ cJ wr_a (cb_a 0) wr ++ wRd cI cZ cJ rd_a (cb_a 0) rd ++ wCb cI cZ cJ cb_a w_a v_a cb ++ wMo cI cZ cJ mo_a mo' ++ wOu cI cZ cJ ou_a ou) := pm_3 _ _ _ _ _ _ _ _ _ _
    have hP : va_P (dC, dI) vwCl (wSd cI cZ cJ sd_a w_a v_a (wr_a 0) (rd_a 0) (cu_a 0) (sp_a 0) sd ++ wSy cI cZ cJ cu_a cu ++ wSy cI cZ cJ sp_a sp ++ wBr cI cZ cJ w_a w_b w ++ wBr cI cZ cJ v_a v_b v ++ wWr cI cZ cJ wr_a (cb_a 0) wr ++ wRd cI cZ cJ rd_a (cb_a 0) rd ++ wCb cI cZ cJ cb_a w_a v_a cb ++ wMo cI cZ cJ mo_a mo' ++ wOu cI cZ cJ ou_a ou) H := pw_P hP (fun q hq => pm9.mem_iff.mpr hq)
    have hD : va_D A (wSd cI cZ cJ sd_a w_a v_a (wr_a 0) (rd_a 0) (cu_a 0) (sp_a 0) sd ++ wSy cI cZ cJ cu_a cu ++ wSy cI cZ cJ sp_a sp ++ wBr cI cZ cJ w_a w_b w ++ wBr cI cZ cJ v_a v_b v ++ wWr cI cZ cJ wr_a (cb_a 0) wr ++ wRd cI cZ cJ rd_a (cb_a 0) rd ++ wCb cI cZ cJ cb_a w_a v_a cb ++ wMo cI cZ cJ mo_a mo' ++ wOu cI cZ cJ ou_a ou) := pw_Dp hD pm9
    refine lv_istore (lv' := [(6, .int q), (5, .int 1), (0, .ref b), (1, .ref (sd_a 0)), (2, .ref (mo_a 0)), (3, .ref (ou_a 0)), (4, .int i)]) hx hb d_law_275 hl (by decide) rfl (fun ls hl => ?_)
    refine lv_aload_n hx hb d_law_277 rfl (lv_at hl 4 rfl) ?_
    have hth : f_Model_thrown mo' = some (Mo_code mo') := rfl
    have pm9 : ((wSd cI cZ cJ sd_a w_a v_a (wr_a 0) (rd_a 0) (cu_a 0) (sp_a 0) sd ++ wSy cI cZ cJ cu_a cu ++ wSy cI cZ cJ sp_a sp ++ wBr cI cZ cJ w_a w_b w ++ wBr cI cZ cJ v_a v_b v ++ wWr cI cZ cJ wr_a (cb_a 0) wr ++ wRd cI cZ cJ rd_a (cb_a 0) rd ++ wCb cI cZ cJ cb_a w_a v_a cb ++ wMo cI cZ cJ mo_a mo' ++ wOu cI cZ cJ ou_a ou) : va_W).Perm ((wMo cI cZ cJ mo_a mo') ++ (wSd cI cZ cJ sd_a w_a v_a (wr_a 0) (rd_a 0) (cu_a 0) (sp_a 0) sd ++ wSy cI cZ cJ cu_a cu ++ wSy cI cZ cJ sp_a sp ++ wBr cI cZ cJ w_a w_b w ++ wBr cI cZ cJ v_a v_b v ++ wWr cI cZ cJ wr_a (cb_a 0) wr ++ wRd cI cZ cJ rd_a (cb_a 0) rd ++ wCb cI cZ cJ cb_a w_a v_a cb ++ wOu cI cZ cJ ou_a ou)) := pm_2 _ _ _ _ _ _ _ _ _ _
    have hPc := pw_P (ws' := (wMo cI cZ cJ mo_a mo')) hP (fun q hq => pm9.mem_iff.mpr (List.mem_append_left _ hq))
    have hDc := pw_D (wc := (wMo cI cZ cJ mo_a mo')) hD pm9
    have hFc := pw_free (wc := (wMo cI cZ cJ mo_a mo')) hD hS hA (fun q hq => pm9.mem_iff.mpr (List.mem_append_left _ hq))
    refine va_calli (va_runV (As := []) (rest := []) ⟨hx, hb, hml, hown, hts⟩ (k_Model_thrown l dC dI cI cZ cJ mo_a H.size hth) (cwV 0 hts (gV t_906 t_907 t_908 t_63 t_909) rfl rfl rfl hd_Model_thrown ⟨Nat.le_trans (Nat.le_of_ble_eq_true rfl) hRf, Nat.le_trans (Nat.le_of_ble_eq_true rfl) hRl⟩) ⟨kP_blind, va_recv hK hPc (ci := 7) (q0 := 0) rfl rfl, kP_at hPc hK hDc hN⟩ rfl rfl hl.1 rfl (lv_room (Nat.le_of_ble_eq_true rfl)) d_law_278 ⟨by omega, by omega⟩) hS (fun q _ h => hFc q h) hFc (fun r9 u t H1 locs ht hvm hw hB hz1 hk1 hS => ?_)
    rw [hw]
    obtain ⟨hP, hD⟩ := pw_join (wr := (wSd cI cZ cJ sd_a w_a v_a (wr_a 0) (rd_a 0) (cu_a 0) (sp_a 0) sd ++ wSy cI cZ cJ cu_a cu ++ wSy cI cZ cJ sp_a sp ++ wBr cI cZ cJ w_a w_b w ++ wBr cI cZ cJ v_a v_b v ++ wWr cI cZ cJ wr_a (cb_a 0) wr ++ wRd cI cZ cJ rd_a (cb_a 0) rd ++ wCb cI cZ cJ cb_a w_a v_a cb ++ wOu cI cZ cJ ou_a ou)) (w1 := (wMo cI cZ cJ mo_a mo')) hP hD pm9 ht hk1 hFc hB
    generalize H1 = H at hP hS ⊢
    have pm9 : ((wSd cI cZ cJ sd_a w_a v_a (wr_a 0) (rd_a 0) (cu_a 0) (sp_a 0) sd ++ wSy cI cZ cJ cu_a cu ++ wSy cI cZ cJ sp_a sp ++ wBr cI cZ cJ w_a w_b w ++ wBr cI cZ cJ v_a v_b v ++ wWr cI cZ cJ wr_a (cb_a 0) wr ++ wRd cI cZ cJ rd_a (cb_a 0) rd ++ wCb cI cZ cJ cb_a w_a v_a cb ++ wOu cI cZ cJ ou_a ou) ++ (wMo cI cZ cJ mo_a mo') : va_W).Perm (wSd cI cZ cJ sd_a w_a v_a (wr_a 0) (rd_a 0) (cu_a 0) (sp_a 0) sd ++ wSy cI cZ cJ cu_a cu ++ wSy cI cZ cJ sp_a sp ++ wBr cI cZ cJ w_a w_b w ++ wBr cI cZ cJ v_a v_b v ++ wWr cI cZ cJ wr_a (cb_a 0) wr ++ wRd cI cZ cJ rd_a (cb_a 0) rd ++ wCb cI cZ cJ cb_a w_a v_a cb ++ wMo cI cZ cJ mo_a mo' ++ wOu cI cZ cJ ou_a ou) := pm_3 _ _ _ _ _ _ _ _ _ _
    have hP : va_P (dC, dI) vwCl (wSd cI cZ cJ sd_a w_a v_a (wr_a 0) (rd_a 0) (cu_a 0) (sp_a 0) sd ++ wSy cI cZ cJ cu_a cu ++ wSy cI cZ cJ sp_a sp ++ wBr cI cZ cJ w_a w_b w ++ wBr cI cZ cJ v_a v_b v ++ wWr cI cZ cJ wr_a (cb_a 0) wr ++ wRd cI cZ cJ rd_a (cb_a 0) rd ++ wCb cI cZ cJ cb_a w_a v_a cb ++ wMo cI cZ cJ mo_a mo' ++ wOu cI cZ cJ ou_a ou) H := pw_P hP (fun q hq => pm9.mem_iff.mpr hq)
    have hD : va_D A (wSd cI cZ cJ sd_a w_a v_a (wr_a 0) (rd_a 0) (cu_a 0) (sp_a 0) sd ++ wSy cI cZ cJ cu_a cu ++ wSy cI cZ cJ sp_a sp ++ wBr cI cZ cJ w_a w_b w ++ wBr cI cZ cJ v_a v_b v ++ wWr cI cZ cJ wr_a (cb_a 0) wr ++ wRd cI cZ cJ rd_a (cb_a 0) rd ++ wCb cI cZ cJ cb_a w_a v_a cb ++ wMo cI cZ cJ mo_a mo' ++ wOu cI cZ cJ ou_a ou) := pw_Dp hD pm9
    refine lv_iload hx hb d_law_281 (lv_at hl 1 rfl) ?_
    refine lv_icmp_eq (tgt := 288) hx hb d_law_283 (by decide) (fun _ => ?_) (fun h9 => absurd hcode h9)
    refine lv_iload hx hb d_law_288 (lv_at hl 1 rfl) ?_
    refine lv_if_ne (tgt := 312) hx hb d_law_290 (by decide) (fun _ => ?_) (fun h9 => absurd h9 (by decide))
    refine lv_goto (tgt := 1131) hx hb d_law_312 (by decide) ?_
    have hl := lv_sub (l' := [(0, .ref b), (1, .ref (sd_a 0)), (2, .ref (mo_a 0)), (3, .ref (ou_a 0)), (4, .int i)]) hl [2, 3, 4, 5, 6] rfl
    refine W.widen (k := j + 1 + Br_byL w + Br_byL v) (n := 6 * (j + 1) + 2 * Br_byL w + 2 * Br_byL v) (by omega) (by omega) ?_
    exact hk _ _ _ cu_a sp_a w_b v_b cu sp w v wr rd cb mo' ou hrel hP hD hS hl
set_option maxHeartbeats 8000000 in
set_option maxRecDepth 100000 in
theorem L_C_row {p : Program} {l : Launch} {e : Env} {R : Room} {s : State} {m : MethodId} {args : Array Value} {below : List Frame} {meth : Method} {c : Code} {Q : State → Prop} {A : Nat → Prop} {dC : Nat → ClassId} {dI : Nat → Nat → Nat} {cI cZ cJ : ClassId} {sd_a cu_a sp_a : Nat → Nat} {w_a w_b v_a v_b : Nat} {wr_a rd_a cb_a mo_a ou_a : Nat → Nat} {sd : Sd} {cu sp : Sy} {w v : Br} {wr : Wr} {rd : Rd} {cb : Cb} {mo : Mo} {ou : Ou} {b L : Nat} {xs : Nat → Int32} {i : Int32} {j : Nat} {Rl : Sd → Sy → Sy → Br → Br → Wr → Rd → Cb → Mo → Prop} (hl9 : l.stackTraces = false) (C0 : lcx p c m s args R (dC, dI) (TYS cI cZ cJ) A b L xs i j) (hRb : ∀ sd cu sp w v wr rd cb mo, Rl sd cu sp w v wr rd cb mo → Br_byL w ≤ 40000 ∧ Br_byL v ≤ 40000) (hR0 : Rl sd cu sp w v wr rd cb mo) (hT0 : T_C_row Rl sd cu sp w v wr rd cb mo (xs (i + 1).toNatClampNeg) (xs (i + 2).toNatClampNeg) (xs (i + 3).toNatClampNeg))
    (hk : ∀ (H : Heap) (locs : List Loc) (ls : Array Slot) (cu_a sp_a : Nat → Nat) (w_b v_b : Nat) (cu sp : Sy) (w v : Br) (wr : Wr) (rd : Rd) (cb : Cb) (mo : Mo) (ou : Ou), Rl sd cu sp w v wr rd cb mo → va_P (dC, dI) vwCl (wSd cI cZ cJ sd_a w_a v_a (wr_a 0) (rd_a 0) (cu_a 0) (sp_a 0) sd ++ wSy cI cZ cJ cu_a cu ++ wSy cI cZ cJ sp_a sp ++ wBr cI cZ cJ w_a w_b w ++ wBr cI cZ cJ v_a v_b v ++ wWr cI cZ cJ wr_a (cb_a 0) wr ++ wRd cI cZ cJ rd_a (cb_a 0) rd ++ wCb cI cZ cJ cb_a w_a v_a cb ++ wMo cI cZ cJ mo_a mo ++ wOu cI cZ cJ ou_a ou) H → va_D A (wSd cI cZ cJ sd_a w_a v_a (wr_a 0) (rd_a 0) (cu_a 0) (sp_a 0) sd ++ wSy cI cZ cJ cu_a cu ++ wSy cI cZ cJ sp_a sp ++ wBr cI cZ cJ w_a w_b w ++ wBr cI cZ cJ v_a v_b v ++ wWr cI cZ cJ wr_a (cb_a 0) wr ++ wRd cI cZ cJ rd_a (cb_a 0) rd ++ wCb cI cZ cJ cb_a w_a v_a cb ++ wMo cI cZ cJ mo_a mo ++ wOu cI cZ cJ ou_a ou) → va_S A s.heap H locs → lv_has ls 7 [(0, .ref b), (1, .ref (sd_a 0)), (2, .ref (mo_a 0)), (3, .ref (ou_a 0)), (4, .int i)] → W p l e R s m args below meth c H locs (j + 1 + Br_byL w + Br_byL v) (6 * (j + 1) + 2 * Br_byL w + 2 * Br_byL v) Q (F0 m 1131 ls []))
    {H : Heap} {locs : List Loc} {ls : Array Slot} (hP : va_P (dC, dI) vwCl (wSd cI cZ cJ sd_a w_a v_a (wr_a 0) (rd_a 0) (cu_a 0) (sp_a 0) sd ++ wSy cI cZ cJ cu_a cu ++ wSy cI cZ cJ sp_a sp ++ wBr cI cZ cJ w_a w_b w ++ wBr cI cZ cJ v_a v_b v ++ wWr cI cZ cJ wr_a (cb_a 0) wr ++ wRd cI cZ cJ rd_a (cb_a 0) rd ++ wCb cI cZ cJ cb_a w_a v_a cb ++ wMo cI cZ cJ mo_a mo ++ wOu cI cZ cJ ou_a ou) H) (hD : va_D A (wSd cI cZ cJ sd_a w_a v_a (wr_a 0) (rd_a 0) (cu_a 0) (sp_a 0) sd ++ wSy cI cZ cJ cu_a cu ++ wSy cI cZ cJ sp_a sp ++ wBr cI cZ cJ w_a w_b w ++ wBr cI cZ cJ v_a v_b v ++ wWr cI cZ cJ wr_a (cb_a 0) wr ++ wRd cI cZ cJ rd_a (cb_a 0) rd ++ wCb cI cZ cJ cb_a w_a v_a cb ++ wMo cI cZ cJ mo_a mo ++ wOu cI cZ cJ ou_a ou)) (hS : va_S A s.heap H locs) (hl : lv_has ls 7 [(0, .ref b), (1, .ref (sd_a 0)), (2, .ref (mo_a 0)), (3, .ref (ou_a 0)), (4, .int i)]) : W p l e R s m args below meth c H locs (j + Br_byL w + Br_byL v) (6 * j + 2 * Br_byL w + 2 * Br_byL v) Q (F0 m 315 ls []) := by
  obtain ⟨hx, hb, hml, hown, hts, hK, hA, hA2, hRf, hRl, hN, hT, hX, hX0, hbl, hin, hj, hRc, hRs⟩ := C0
  have hbA : ¬ A b := fun h => absurd (hA2 b h) (Nat.not_le.mpr hbl)
  obtain ⟨hw0, hv0⟩ := hRb _ _ _ _ _ _ _ _ _ hR0
  unfold T_C_row at hT0
  rcases hT0 with ⟨r, cu', mo', hf, hg, hcode, hrel⟩ | ⟨hf, q, mo', hg, hcode, hrel⟩
  · obtain ⟨ou', heou⟩ : ∃ z : Ou, z = (vp_updL (Ou_f ou) 0 r.toInt64) := ⟨_, rfl⟩
    have hf1 : f_Law_row sd cu ou (xs (i + 1).toNatClampNeg) (xs (i + 2).toNatClampNeg) (xs (i + 3).toNatClampNeg) = some (0, cu', ou') := by
      rw [f_Law_row, hf, bd_s, heou]
      rfl
    have hou : Ou_f ou' (0 : Int32).toNatClampNeg = r.toInt64 := by rw [heou]; exact updL_at _ _ _
    refine lv_aload_n hx hb d_law_315 rfl (lv_at hl 1 rfl) ?_
    refine lv_aload_n hx hb d_law_316 rfl (lv_at hl 0 rfl) ?_
    refine lv_iload hx hb d_law_317 (lv_at hl 4 rfl) ?_
    refine lv_iconst (v := 1) hx hb d_law_319 (by decide) ?_
    refine lv_iadd hx hb d_law_320 ?_
    refine va_sld hx hb hX0 hbl hbA hS (hin 1 (by decide) (by decide)) d_law_321 ?_
    refine lv_aload_n hx hb d_law_322 rfl (lv_at hl 0 rfl) ?_
    refine lv_iload hx hb d_law_323 (lv_at hl 4 rfl) ?_
    refine lv_iconst (v := 2) hx hb d_law_325 (by decide) ?_
    refine lv_iadd hx hb d_law_326 ?_
    refine va_sld hx hb hX0 hbl hbA hS (hin 2 (by decide) (by decide)) d_law_327 ?_
    refine lv_aload_n hx hb d_law_328 rfl (lv_at hl 0 rfl) ?_
    refine lv_iload hx hb d_law_329 (lv_at hl 4 rfl) ?_
    refine lv_iconst (v := 3) hx hb d_law_331 (by decide) ?_
    refine lv_iadd hx hb d_law_332 ?_
    refine va_sld hx hb hX0 hbl hbA hS (hin 3 (by decide) (by decide)) d_law_333 ?_
    refine lv_aload_n hx hb d_law_334 rfl (lv_at hl 3 rfl) ?_
    have pm9 : ((wSd cI cZ cJ sd_a w_a v_a (wr_a 0) (rd_a 0) (cu_a 0) (sp_a 0) sd ++ wSy cI cZ cJ cu_a cu ++ wSy cI cZ cJ sp_a sp ++ wBr cI cZ cJ w_a w_b w ++ wBr cI cZ cJ v_a v_b v ++ wWr cI cZ cJ wr_a (cb_a 0) wr ++ wRd cI cZ cJ rd_a (cb_a 0) rd ++ wCb cI cZ cJ cb_a w_a v_a cb ++ wMo cI cZ cJ mo_a mo ++ wOu cI cZ cJ ou_a ou) : va_W).Perm ((wSd cI cZ cJ sd_a w_a v_a (wr_a 0) (rd_a 0) (cu_a 0) (sp_a 0) sd ++ wSy cI cZ cJ cu_a cu ++ wOu cI cZ cJ ou_a ou) ++ (wSy cI cZ cJ sp_a sp ++ wBr cI cZ cJ w_a w_b w ++ wBr cI cZ cJ v_a v_b v ++ wWr cI cZ cJ wr_a (cb_a 0) wr ++ wRd cI cZ cJ rd_a (cb_a 0) rd ++ wCb cI cZ cJ cb_a w_a v_a cb ++ wMo cI cZ cJ mo_a mo)) := pm_0 _ _ _ _ _ _ _ _ _ _
    have hPc := pw_P (ws' := (wSd cI cZ cJ sd_a w_a v_a (wr_a 0) (rd_a 0) (cu_a 0) (sp_a 0) sd ++ wSy cI cZ cJ cu_a cu ++ wOu cI cZ cJ ou_a ou)) hP (fun q hq => pm9.mem_iff.mpr (List.mem_append_left _ hq))
    have hDc := pw_D (wc := (wSd cI cZ cJ sd_a w_a v_a (wr_a 0) (rd_a 0) (cu_a 0) (sp_a 0) sd ++ wSy cI cZ cJ cu_a cu ++ wOu cI cZ cJ ou_a ou)) hD pm9
    have hFc := pw_free (wc := (wSd cI cZ cJ sd_a w_a v_a (wr_a 0) (rd_a 0) (cu_a 0) (sp_a 0) sd ++ wSy cI cZ cJ cu_a cu ++ wOu cI cZ cJ ou_a ou)) hD hS hA (fun q hq => pm9.mem_iff.mpr (List.mem_append_left _ hq))
    refine va_calli (w_runS (As := [.ref (sd_a 0), .int (xs (i + 1).toNatClampNeg), .int (xs (i + 2).toNatClampNeg), .int (xs (i + 3).toNatClampNeg), .ref (ou_a 0)]) (rest := []) ⟨hx, hb, hml, hown, hts⟩ (k_Law_row l dC dI cI cZ cJ sd_a cu_a ou_a w_a v_a (wr_a 0) (rd_a 0) (sp_a 0) H.size hf1) (cwH_of 5 hts t_692 rfl rfl t_53 t_690 t_691 hd_Law_row.2 ⟨Nat.le_trans (Nat.le_of_ble_eq_true rfl) hRf, Nat.le_trans (Nat.le_of_ble_eq_true rfl) hRl⟩) ⟨kP_blind, kP_at hPc hK hDc hN⟩ rfl rfl hl.1 rfl (lv_room (Nat.le_of_ble_eq_true rfl)) d_law_335 ⟨by omega, by omega⟩) hS (fun q _ h => hFc q h) hFc (fun r9 u t H1 locs ht hvm hw hB hz1 hk1 hS => ?_)
    rw [hw]
    obtain ⟨hP, hD⟩ := pw_join (wr := (wSy cI cZ cJ sp_a sp ++ wBr cI cZ cJ w_a w_b w ++ wBr cI cZ cJ v_a v_b v ++ wWr cI cZ cJ wr_a (cb_a 0) wr ++ wRd cI cZ cJ rd_a (cb_a 0) rd ++ wCb cI cZ cJ cb_a w_a v_a cb ++ wMo cI cZ cJ mo_a mo)) (w1 := (wSd cI cZ cJ sd_a w_a v_a (wr_a 0) (rd_a 0) (cu_a 0) (sp_a 0) sd ++ wSy cI cZ cJ cu_a cu' ++ wOu cI cZ cJ ou_a ou')) hP hD pm9 ht hk1 hFc hB
    generalize H1 = H at hP hS ⊢
    have pm9 : ((wSy cI cZ cJ sp_a sp ++ wBr cI cZ cJ w_a w_b w ++ wBr cI cZ cJ v_a v_b v ++ wWr cI cZ cJ wr_a (cb_a 0) wr ++ wRd cI cZ cJ rd_a (cb_a 0) rd ++ wCb cI cZ cJ cb_a w_a v_a cb ++ wMo cI cZ cJ mo_a mo) ++ (wSd cI cZ cJ sd_a w_a v_a (wr_a 0) (rd_a 0) (cu_a 0) (sp_a 0) sd ++ wSy cI cZ cJ cu_a cu' ++ wOu cI cZ cJ ou_a ou') : va_W).Perm (wSd cI cZ cJ sd_a w_a v_a (wr_a 0) (rd_a 0) (cu_a 0) (sp_a 0) sd ++ wSy cI cZ cJ cu_a cu' ++ wSy cI cZ cJ sp_a sp ++ wBr cI cZ cJ w_a w_b w ++ wBr cI cZ cJ v_a v_b v ++ wWr cI cZ cJ wr_a (cb_a 0) wr ++ wRd cI cZ cJ rd_a (cb_a 0) rd ++ wCb cI cZ cJ cb_a w_a v_a cb ++ wMo cI cZ cJ mo_a mo ++ wOu cI cZ cJ ou_a ou') := pm_1 _ _ _ _ _ _ _ _ _ _
    have hP : va_P (dC, dI) vwCl (wSd cI cZ cJ sd_a w_a v_a (wr_a 0) (rd_a 0) (cu_a 0) (sp_a 0) sd ++ wSy cI cZ cJ cu_a cu' ++ wSy cI cZ cJ sp_a sp ++ wBr cI cZ cJ w_a w_b w ++ wBr cI cZ cJ v_a v_b v ++ wWr cI cZ cJ wr_a (cb_a 0) wr ++ wRd cI cZ cJ rd_a (cb_a 0) rd ++ wCb cI cZ cJ cb_a w_a v_a cb ++ wMo cI cZ cJ mo_a mo ++ wOu cI cZ cJ ou_a ou') H := pw_P hP (fun q hq => pm9.mem_iff.mpr hq)
    have hD : va_D A (wSd cI cZ cJ sd_a w_a v_a (wr_a 0) (rd_a 0) (cu_a 0) (sp_a 0) sd ++ wSy cI cZ cJ cu_a cu' ++ wSy cI cZ cJ sp_a sp ++ wBr cI cZ cJ w_a w_b w ++ wBr cI cZ cJ v_a v_b v ++ wWr cI cZ cJ wr_a (cb_a 0) wr ++ wRd cI cZ cJ rd_a (cb_a 0) rd ++ wCb cI cZ cJ cb_a w_a v_a cb ++ wMo cI cZ cJ mo_a mo ++ wOu cI cZ cJ ou_a ou') := pw_Dp hD pm9
    refine lv_istore (lv' := [(5, .int 0), (0, .ref b), (1, .ref (sd_a 0)), (2, .ref (mo_a 0)), (3, .ref (ou_a 0)), (4, .int i)]) hx hb d_law_338 hl (by decide) rfl (fun ls hl => ?_)
    refine lv_aload_n hx hb d_law_340 rfl (lv_at hl 3 rfl) ?_
    refine lv_aload_n hx hb d_law_341 rfl (lv_at hl 1 rfl) ?_
    refine lv_iload hx hb d_law_342 (lv_at hl 5 rfl) ?_
    refine lv_iconst (v := 1) hx hb d_law_344 (by decide) ?_
    refine lv_iadd hx hb d_law_345 ?_
    refine va_sld hx hb hX0 hbl hbA hS (hin 1 (by decide) (by decide)) d_law_346 ?_
    refine lv_aload_n hx hb d_law_347 rfl (lv_at hl 1 rfl) ?_
    refine lv_iload hx hb d_law_348 (lv_at hl 5 rfl) ?_
    refine lv_iconst (v := 2) hx hb d_law_350 (by decide) ?_
    refine lv_iadd hx hb d_law_351 ?_
    refine va_sld hx hb hX0 hbl hbA hS (hin 2 (by decide) (by decide)) d_law_352 ?_
    refine lv_aload_n hx hb d_law_353 rfl (lv_at hl 1 rfl) ?_
    refine lv_iload hx hb d_law_354 (lv_at hl 5 rfl) ?_
    refine lv_iconst (v := 3) hx hb d_law_356 (by decide) ?_
    refine lv_iadd hx hb d_law_357 ?_
    refine va_sld hx hb hX0 hbl hbA hS (hin 3 (by decide) (by decide)) d_law_358 ?_
    have pm9 : ((wSd cI cZ cJ sd_a w_a v_a (wr_a 0) (rd_a 0) (cu_a 0) (sp_a 0) sd ++ wSy cI cZ cJ cu_a cu' ++ wSy cI cZ cJ sp_a sp ++ wBr cI cZ cJ w_a w_b w ++ wBr cI cZ cJ v_a v_b v ++ wWr cI cZ cJ wr_a (cb_a 0) wr ++ wRd cI cZ cJ rd_a (cb_a 0) rd ++ wCb cI cZ cJ cb_a w_a v_a cb ++ wMo cI cZ cJ mo_a mo ++ wOu cI cZ cJ ou_a ou') : va_W).Perm ((wMo cI cZ cJ mo_a mo) ++ (wSd cI cZ cJ sd_a w_a v_a (wr_a 0) (rd_a 0) (cu_a 0) (sp_a 0) sd ++ wSy cI cZ cJ cu_a cu' ++ wSy cI cZ cJ sp_a sp ++ wBr cI cZ cJ w_a w_b w ++ wBr cI cZ cJ v_a v_b v ++ wWr cI cZ cJ wr_a (cb_a 0) wr ++ wRd cI cZ cJ rd_a (cb_a 0) rd ++ wCb cI cZ cJ cb_a w_a v_a cb ++ wOu cI cZ cJ ou_a ou')) := pm_2 _ _ _ _ _ _ _ _ _ _
    have hPc := pw_P (ws' := (wMo cI cZ cJ mo_a mo)) hP (fun q hq => pm9.mem_iff.mpr (List.mem_append_left _ hq))
    have hDc := pw_D (wc := (wMo cI cZ cJ mo_a mo)) hD pm9
    have hFc := pw_free (wc := (wMo cI cZ cJ mo_a mo)) hD hS hA (fun q hq => pm9.mem_iff.mpr (List.mem_append_left _ hq))
    refine va_calli (va_runV (As := [.int (xs (i + 1).toNatClampNeg), .int (xs (i + 2).toNatClampNeg), .int (xs (i + 3).toNatClampNeg)]) (rest := []) ⟨hx, hb, hml, hown, hts⟩ (k_Model_row l dC dI cI cZ cJ mo_a H.size hg) (cwV 3 hts (gV t_934 t_935 t_936 t_63 t_937) rfl rfl rfl hd_Model_row ⟨Nat.le_trans (Nat.le_of_ble_eq_true rfl) hRf, Nat.le_trans (Nat.le_of_ble_eq_true rfl) hRl⟩) ⟨kP_blind, va_recv hK hPc (ci := 7) (q0 := 0) rfl rfl, kP_at hPc hK hDc hN⟩ rfl rfl hl.1 rfl (lv_room (Nat.le_of_ble_eq_true rfl)) d_law_359 ⟨by omega, by omega⟩) hS (fun q _ h => hFc q h) hFc (fun r9 u t H1 locs ht hvm hw hB hz1 hk1 hS => ?_)
    rw [hw]
    obtain ⟨hP, hD⟩ := pw_join (wr := (wSd cI cZ cJ sd_a w_a v_a (wr_a 0) (rd_a 0) (cu_a 0) (sp_a 0) sd ++ wSy cI cZ cJ cu_a cu' ++ wSy cI cZ cJ sp_a sp ++ wBr cI cZ cJ w_a w_b w ++ wBr cI cZ cJ v_a v_b v ++ wWr cI cZ cJ wr_a (cb_a 0) wr ++ wRd cI cZ cJ rd_a (cb_a 0) rd ++ wCb cI cZ cJ cb_a w_a v_a cb ++ wOu cI cZ cJ ou_a ou')) (w1 := (wMo cI cZ cJ mo_a mo')) hP hD pm9 ht hk1 hFc hB
    generalize H1 = H at hP hS ⊢
    have pm9 : ((wSd cI cZ cJ sd_a w_a v_a (wr_a 0) (rd_a 0) (cu_a 0) (sp_a 0) sd ++ wSy cI cZ cJ cu_a cu' ++ wSy cI cZ cJ sp_a sp ++ wBr cI cZ cJ w_a w_b w ++ wBr cI cZ cJ v_a v_b v ++ wWr cI cZ cJ wr_a (cb_a 0) wr ++ wRd cI cZ cJ rd_a (cb_a 0) rd ++ wCb cI cZ cJ cb_a w_a v_a cb ++ wOu cI cZ cJ ou_a ou') ++ (wMo cI cZ cJ mo_a mo') : va_W).Perm (wSd cI cZ cJ sd_a w_a v_a (wr_a 0) (rd_a 0) (cu_a 0) (sp_a 0) sd ++ wSy cI cZ cJ cu_a cu' ++ wSy cI cZ cJ sp_a sp ++ wBr cI cZ cJ w_a w_b w ++ wBr cI cZ cJ v_a v_b v ++ wWr cI cZ cJ wr_a (cb_a 0) wr ++ wRd cI cZ cJ rd_a (cb_a 0) rd ++ wCb cI cZ cJ cb_a w_a v_a cb ++ wMo cI cZ cJ mo_a mo' ++ wOu cI cZ cJ ou_a ou') := pm_3 _ _ _ _ _ _ _ _ _ _
    have hP : va_P (dC, dI) vwCl (wSd cI cZ cJ sd_a w_a v_a (wr_a 0) (rd_a 0) (cu_a 0) (sp_a 0) sd ++ wSy cI cZ cJ cu_a cu' ++ wSy cI cZ cJ sp_a sp ++ wBr cI cZ cJ w_a w_b w ++ wBr cI cZ cJ v_a v_b v ++ wWr cI cZ cJ wr_a (cb_a 0) wr ++ wRd cI cZ cJ rd_a (cb_a 0) rd ++ wCb cI cZ cJ cb_a w_a v_a cb ++ wMo cI cZ cJ mo_a mo' ++ wOu cI cZ cJ ou_a ou') H := pw_P hP (fun q hq => pm9.mem_iff.mpr hq)
    have hD : va_D A (wSd cI cZ cJ sd_a w_a v_a (wr_a 0) (rd_a 0) (cu_a 0) (sp_a 0) sd ++ wSy cI cZ cJ cu_a cu' ++ wSy cI cZ cJ sp_a sp ++ wBr cI cZ cJ w_a w_b w ++ wBr cI cZ cJ v_a v_b v ++ wWr cI cZ cJ wr_a (cb_a 0) wr ++ wRd cI cZ cJ rd_a (cb_a 0) rd ++ wCb cI cZ cJ cb_a w_a v_a cb ++ wMo cI cZ cJ mo_a mo' ++ wOu cI cZ cJ ou_a ou') := pw_Dp hD pm9
    refine lv_istore (lv' := [(6, .int r), (5, .int 0), (0, .ref b), (1, .ref (sd_a 0)), (2, .ref (mo_a 0)), (3, .ref (ou_a 0)), (4, .int i)]) hx hb d_law_362 hl (by decide) rfl (fun ls hl => ?_)
    refine lv_aload_n hx hb d_law_364 rfl (lv_at hl 4 rfl) ?_
    have hth : f_Model_thrown mo' = some (Mo_code mo') := rfl
    have pm9 : ((wSd cI cZ cJ sd_a w_a v_a (wr_a 0) (rd_a 0) (cu_a 0) (sp_a 0) sd ++ wSy cI cZ cJ cu_a cu' ++ wSy cI cZ cJ sp_a sp ++ wBr cI cZ cJ w_a w_b w ++ wBr cI cZ cJ v_a v_b v ++ wWr cI cZ cJ wr_a (cb_a 0) wr ++ wRd cI cZ cJ rd_a (cb_a 0) rd ++ wCb cI cZ cJ cb_a w_a v_a cb ++ wMo cI cZ cJ mo_a mo' ++ wOu cI cZ cJ ou_a ou') : va_W).Perm ((wMo cI cZ cJ mo_a mo') ++ (wSd cI cZ cJ sd_a w_a v_a (wr_a 0) (rd_a 0) (cu_a 0) (sp_a 0) sd ++ wSy cI cZ cJ cu_a cu' ++ wSy cI cZ cJ sp_a sp ++ wBr cI cZ cJ w_a w_b w ++ wBr cI cZ cJ v_a v_b v ++ wWr cI cZ cJ wr_a (cb_a 0) wr ++ wRd cI cZ cJ rd_a (cb_a 0) rd ++ wCb cI cZ cJ cb_a w_a v_a cb ++ wOu cI cZ cJ ou_a ou')) := pm_2 _ _ _ _ _ _ _ _ _ _
    have hPc := pw_P (ws' := (wMo cI cZ cJ mo_a mo')) hP (fun q hq => pm9.mem_iff.mpr (List.mem_append_left _ hq))
    have hDc := pw_D (wc := (wMo cI cZ cJ mo_a mo')) hD pm9
    have hFc := pw_free (wc := (wMo cI cZ cJ mo_a mo')) hD hS hA (fun q hq => pm9.mem_iff.mpr (List.mem_append_left _ hq))
    refine va_calli (va_runV (As := []) (rest := []) ⟨hx, hb, hml, hown, hts⟩ (k_Model_thrown l dC dI cI cZ cJ mo_a H.size hth) (cwV 0 hts (gV t_906 t_907 t_908 t_63 t_909) rfl rfl rfl hd_Model_thrown ⟨Nat.le_trans (Nat.le_of_ble_eq_true rfl) hRf, Nat.le_trans (Nat.le_of_ble_eq_true rfl) hRl⟩) ⟨kP_blind, va_recv hK hPc (ci := 7) (q0 := 0) rfl rfl, kP_at hPc hK hDc hN⟩ rfl rfl hl.1 rfl (lv_room (Nat.le_of_ble_eq_true rfl)) d_law_365 ⟨by omega, by omega⟩) hS (fun q _ h => hFc q h) hFc (fun r9 u t H1 locs ht hvm hw hB hz1 hk1 hS => ?_)
    rw [hw]
    obtain ⟨hP, hD⟩ := pw_join (wr := (wSd cI cZ cJ sd_a w_a v_a (wr_a 0) (rd_a 0) (cu_a 0) (sp_a 0) sd ++ wSy cI cZ cJ cu_a cu' ++ wSy cI cZ cJ sp_a sp ++ wBr cI cZ cJ w_a w_b w ++ wBr cI cZ cJ v_a v_b v ++ wWr cI cZ cJ wr_a (cb_a 0) wr ++ wRd cI cZ cJ rd_a (cb_a 0) rd ++ wCb cI cZ cJ cb_a w_a v_a cb ++ wOu cI cZ cJ ou_a ou')) (w1 := (wMo cI cZ cJ mo_a mo')) hP hD pm9 ht hk1 hFc hB
    generalize H1 = H at hP hS ⊢
    have pm9 : ((wSd cI cZ cJ sd_a w_a v_a (wr_a 0) (rd_a 0) (cu_a 0) (sp_a 0) sd ++ wSy cI cZ cJ cu_a cu' ++ wSy cI cZ cJ sp_a sp ++ wBr cI cZ cJ w_a w_b w ++ wBr cI cZ cJ v_a v_b v ++ wWr cI cZ cJ wr_a (cb_a 0) wr ++ wRd cI cZ cJ rd_a (cb_a 0) rd ++ wCb cI cZ cJ cb_a w_a v_a cb ++ wOu cI cZ cJ ou_a ou') ++ (wMo cI cZ cJ mo_a mo') : va_W).Perm (wSd cI cZ cJ sd_a w_a v_a (wr_a 0) (rd_a 0) (cu_a 0) (sp_a 0) sd ++ wSy cI cZ cJ cu_a cu' ++ wSy cI cZ cJ sp_a sp ++ wBr cI cZ cJ w_a w_b w ++ wBr cI cZ cJ v_a v_b v ++ wWr cI cZ cJ wr_a (cb_a 0) wr ++ wRd cI cZ cJ rd_a (cb_a 0) rd ++ wCb cI cZ cJ cb_a w_a v_a cb ++ wMo cI cZ cJ mo_a mo' ++ wOu cI cZ cJ ou_a ou') := pm_3 _ _ _ _ _ _ _ _ _ _
    have hP : va_P (dC, dI) vwCl (wSd cI cZ cJ sd_a w_a v_a (wr_a 0) (rd_a 0) (cu_a 0) (sp_a 0) sd ++ wSy cI cZ cJ cu_a cu' ++ wSy cI cZ cJ sp_a sp ++ wBr cI cZ cJ w_a w_b w ++ wBr cI cZ cJ v_a v_b v ++ wWr cI cZ cJ wr_a (cb_a 0) wr ++ wRd cI cZ cJ rd_a (cb_a 0) rd ++ wCb cI cZ cJ cb_a w_a v_a cb ++ wMo cI cZ cJ mo_a mo' ++ wOu cI cZ cJ ou_a ou') H := pw_P hP (fun q hq => pm9.mem_iff.mpr hq)
    have hD : va_D A (wSd cI cZ cJ sd_a w_a v_a (wr_a 0) (rd_a 0) (cu_a 0) (sp_a 0) sd ++ wSy cI cZ cJ cu_a cu' ++ wSy cI cZ cJ sp_a sp ++ wBr cI cZ cJ w_a w_b w ++ wBr cI cZ cJ v_a v_b v ++ wWr cI cZ cJ wr_a (cb_a 0) wr ++ wRd cI cZ cJ rd_a (cb_a 0) rd ++ wCb cI cZ cJ cb_a w_a v_a cb ++ wMo cI cZ cJ mo_a mo' ++ wOu cI cZ cJ ou_a ou') := pw_Dp hD pm9
    refine lv_iload hx hb d_law_368 (lv_at hl 1 rfl) ?_
    refine lv_icmp_eq (tgt := 375) hx hb d_law_370 (by decide) (fun _ => ?_) (fun h9 => absurd hcode h9)
    refine lv_iload hx hb d_law_375 (lv_at hl 1 rfl) ?_
    refine lv_if_ne (tgt := 392) hx hb d_law_377 (by decide) (fun h9 => absurd rfl h9) (fun _ => ?_)
    refine lv_aload_n hx hb d_law_380 rfl (lv_at hl 5 rfl) ?_
    refine lv_iconst (v := 0) hx hb d_law_381 (by decide) ?_
    refine va_lald (f := Ou_f ou') hx hb hK hP 47 2 rfl rfl (inb_in (by decide)) d_law_382 ?_
    refine lv_iload hx hb d_law_383 (lv_at hl 0 rfl) ?_
    refine lv_i2l (v := r.toInt64) hx hb d_law_385 rfl ?_
    refine W.lcmp hx hb d_law_386 ?_
    refine lv_if_eq (tgt := 392) hx hb d_law_387 (by decide) (fun _ => ?_) (fun h9 => absurd (by rw [hou]; exact cmp_self _) h9)
    refine lv_goto (tgt := 1131) hx hb d_law_392 (by decide) ?_
    have hl := lv_sub (l' := [(0, .ref b), (1, .ref (sd_a 0)), (2, .ref (mo_a 0)), (3, .ref (ou_a 0)), (4, .int i)]) hl [2, 3, 4, 5, 6] rfl
    refine W.widen (k := j + 1 + Br_byL w + Br_byL v) (n := 6 * (j + 1) + 2 * Br_byL w + 2 * Br_byL v) (by omega) (by omega) ?_
    exact hk _ _ _ cu_a sp_a w_b v_b cu' sp w v wr rd cb mo' ou' hrel hP hD hS hl
  · refine lv_aload_n hx hb d_law_315 rfl (lv_at hl 1 rfl) ?_
    refine lv_aload_n hx hb d_law_316 rfl (lv_at hl 0 rfl) ?_
    refine lv_iload hx hb d_law_317 (lv_at hl 4 rfl) ?_
    refine lv_iconst (v := 1) hx hb d_law_319 (by decide) ?_
    refine lv_iadd hx hb d_law_320 ?_
    refine va_sld hx hb hX0 hbl hbA hS (hin 1 (by decide) (by decide)) d_law_321 ?_
    refine lv_aload_n hx hb d_law_322 rfl (lv_at hl 0 rfl) ?_
    refine lv_iload hx hb d_law_323 (lv_at hl 4 rfl) ?_
    refine lv_iconst (v := 2) hx hb d_law_325 (by decide) ?_
    refine lv_iadd hx hb d_law_326 ?_
    refine va_sld hx hb hX0 hbl hbA hS (hin 2 (by decide) (by decide)) d_law_327 ?_
    refine lv_aload_n hx hb d_law_328 rfl (lv_at hl 0 rfl) ?_
    refine lv_iload hx hb d_law_329 (lv_at hl 4 rfl) ?_
    refine lv_iconst (v := 3) hx hb d_law_331 (by decide) ?_
    refine lv_iadd hx hb d_law_332 ?_
    refine va_sld hx hb hX0 hbl hbA hS (hin 3 (by decide) (by decide)) d_law_333 ?_
    refine lv_aload_n hx hb d_law_334 rfl (lv_at hl 3 rfl) ?_
    have pm9 : ((wSd cI cZ cJ sd_a w_a v_a (wr_a 0) (rd_a 0) (cu_a 0) (sp_a 0) sd ++ wSy cI cZ cJ cu_a cu ++ wSy cI cZ cJ sp_a sp ++ wBr cI cZ cJ w_a w_b w ++ wBr cI cZ cJ v_a v_b v ++ wWr cI cZ cJ wr_a (cb_a 0) wr ++ wRd cI cZ cJ rd_a (cb_a 0) rd ++ wCb cI cZ cJ cb_a w_a v_a cb ++ wMo cI cZ cJ mo_a mo ++ wOu cI cZ cJ ou_a ou) : va_W).Perm ((wSd cI cZ cJ sd_a w_a v_a (wr_a 0) (rd_a 0) (cu_a 0) (sp_a 0) sd ++ wSy cI cZ cJ cu_a cu ++ wOu cI cZ cJ ou_a ou) ++ (wSy cI cZ cJ sp_a sp ++ wBr cI cZ cJ w_a w_b w ++ wBr cI cZ cJ v_a v_b v ++ wWr cI cZ cJ wr_a (cb_a 0) wr ++ wRd cI cZ cJ rd_a (cb_a 0) rd ++ wCb cI cZ cJ cb_a w_a v_a cb ++ wMo cI cZ cJ mo_a mo)) := pm_0 _ _ _ _ _ _ _ _ _ _
    have hPc := pw_P (ws' := (wSd cI cZ cJ sd_a w_a v_a (wr_a 0) (rd_a 0) (cu_a 0) (sp_a 0) sd ++ wSy cI cZ cJ cu_a cu ++ wOu cI cZ cJ ou_a ou)) hP (fun q hq => pm9.mem_iff.mpr (List.mem_append_left _ hq))
    have hDc := pw_D (wc := (wSd cI cZ cJ sd_a w_a v_a (wr_a 0) (rd_a 0) (cu_a 0) (sp_a 0) sd ++ wSy cI cZ cJ cu_a cu ++ wOu cI cZ cJ ou_a ou)) hD pm9
    have hFc := pw_free (wc := (wSd cI cZ cJ sd_a w_a v_a (wr_a 0) (rd_a 0) (cu_a 0) (sp_a 0) sd ++ wSy cI cZ cJ cu_a cu ++ wOu cI cZ cJ ou_a ou)) hD hS hA (fun q hq => pm9.mem_iff.mpr (List.mem_append_left _ hq))
    refine va_calli (w_runS (As := [.ref (sd_a 0), .int (xs (i + 1).toNatClampNeg), .int (xs (i + 2).toNatClampNeg), .int (xs (i + 3).toNatClampNeg), .ref (ou_a 0)]) (rest := []) ⟨hx, hb, hml, hown, hts⟩ (kx_Law_row_3 l hl9 dC dI cI cZ cJ sd_a cu_a ou_a w_a v_a (wr_a 0) (rd_a 0) (sp_a 0) H.size hf) (cwH_of 5 hts t_692 rfl rfl t_53 t_690 t_691 hd_Law_row.2 ⟨Nat.le_trans (Nat.le_of_ble_eq_true rfl) hRf, Nat.le_trans (Nat.le_of_ble_eq_true rfl) hRl⟩) ⟨kPX_blind, kPX_at hPc hK hDc hN (fun q hq => hS.2.1 q hq (fun h9 => absurd (hA2 q h9) (Nat.not_le.mpr hq))) hT hX⟩ rfl rfl hl.1 rfl (lv_room (Nat.le_of_ble_eq_true rfl)) d_law_335 ⟨by omega, by omega⟩) hS (fun q _ h => hFc q h) hFc (fun r9 u t H1 locs ht hvm hw hB hz1 hk1 hS => ?_)
    rw [hw]
    obtain ⟨hP, hD⟩ := pw_join (wr := (wSy cI cZ cJ sp_a sp ++ wBr cI cZ cJ w_a w_b w ++ wBr cI cZ cJ v_a v_b v ++ wWr cI cZ cJ wr_a (cb_a 0) wr ++ wRd cI cZ cJ rd_a (cb_a 0) rd ++ wCb cI cZ cJ cb_a w_a v_a cb ++ wMo cI cZ cJ mo_a mo)) (w1 := (wSd cI cZ cJ sd_a w_a v_a (wr_a 0) (rd_a 0) (cu_a 0) (sp_a 0) sd ++ wSy cI cZ cJ cu_a cu ++ wOu cI cZ cJ ou_a ou)) hP hD pm9 ht hk1 hFc hB
    generalize H1 = H at hP hS ⊢
    have pm9 : ((wSy cI cZ cJ sp_a sp ++ wBr cI cZ cJ w_a w_b w ++ wBr cI cZ cJ v_a v_b v ++ wWr cI cZ cJ wr_a (cb_a 0) wr ++ wRd cI cZ cJ rd_a (cb_a 0) rd ++ wCb cI cZ cJ cb_a w_a v_a cb ++ wMo cI cZ cJ mo_a mo) ++ (wSd cI cZ cJ sd_a w_a v_a (wr_a 0) (rd_a 0) (cu_a 0) (sp_a 0) sd ++ wSy cI cZ cJ cu_a cu ++ wOu cI cZ cJ ou_a ou) : va_W).Perm (wSd cI cZ cJ sd_a w_a v_a (wr_a 0) (rd_a 0) (cu_a 0) (sp_a 0) sd ++ wSy cI cZ cJ cu_a cu ++ wSy cI cZ cJ sp_a sp ++ wBr cI cZ cJ w_a w_b w ++ wBr cI cZ cJ v_a v_b v ++ wWr cI cZ cJ wr_a (cb_a 0) wr ++ wRd cI cZ cJ rd_a (cb_a 0) rd ++ wCb cI cZ cJ cb_a w_a v_a cb ++ wMo cI cZ cJ mo_a mo ++ wOu cI cZ cJ ou_a ou) := pm_1 _ _ _ _ _ _ _ _ _ _
    have hP : va_P (dC, dI) vwCl (wSd cI cZ cJ sd_a w_a v_a (wr_a 0) (rd_a 0) (cu_a 0) (sp_a 0) sd ++ wSy cI cZ cJ cu_a cu ++ wSy cI cZ cJ sp_a sp ++ wBr cI cZ cJ w_a w_b w ++ wBr cI cZ cJ v_a v_b v ++ wWr cI cZ cJ wr_a (cb_a 0) wr ++ wRd cI cZ cJ rd_a (cb_a 0) rd ++ wCb cI cZ cJ cb_a w_a v_a cb ++ wMo cI cZ cJ mo_a mo ++ wOu cI cZ cJ ou_a ou) H := pw_P hP (fun q hq => pm9.mem_iff.mpr hq)
    have hD : va_D A (wSd cI cZ cJ sd_a w_a v_a (wr_a 0) (rd_a 0) (cu_a 0) (sp_a 0) sd ++ wSy cI cZ cJ cu_a cu ++ wSy cI cZ cJ sp_a sp ++ wBr cI cZ cJ w_a w_b w ++ wBr cI cZ cJ v_a v_b v ++ wWr cI cZ cJ wr_a (cb_a 0) wr ++ wRd cI cZ cJ rd_a (cb_a 0) rd ++ wCb cI cZ cJ cb_a w_a v_a cb ++ wMo cI cZ cJ mo_a mo ++ wOu cI cZ cJ ou_a ou) := pw_Dp hD pm9
    refine lv_istore (lv' := [(5, .int 1), (0, .ref b), (1, .ref (sd_a 0)), (2, .ref (mo_a 0)), (3, .ref (ou_a 0)), (4, .int i)]) hx hb d_law_338 hl (by decide) rfl (fun ls hl => ?_)
    refine lv_aload_n hx hb d_law_340 rfl (lv_at hl 3 rfl) ?_
    refine lv_aload_n hx hb d_law_341 rfl (lv_at hl 1 rfl) ?_
    refine lv_iload hx hb d_law_342 (lv_at hl 5 rfl) ?_
    refine lv_iconst (v := 1) hx hb d_law_344 (by decide) ?_
    refine lv_iadd hx hb d_law_345 ?_
    refine va_sld hx hb hX0 hbl hbA hS (hin 1 (by decide) (by decide)) d_law_346 ?_
    refine lv_aload_n hx hb d_law_347 rfl (lv_at hl 1 rfl) ?_
    refine lv_iload hx hb d_law_348 (lv_at hl 5 rfl) ?_
    refine lv_iconst (v := 2) hx hb d_law_350 (by decide) ?_
    refine lv_iadd hx hb d_law_351 ?_
    refine va_sld hx hb hX0 hbl hbA hS (hin 2 (by decide) (by decide)) d_law_352 ?_
    refine lv_aload_n hx hb d_law_353 rfl (lv_at hl 1 rfl) ?_
    refine lv_iload hx hb d_law_354 (lv_at hl 5 rfl) ?_
    refine lv_iconst (v := 3) hx hb d_law_356 (by decide) ?_
    refine lv_iadd hx hb d_law_357 ?_
    refine va_sld hx hb hX0 hbl hbA hS (hin 3 (by decide) (by decide)) d_law_358 ?_
    have pm9 : ((wSd cI cZ cJ sd_a w_a v_a (wr_a 0) (rd_a 0) (cu_a 0) (sp_a 0) sd ++ wSy cI cZ cJ cu_a cu ++ wSy cI cZ cJ sp_a sp ++ wBr cI cZ cJ w_a w_b w ++ wBr cI cZ cJ v_a v_b v ++ wWr cI cZ cJ wr_a (cb_a 0) wr ++ wRd cI cZ cJ rd_a (cb_a 0) rd ++ wCb cI cZ cJ cb_a w_a v_a cb ++ wMo cI cZ cJ mo_a mo ++ wOu cI cZ cJ ou_a ou) : va_W).Perm ((wMo cI cZ cJ mo_a mo) ++ (wSd cI cZ cJ sd_a w_a v_a (wr_a 0) (rd_a 0) (cu_a 0) (sp_a 0) sd ++ wSy cI cZ cJ cu_a cu ++ wSy cI cZ cJ sp_a sp ++ wBr cI cZ cJ w_a w_b w ++ wBr cI cZ cJ v_a v_b v ++ wWr cI cZ cJ wr_a (cb_a 0) wr ++ wRd cI cZ cJ rd_a (cb_a 0) rd ++ wCb cI cZ cJ cb_a w_a v_a cb ++ wOu cI cZ cJ ou_a ou)) := pm_2 _ _ _ _ _ _ _ _ _ _
    have hPc := pw_P (ws' := (wMo cI cZ cJ mo_a mo)) hP (fun q hq => pm9.mem_iff.mpr (List.mem_append_left _ hq))
    have hDc := pw_D (wc := (wMo cI cZ cJ mo_a mo)) hD pm9
    have hFc := pw_free (wc := (wMo cI cZ cJ mo_a mo)) hD hS hA (fun q hq => pm9.mem_iff.mpr (List.mem_append_left _ hq))
    refine va_calli (va_runV (As := [.int (xs (i + 1).toNatClampNeg), .int (xs (i + 2).toNatClampNeg), .int (xs (i + 3).toNatClampNeg)]) (rest := []) ⟨hx, hb, hml, hown, hts⟩ (k_Model_row l dC dI cI cZ cJ mo_a H.size hg) (cwV 3 hts (gV t_934 t_935 t_936 t_63 t_937) rfl rfl rfl hd_Model_row ⟨Nat.le_trans (Nat.le_of_ble_eq_true rfl) hRf, Nat.le_trans (Nat.le_of_ble_eq_true rfl) hRl⟩) ⟨kP_blind, va_recv hK hPc (ci := 7) (q0 := 0) rfl rfl, kP_at hPc hK hDc hN⟩ rfl rfl hl.1 rfl (lv_room (Nat.le_of_ble_eq_true rfl)) d_law_359 ⟨by omega, by omega⟩) hS (fun q _ h => hFc q h) hFc (fun r9 u t H1 locs ht hvm hw hB hz1 hk1 hS => ?_)
    rw [hw]
    obtain ⟨hP, hD⟩ := pw_join (wr := (wSd cI cZ cJ sd_a w_a v_a (wr_a 0) (rd_a 0) (cu_a 0) (sp_a 0) sd ++ wSy cI cZ cJ cu_a cu ++ wSy cI cZ cJ sp_a sp ++ wBr cI cZ cJ w_a w_b w ++ wBr cI cZ cJ v_a v_b v ++ wWr cI cZ cJ wr_a (cb_a 0) wr ++ wRd cI cZ cJ rd_a (cb_a 0) rd ++ wCb cI cZ cJ cb_a w_a v_a cb ++ wOu cI cZ cJ ou_a ou)) (w1 := (wMo cI cZ cJ mo_a mo')) hP hD pm9 ht hk1 hFc hB
    generalize H1 = H at hP hS ⊢
    have pm9 : ((wSd cI cZ cJ sd_a w_a v_a (wr_a 0) (rd_a 0) (cu_a 0) (sp_a 0) sd ++ wSy cI cZ cJ cu_a cu ++ wSy cI cZ cJ sp_a sp ++ wBr cI cZ cJ w_a w_b w ++ wBr cI cZ cJ v_a v_b v ++ wWr cI cZ cJ wr_a (cb_a 0) wr ++ wRd cI cZ cJ rd_a (cb_a 0) rd ++ wCb cI cZ cJ cb_a w_a v_a cb ++ wOu cI cZ cJ ou_a ou) ++ (wMo cI cZ cJ mo_a mo') : va_W).Perm (wSd cI cZ cJ sd_a w_a v_a (wr_a 0) (rd_a 0) (cu_a 0) (sp_a 0) sd ++ wSy cI cZ cJ cu_a cu ++ wSy cI cZ cJ sp_a sp ++ wBr cI cZ cJ w_a w_b w ++ wBr cI cZ cJ v_a v_b v ++ wWr cI cZ cJ wr_a (cb_a 0) wr ++ wRd cI cZ cJ rd_a (cb_a 0) rd ++ wCb cI cZ cJ cb_a w_a v_a cb ++ wMo cI cZ cJ mo_a mo' ++ wOu cI cZ cJ ou_a ou) := pm_3 _ _ _ _ _ _ _ _ _ _
    have hP : va_P (dC, dI) vwCl (wSd cI cZ cJ sd_a w_a v_a (wr_a 0) (rd_a 0) (cu_a 0) (sp_a 0) sd ++ wSy cI cZ cJ cu_a cu ++ wSy cI cZ cJ sp_a sp ++ wBr cI cZ cJ w_a w_b w ++ wBr cI cZ cJ v_a v_b v ++ wWr cI cZ cJ wr_a (cb_a 0) wr ++ wRd cI cZ cJ rd_a (cb_a 0) rd ++ wCb cI cZ cJ cb_a w_a v_a cb ++ wMo cI cZ cJ mo_a mo' ++ wOu cI cZ cJ ou_a ou) H := pw_P hP (fun q hq => pm9.mem_iff.mpr hq)
    have hD : va_D A (wSd cI cZ cJ sd_a w_a v_a (wr_a 0) (rd_a 0) (cu_a 0) (sp_a 0) sd ++ wSy cI cZ cJ cu_a cu ++ wSy cI cZ cJ sp_a sp ++ wBr cI cZ cJ w_a w_b w ++ wBr cI cZ cJ v_a v_b v ++ wWr cI cZ cJ wr_a (cb_a 0) wr ++ wRd cI cZ cJ rd_a (cb_a 0) rd ++ wCb cI cZ cJ cb_a w_a v_a cb ++ wMo cI cZ cJ mo_a mo' ++ wOu cI cZ cJ ou_a ou) := pw_Dp hD pm9
    refine lv_istore (lv' := [(6, .int q), (5, .int 1), (0, .ref b), (1, .ref (sd_a 0)), (2, .ref (mo_a 0)), (3, .ref (ou_a 0)), (4, .int i)]) hx hb d_law_362 hl (by decide) rfl (fun ls hl => ?_)
    refine lv_aload_n hx hb d_law_364 rfl (lv_at hl 4 rfl) ?_
    have hth : f_Model_thrown mo' = some (Mo_code mo') := rfl
    have pm9 : ((wSd cI cZ cJ sd_a w_a v_a (wr_a 0) (rd_a 0) (cu_a 0) (sp_a 0) sd ++ wSy cI cZ cJ cu_a cu ++ wSy cI cZ cJ sp_a sp ++ wBr cI cZ cJ w_a w_b w ++ wBr cI cZ cJ v_a v_b v ++ wWr cI cZ cJ wr_a (cb_a 0) wr ++ wRd cI cZ cJ rd_a (cb_a 0) rd ++ wCb cI cZ cJ cb_a w_a v_a cb ++ wMo cI cZ cJ mo_a mo' ++ wOu cI cZ cJ ou_a ou) : va_W).Perm ((wMo cI cZ cJ mo_a mo') ++ (wSd cI cZ cJ sd_a w_a v_a (wr_a 0) (rd_a 0) (cu_a 0) (sp_a 0) sd ++ wSy cI cZ cJ cu_a cu ++ wSy cI cZ cJ sp_a sp ++ wBr cI cZ cJ w_a w_b w ++ wBr cI cZ cJ v_a v_b v ++ wWr cI cZ cJ wr_a (cb_a 0) wr ++ wRd cI cZ cJ rd_a (cb_a 0) rd ++ wCb cI cZ cJ cb_a w_a v_a cb ++ wOu cI cZ cJ ou_a ou)) := pm_2 _ _ _ _ _ _ _ _ _ _
    have hPc := pw_P (ws' := (wMo cI cZ cJ mo_a mo')) hP (fun q hq => pm9.mem_iff.mpr (List.mem_append_left _ hq))
    have hDc := pw_D (wc := (wMo cI cZ cJ mo_a mo')) hD pm9
    have hFc := pw_free (wc := (wMo cI cZ cJ mo_a mo')) hD hS hA (fun q hq => pm9.mem_iff.mpr (List.mem_append_left _ hq))
    refine va_calli (va_runV (As := []) (rest := []) ⟨hx, hb, hml, hown, hts⟩ (k_Model_thrown l dC dI cI cZ cJ mo_a H.size hth) (cwV 0 hts (gV t_906 t_907 t_908 t_63 t_909) rfl rfl rfl hd_Model_thrown ⟨Nat.le_trans (Nat.le_of_ble_eq_true rfl) hRf, Nat.le_trans (Nat.le_of_ble_eq_true rfl) hRl⟩) ⟨kP_blind, va_recv hK hPc (ci := 7) (q0 := 0) rfl rfl, kP_at hPc hK hDc hN⟩ rfl rfl hl.1 rfl (lv_room (Nat.le_of_ble_eq_true rfl)) d_law_365 ⟨by omega, by omega⟩) hS (fun q _ h => hFc q h) hFc (fun r9 u t H1 locs ht hvm hw hB hz1 hk1 hS => ?_)
    rw [hw]
    obtain ⟨hP, hD⟩ := pw_join (wr := (wSd cI cZ cJ sd_a w_a v_a (wr_a 0) (rd_a 0) (cu_a 0) (sp_a 0) sd ++ wSy cI cZ cJ cu_a cu ++ wSy cI cZ cJ sp_a sp ++ wBr cI cZ cJ w_a w_b w ++ wBr cI cZ cJ v_a v_b v ++ wWr cI cZ cJ wr_a (cb_a 0) wr ++ wRd cI cZ cJ rd_a (cb_a 0) rd ++ wCb cI cZ cJ cb_a w_a v_a cb ++ wOu cI cZ cJ ou_a ou)) (w1 := (wMo cI cZ cJ mo_a mo')) hP hD pm9 ht hk1 hFc hB
    generalize H1 = H at hP hS ⊢
    have pm9 : ((wSd cI cZ cJ sd_a w_a v_a (wr_a 0) (rd_a 0) (cu_a 0) (sp_a 0) sd ++ wSy cI cZ cJ cu_a cu ++ wSy cI cZ cJ sp_a sp ++ wBr cI cZ cJ w_a w_b w ++ wBr cI cZ cJ v_a v_b v ++ wWr cI cZ cJ wr_a (cb_a 0) wr ++ wRd cI cZ cJ rd_a (cb_a 0) rd ++ wCb cI cZ cJ cb_a w_a v_a cb ++ wOu cI cZ cJ ou_a ou) ++ (wMo cI cZ cJ mo_a mo') : va_W).Perm (wSd cI cZ cJ sd_a w_a v_a (wr_a 0) (rd_a 0) (cu_a 0) (sp_a 0) sd ++ wSy cI cZ cJ cu_a cu ++ wSy cI cZ cJ sp_a sp ++ wBr cI cZ cJ w_a w_b w ++ wBr cI cZ cJ v_a v_b v ++ wWr cI cZ cJ wr_a (cb_a 0) wr ++ wRd cI cZ cJ rd_a (cb_a 0) rd ++ wCb cI cZ cJ cb_a w_a v_a cb ++ wMo cI cZ cJ mo_a mo' ++ wOu cI cZ cJ ou_a ou) := pm_3 _ _ _ _ _ _ _ _ _ _
    have hP : va_P (dC, dI) vwCl (wSd cI cZ cJ sd_a w_a v_a (wr_a 0) (rd_a 0) (cu_a 0) (sp_a 0) sd ++ wSy cI cZ cJ cu_a cu ++ wSy cI cZ cJ sp_a sp ++ wBr cI cZ cJ w_a w_b w ++ wBr cI cZ cJ v_a v_b v ++ wWr cI cZ cJ wr_a (cb_a 0) wr ++ wRd cI cZ cJ rd_a (cb_a 0) rd ++ wCb cI cZ cJ cb_a w_a v_a cb ++ wMo cI cZ cJ mo_a mo' ++ wOu cI cZ cJ ou_a ou) H := pw_P hP (fun q hq => pm9.mem_iff.mpr hq)
    have hD : va_D A (wSd cI cZ cJ sd_a w_a v_a (wr_a 0) (rd_a 0) (cu_a 0) (sp_a 0) sd ++ wSy cI cZ cJ cu_a cu ++ wSy cI cZ cJ sp_a sp ++ wBr cI cZ cJ w_a w_b w ++ wBr cI cZ cJ v_a v_b v ++ wWr cI cZ cJ wr_a (cb_a 0) wr ++ wRd cI cZ cJ rd_a (cb_a 0) rd ++ wCb cI cZ cJ cb_a w_a v_a cb ++ wMo cI cZ cJ mo_a mo' ++ wOu cI cZ cJ ou_a ou) := pw_Dp hD pm9
    refine lv_iload hx hb d_law_368 (lv_at hl 1 rfl) ?_
    refine lv_icmp_eq (tgt := 375) hx hb d_law_370 (by decide) (fun _ => ?_) (fun h9 => absurd hcode h9)
    refine lv_iload hx hb d_law_375 (lv_at hl 1 rfl) ?_
    refine lv_if_ne (tgt := 392) hx hb d_law_377 (by decide) (fun _ => ?_) (fun h9 => absurd h9 (by decide))
    refine lv_goto (tgt := 1131) hx hb d_law_392 (by decide) ?_
    have hl := lv_sub (l' := [(0, .ref b), (1, .ref (sd_a 0)), (2, .ref (mo_a 0)), (3, .ref (ou_a 0)), (4, .int i)]) hl [2, 3, 4, 5, 6] rfl
    refine W.widen (k := j + 1 + Br_byL w + Br_byL v) (n := 6 * (j + 1) + 2 * Br_byL w + 2 * Br_byL v) (by omega) (by omega) ?_
    exact hk _ _ _ cu_a sp_a w_b v_b cu sp w v wr rd cb mo' ou hrel hP hD hS hl
set_option maxHeartbeats 8000000 in
set_option maxRecDepth 100000 in
theorem L_C_at {p : Program} {l : Launch} {e : Env} {R : Room} {s : State} {m : MethodId} {args : Array Value} {below : List Frame} {meth : Method} {c : Code} {Q : State → Prop} {A : Nat → Prop} {dC : Nat → ClassId} {dI : Nat → Nat → Nat} {cI cZ cJ : ClassId} {sd_a cu_a sp_a : Nat → Nat} {w_a w_b v_a v_b : Nat} {wr_a rd_a cb_a mo_a ou_a : Nat → Nat} {sd : Sd} {cu sp : Sy} {w v : Br} {wr : Wr} {rd : Rd} {cb : Cb} {mo : Mo} {ou : Ou} {b L : Nat} {xs : Nat → Int32} {i : Int32} {j : Nat} {Rl : Sd → Sy → Sy → Br → Br → Wr → Rd → Cb → Mo → Prop} (hl9 : l.stackTraces = false) (C0 : lcx p c m s args R (dC, dI) (TYS cI cZ cJ) A b L xs i j) (hRb : ∀ sd cu sp w v wr rd cb mo, Rl sd cu sp w v wr rd cb mo → Br_byL w ≤ 40000 ∧ Br_byL v ≤ 40000) (hR0 : Rl sd cu sp w v wr rd cb mo) (hT0 : T_C_at Rl sd cu sp w v wr rd cb mo (xs (i + 1).toNatClampNeg) (xs (i + 2).toNatClampNeg) (xs (i + 3).toNatClampNeg))
    (hk : ∀ (H : Heap) (locs : List Loc) (ls : Array Slot) (cu_a sp_a : Nat → Nat) (w_b v_b : Nat) (cu sp : Sy) (w v : Br) (wr : Wr) (rd : Rd) (cb : Cb) (mo : Mo) (ou : Ou), Rl sd cu sp w v wr rd cb mo → va_P (dC, dI) vwCl (wSd cI cZ cJ sd_a w_a v_a (wr_a 0) (rd_a 0) (cu_a 0) (sp_a 0) sd ++ wSy cI cZ cJ cu_a cu ++ wSy cI cZ cJ sp_a sp ++ wBr cI cZ cJ w_a w_b w ++ wBr cI cZ cJ v_a v_b v ++ wWr cI cZ cJ wr_a (cb_a 0) wr ++ wRd cI cZ cJ rd_a (cb_a 0) rd ++ wCb cI cZ cJ cb_a w_a v_a cb ++ wMo cI cZ cJ mo_a mo ++ wOu cI cZ cJ ou_a ou) H → va_D A (wSd cI cZ cJ sd_a w_a v_a (wr_a 0) (rd_a 0) (cu_a 0) (sp_a 0) sd ++ wSy cI cZ cJ cu_a cu ++ wSy cI cZ cJ sp_a sp ++ wBr cI cZ cJ w_a w_b w ++ wBr cI cZ cJ v_a v_b v ++ wWr cI cZ cJ wr_a (cb_a 0) wr ++ wRd cI cZ cJ rd_a (cb_a 0) rd ++ wCb cI cZ cJ cb_a w_a v_a cb ++ wMo cI cZ cJ mo_a mo ++ wOu cI cZ cJ ou_a ou) → va_S A s.heap H locs → lv_has ls 7 [(0, .ref b), (1, .ref (sd_a 0)), (2, .ref (mo_a 0)), (3, .ref (ou_a 0)), (4, .int i)] → W p l e R s m args below meth c H locs (j + 1 + Br_byL w + Br_byL v) (6 * (j + 1) + 2 * Br_byL w + 2 * Br_byL v) Q (F0 m 1131 ls []))
    {H : Heap} {locs : List Loc} {ls : Array Slot} (hP : va_P (dC, dI) vwCl (wSd cI cZ cJ sd_a w_a v_a (wr_a 0) (rd_a 0) (cu_a 0) (sp_a 0) sd ++ wSy cI cZ cJ cu_a cu ++ wSy cI cZ cJ sp_a sp ++ wBr cI cZ cJ w_a w_b w ++ wBr cI cZ cJ v_a v_b v ++ wWr cI cZ cJ wr_a (cb_a 0) wr ++ wRd cI cZ cJ rd_a (cb_a 0) rd ++ wCb cI cZ cJ cb_a w_a v_a cb ++ wMo cI cZ cJ mo_a mo ++ wOu cI cZ cJ ou_a ou) H) (hD : va_D A (wSd cI cZ cJ sd_a w_a v_a (wr_a 0) (rd_a 0) (cu_a 0) (sp_a 0) sd ++ wSy cI cZ cJ cu_a cu ++ wSy cI cZ cJ sp_a sp ++ wBr cI cZ cJ w_a w_b w ++ wBr cI cZ cJ v_a v_b v ++ wWr cI cZ cJ wr_a (cb_a 0) wr ++ wRd cI cZ cJ rd_a (cb_a 0) rd ++ wCb cI cZ cJ cb_a w_a v_a cb ++ wMo cI cZ cJ mo_a mo ++ wOu cI cZ cJ ou_a ou)) (hS : va_S A s.heap H locs) (hl : lv_has ls 7 [(0, .ref b), (1, .ref (sd_a 0)), (2, .ref (mo_a 0)), (3, .ref (ou_a 0)), (4, .int i)]) : W p l e R s m args below meth c H locs (j + Br_byL w + Br_byL v) (6 * j + 2 * Br_byL w + 2 * Br_byL v) Q (F0 m 395 ls []) := by
  obtain ⟨hx, hb, hml, hown, hts, hK, hA, hA2, hRf, hRl, hN, hT, hX, hX0, hbl, hin, hj, hRc, hRs⟩ := C0
  have hbA : ¬ A b := fun h => absurd (hA2 b h) (Nat.not_le.mpr hbl)
  obtain ⟨hw0, hv0⟩ := hRb _ _ _ _ _ _ _ _ _ hR0
  unfold T_C_at at hT0
  rcases hT0 with ⟨r, mo', hf, hg, hcode, hrel⟩ | ⟨hf, q, mo', hg, hcode, hrel⟩
  · obtain ⟨ou', heou⟩ : ∃ z : Ou, z = (vp_updL (Ou_f ou) 0 (zl r)) := ⟨_, rfl⟩
    have hf1 : f_Law_at sd cu ou (xs (i + 1).toNatClampNeg) (xs (i + 2).toNatClampNeg) (xs (i + 3).toNatClampNeg) = some (0, ou') := by
      rw [f_Law_at, hf, bd_s, heou]
      by_cases h9 : r = 0
      · rw [zl, if_pos h9]; first | exact Eq.trans (if_pos h9) rfl | (rw [if_pos h9]; rfl)
      · rw [zl, if_neg h9]; first | exact Eq.trans (if_neg h9) rfl | (rw [if_neg h9]; rfl)
    have hou : Ou_f ou' (0 : Int32).toNatClampNeg = (zl r) := by rw [heou]; exact updL_at _ _ _
    refine lv_aload_n hx hb d_law_395 rfl (lv_at hl 1 rfl) ?_
    refine lv_aload_n hx hb d_law_396 rfl (lv_at hl 0 rfl) ?_
    refine lv_iload hx hb d_law_397 (lv_at hl 4 rfl) ?_
    refine lv_iconst (v := 1) hx hb d_law_399 (by decide) ?_
    refine lv_iadd hx hb d_law_400 ?_
    refine va_sld hx hb hX0 hbl hbA hS (hin 1 (by decide) (by decide)) d_law_401 ?_
    refine lv_aload_n hx hb d_law_402 rfl (lv_at hl 0 rfl) ?_
    refine lv_iload hx hb d_law_403 (lv_at hl 4 rfl) ?_
    refine lv_iconst (v := 2) hx hb d_law_405 (by decide) ?_
    refine lv_iadd hx hb d_law_406 ?_
    refine va_sld hx hb hX0 hbl hbA hS (hin 2 (by decide) (by decide)) d_law_407 ?_
    refine lv_aload_n hx hb d_law_408 rfl (lv_at hl 0 rfl) ?_
    refine lv_iload hx hb d_law_409 (lv_at hl 4 rfl) ?_
    refine lv_iconst (v := 3) hx hb d_law_411 (by decide) ?_
    refine lv_iadd hx hb d_law_412 ?_
    refine va_sld hx hb hX0 hbl hbA hS (hin 3 (by decide) (by decide)) d_law_413 ?_
    refine lv_aload_n hx hb d_law_414 rfl (lv_at hl 3 rfl) ?_
    have pm9 : ((wSd cI cZ cJ sd_a w_a v_a (wr_a 0) (rd_a 0) (cu_a 0) (sp_a 0) sd ++ wSy cI cZ cJ cu_a cu ++ wSy cI cZ cJ sp_a sp ++ wBr cI cZ cJ w_a w_b w ++ wBr cI cZ cJ v_a v_b v ++ wWr cI cZ cJ wr_a (cb_a 0) wr ++ wRd cI cZ cJ rd_a (cb_a 0) rd ++ wCb cI cZ cJ cb_a w_a v_a cb ++ wMo cI cZ cJ mo_a mo ++ wOu cI cZ cJ ou_a ou) : va_W).Perm ((wSd cI cZ cJ sd_a w_a v_a (wr_a 0) (rd_a 0) (cu_a 0) (sp_a 0) sd ++ wSy cI cZ cJ cu_a cu ++ wOu cI cZ cJ ou_a ou) ++ (wSy cI cZ cJ sp_a sp ++ wBr cI cZ cJ w_a w_b w ++ wBr cI cZ cJ v_a v_b v ++ wWr cI cZ cJ wr_a (cb_a 0) wr ++ wRd cI cZ cJ rd_a (cb_a 0) rd ++ wCb cI cZ cJ cb_a w_a v_a cb ++ wMo cI cZ cJ mo_a mo)) := pm_0 _ _ _ _ _ _ _ _ _ _
    have hPc := pw_P (ws' := (wSd cI cZ cJ sd_a w_a v_a (wr_a 0) (rd_a 0) (cu_a 0) (sp_a 0) sd ++ wSy cI cZ cJ cu_a cu ++ wOu cI cZ cJ ou_a ou)) hP (fun q hq => pm9.mem_iff.mpr (List.mem_append_left _ hq))
    have hDc := pw_D (wc := (wSd cI cZ cJ sd_a w_a v_a (wr_a 0) (rd_a 0) (cu_a 0) (sp_a 0) sd ++ wSy cI cZ cJ cu_a cu ++ wOu cI cZ cJ ou_a ou)) hD pm9
    have hFc := pw_free (wc := (wSd cI cZ cJ sd_a w_a v_a (wr_a 0) (rd_a 0) (cu_a 0) (sp_a 0) sd ++ wSy cI cZ cJ cu_a cu ++ wOu cI cZ cJ ou_a ou)) hD hS hA (fun q hq => pm9.mem_iff.mpr (List.mem_append_left _ hq))
    refine va_calli (w_runS (As := [.ref (sd_a 0), .int (xs (i + 1).toNatClampNeg), .int (xs (i + 2).toNatClampNeg), .int (xs (i + 3).toNatClampNeg), .ref (ou_a 0)]) (rest := []) ⟨hx, hb, hml, hown, hts⟩ (k_Law_at l dC dI cI cZ cJ sd_a cu_a ou_a w_a v_a (wr_a 0) (rd_a 0) (sp_a 0) H.size hf1) (cwH_of 5 hts t_700 rfl rfl t_53 t_698 t_699 hd_Law_at.2 ⟨Nat.le_trans (Nat.le_of_ble_eq_true rfl) hRf, Nat.le_trans (Nat.le_of_ble_eq_true rfl) hRl⟩) ⟨kP_blind, kP_at hPc hK hDc hN⟩ rfl rfl hl.1 rfl (lv_room (Nat.le_of_ble_eq_true rfl)) d_law_415 ⟨by omega, by omega⟩) hS (fun q _ h => hFc q h) hFc (fun r9 u t H1 locs ht hvm hw hB hz1 hk1 hS => ?_)
    rw [hw]
    obtain ⟨hP, hD⟩ := pw_join (wr := (wSy cI cZ cJ sp_a sp ++ wBr cI cZ cJ w_a w_b w ++ wBr cI cZ cJ v_a v_b v ++ wWr cI cZ cJ wr_a (cb_a 0) wr ++ wRd cI cZ cJ rd_a (cb_a 0) rd ++ wCb cI cZ cJ cb_a w_a v_a cb ++ wMo cI cZ cJ mo_a mo)) (w1 := (wSd cI cZ cJ sd_a w_a v_a (wr_a 0) (rd_a 0) (cu_a 0) (sp_a 0) sd ++ wSy cI cZ cJ cu_a cu ++ wOu cI cZ cJ ou_a ou')) hP hD pm9 ht hk1 hFc hB
    generalize H1 = H at hP hS ⊢
    have pm9 : ((wSy cI cZ cJ sp_a sp ++ wBr cI cZ cJ w_a w_b w ++ wBr cI cZ cJ v_a v_b v ++ wWr cI cZ cJ wr_a (cb_a 0) wr ++ wRd cI cZ cJ rd_a (cb_a 0) rd ++ wCb cI cZ cJ cb_a w_a v_a cb ++ wMo cI cZ cJ mo_a mo) ++ (wSd cI cZ cJ sd_a w_a v_a (wr_a 0) (rd_a 0) (cu_a 0) (sp_a 0) sd ++ wSy cI cZ cJ cu_a cu ++ wOu cI cZ cJ ou_a ou') : va_W).Perm (wSd cI cZ cJ sd_a w_a v_a (wr_a 0) (rd_a 0) (cu_a 0) (sp_a 0) sd ++ wSy cI cZ cJ cu_a cu ++ wSy cI cZ cJ sp_a sp ++ wBr cI cZ cJ w_a w_b w ++ wBr cI cZ cJ v_a v_b v ++ wWr cI cZ cJ wr_a (cb_a 0) wr ++ wRd cI cZ cJ rd_a (cb_a 0) rd ++ wCb cI cZ cJ cb_a w_a v_a cb ++ wMo cI cZ cJ mo_a mo ++ wOu cI cZ cJ ou_a ou') := pm_1 _ _ _ _ _ _ _ _ _ _
    have hP : va_P (dC, dI) vwCl (wSd cI cZ cJ sd_a w_a v_a (wr_a 0) (rd_a 0) (cu_a 0) (sp_a 0) sd ++ wSy cI cZ cJ cu_a cu ++ wSy cI cZ cJ sp_a sp ++ wBr cI cZ cJ w_a w_b w ++ wBr cI cZ cJ v_a v_b v ++ wWr cI cZ cJ wr_a (cb_a 0) wr ++ wRd cI cZ cJ rd_a (cb_a 0) rd ++ wCb cI cZ cJ cb_a w_a v_a cb ++ wMo cI cZ cJ mo_a mo ++ wOu cI cZ cJ ou_a ou') H := pw_P hP (fun q hq => pm9.mem_iff.mpr hq)
    have hD : va_D A (wSd cI cZ cJ sd_a w_a v_a (wr_a 0) (rd_a 0) (cu_a 0) (sp_a 0) sd ++ wSy cI cZ cJ cu_a cu ++ wSy cI cZ cJ sp_a sp ++ wBr cI cZ cJ w_a w_b w ++ wBr cI cZ cJ v_a v_b v ++ wWr cI cZ cJ wr_a (cb_a 0) wr ++ wRd cI cZ cJ rd_a (cb_a 0) rd ++ wCb cI cZ cJ cb_a w_a v_a cb ++ wMo cI cZ cJ mo_a mo ++ wOu cI cZ cJ ou_a ou') := pw_Dp hD pm9
    refine lv_istore (lv' := [(5, .int 0), (0, .ref b), (1, .ref (sd_a 0)), (2, .ref (mo_a 0)), (3, .ref (ou_a 0)), (4, .int i)]) hx hb d_law_418 hl (by decide) rfl (fun ls hl => ?_)
    refine lv_aload_n hx hb d_law_420 rfl (lv_at hl 3 rfl) ?_
    refine lv_aload_n hx hb d_law_421 rfl (lv_at hl 1 rfl) ?_
    refine lv_iload hx hb d_law_422 (lv_at hl 5 rfl) ?_
    refine lv_iconst (v := 1) hx hb d_law_424 (by decide) ?_
    refine lv_iadd hx hb d_law_425 ?_
    refine va_sld hx hb hX0 hbl hbA hS (hin 1 (by decide) (by decide)) d_law_426 ?_
    refine lv_aload_n hx hb d_law_427 rfl (lv_at hl 1 rfl) ?_
    refine lv_iload hx hb d_law_428 (lv_at hl 5 rfl) ?_
    refine lv_iconst (v := 2) hx hb d_law_430 (by decide) ?_
    refine lv_iadd hx hb d_law_431 ?_
    refine va_sld hx hb hX0 hbl hbA hS (hin 2 (by decide) (by decide)) d_law_432 ?_
    refine lv_aload_n hx hb d_law_433 rfl (lv_at hl 1 rfl) ?_
    refine lv_iload hx hb d_law_434 (lv_at hl 5 rfl) ?_
    refine lv_iconst (v := 3) hx hb d_law_436 (by decide) ?_
    refine lv_iadd hx hb d_law_437 ?_
    refine va_sld hx hb hX0 hbl hbA hS (hin 3 (by decide) (by decide)) d_law_438 ?_
    have pm9 : ((wSd cI cZ cJ sd_a w_a v_a (wr_a 0) (rd_a 0) (cu_a 0) (sp_a 0) sd ++ wSy cI cZ cJ cu_a cu ++ wSy cI cZ cJ sp_a sp ++ wBr cI cZ cJ w_a w_b w ++ wBr cI cZ cJ v_a v_b v ++ wWr cI cZ cJ wr_a (cb_a 0) wr ++ wRd cI cZ cJ rd_a (cb_a 0) rd ++ wCb cI cZ cJ cb_a w_a v_a cb ++ wMo cI cZ cJ mo_a mo ++ wOu cI cZ cJ ou_a ou') : va_W).Perm ((wMo cI cZ cJ mo_a mo) ++ (wSd cI cZ cJ sd_a w_a v_a (wr_a 0) (rd_a 0) (cu_a 0) (sp_a 0) sd ++ wSy cI cZ cJ cu_a cu ++ wSy cI cZ cJ sp_a sp ++ wBr cI cZ cJ w_a w_b w ++ wBr cI cZ cJ v_a v_b v ++ wWr cI cZ cJ wr_a (cb_a 0) wr ++ wRd cI cZ cJ rd_a (cb_a 0) rd ++ wCb cI cZ cJ cb_a w_a v_a cb ++ wOu cI cZ cJ ou_a ou')) := pm_2 _ _ _ _ _ _ _ _ _ _
    have hPc := pw_P (ws' := (wMo cI cZ cJ mo_a mo)) hP (fun q hq => pm9.mem_iff.mpr (List.mem_append_left _ hq))
    have hDc := pw_D (wc := (wMo cI cZ cJ mo_a mo)) hD pm9
    have hFc := pw_free (wc := (wMo cI cZ cJ mo_a mo)) hD hS hA (fun q hq => pm9.mem_iff.mpr (List.mem_append_left _ hq))
    refine va_calli (va_runV (As := [.int (xs (i + 1).toNatClampNeg), .int (xs (i + 2).toNatClampNeg), .int (xs (i + 3).toNatClampNeg)]) (rest := []) ⟨hx, hb, hml, hown, hts⟩ (k_Model_at l dC dI cI cZ cJ mo_a H.size hg) (cwV 3 hts (gV t_941 t_942 t_943 t_63 t_944) rfl rfl rfl hd_Model_at ⟨Nat.le_trans (Nat.le_of_ble_eq_true rfl) hRf, Nat.le_trans (Nat.le_of_ble_eq_true rfl) hRl⟩) ⟨kP_blind, va_recv hK hPc (ci := 7) (q0 := 0) rfl rfl, kP_at hPc hK hDc hN⟩ rfl rfl hl.1 rfl (lv_room (Nat.le_of_ble_eq_true rfl)) d_law_439 ⟨by omega, by omega⟩) hS (fun q _ h => hFc q h) hFc (fun r9 u t H1 locs ht hvm hw hB hz1 hk1 hS => ?_)
    rw [hw.1]
    obtain ⟨hP, hD⟩ := pw_join (wr := (wSd cI cZ cJ sd_a w_a v_a (wr_a 0) (rd_a 0) (cu_a 0) (sp_a 0) sd ++ wSy cI cZ cJ cu_a cu ++ wSy cI cZ cJ sp_a sp ++ wBr cI cZ cJ w_a w_b w ++ wBr cI cZ cJ v_a v_b v ++ wWr cI cZ cJ wr_a (cb_a 0) wr ++ wRd cI cZ cJ rd_a (cb_a 0) rd ++ wCb cI cZ cJ cb_a w_a v_a cb ++ wOu cI cZ cJ ou_a ou')) (w1 := (wMo cI cZ cJ mo_a mo')) hP hD pm9 ht hk1 hFc hB
    generalize H1 = H at hP hS ⊢
    have pm9 : ((wSd cI cZ cJ sd_a w_a v_a (wr_a 0) (rd_a 0) (cu_a 0) (sp_a 0) sd ++ wSy cI cZ cJ cu_a cu ++ wSy cI cZ cJ sp_a sp ++ wBr cI cZ cJ w_a w_b w ++ wBr cI cZ cJ v_a v_b v ++ wWr cI cZ cJ wr_a (cb_a 0) wr ++ wRd cI cZ cJ rd_a (cb_a 0) rd ++ wCb cI cZ cJ cb_a w_a v_a cb ++ wOu cI cZ cJ ou_a ou') ++ (wMo cI cZ cJ mo_a mo') : va_W).Perm (wSd cI cZ cJ sd_a w_a v_a (wr_a 0) (rd_a 0) (cu_a 0) (sp_a 0) sd ++ wSy cI cZ cJ cu_a cu ++ wSy cI cZ cJ sp_a sp ++ wBr cI cZ cJ w_a w_b w ++ wBr cI cZ cJ v_a v_b v ++ wWr cI cZ cJ wr_a (cb_a 0) wr ++ wRd cI cZ cJ rd_a (cb_a 0) rd ++ wCb cI cZ cJ cb_a w_a v_a cb ++ wMo cI cZ cJ mo_a mo' ++ wOu cI cZ cJ ou_a ou') := pm_3 _ _ _ _ _ _ _ _ _ _
    have hP : va_P (dC, dI) vwCl (wSd cI cZ cJ sd_a w_a v_a (wr_a 0) (rd_a 0) (cu_a 0) (sp_a 0) sd ++ wSy cI cZ cJ cu_a cu ++ wSy cI cZ cJ sp_a sp ++ wBr cI cZ cJ w_a w_b w ++ wBr cI cZ cJ v_a v_b v ++ wWr cI cZ cJ wr_a (cb_a 0) wr ++ wRd cI cZ cJ rd_a (cb_a 0) rd ++ wCb cI cZ cJ cb_a w_a v_a cb ++ wMo cI cZ cJ mo_a mo' ++ wOu cI cZ cJ ou_a ou') H := pw_P hP (fun q hq => pm9.mem_iff.mpr hq)
    have hD : va_D A (wSd cI cZ cJ sd_a w_a v_a (wr_a 0) (rd_a 0) (cu_a 0) (sp_a 0) sd ++ wSy cI cZ cJ cu_a cu ++ wSy cI cZ cJ sp_a sp ++ wBr cI cZ cJ w_a w_b w ++ wBr cI cZ cJ v_a v_b v ++ wWr cI cZ cJ wr_a (cb_a 0) wr ++ wRd cI cZ cJ rd_a (cb_a 0) rd ++ wCb cI cZ cJ cb_a w_a v_a cb ++ wMo cI cZ cJ mo_a mo' ++ wOu cI cZ cJ ou_a ou') := pw_Dp hD pm9
    refine lv_istore (lv' := [(6, .int r), (5, .int 0), (0, .ref b), (1, .ref (sd_a 0)), (2, .ref (mo_a 0)), (3, .ref (ou_a 0)), (4, .int i)]) hx hb d_law_442 hl (by decide) rfl (fun ls hl => ?_)
    refine lv_aload_n hx hb d_law_444 rfl (lv_at hl 4 rfl) ?_
    have hth : f_Model_thrown mo' = some (Mo_code mo') := rfl
    have pm9 : ((wSd cI cZ cJ sd_a w_a v_a (wr_a 0) (rd_a 0) (cu_a 0) (sp_a 0) sd ++ wSy cI cZ cJ cu_a cu ++ wSy cI cZ cJ sp_a sp ++ wBr cI cZ cJ w_a w_b w ++ wBr cI cZ cJ v_a v_b v ++ wWr cI cZ cJ wr_a (cb_a 0) wr ++ wRd cI cZ cJ rd_a (cb_a 0) rd ++ wCb cI cZ cJ cb_a w_a v_a cb ++ wMo cI cZ cJ mo_a mo' ++ wOu cI cZ cJ ou_a ou') : va_W).Perm ((wMo cI cZ cJ mo_a mo') ++ (wSd cI cZ cJ sd_a w_a v_a (wr_a 0) (rd_a 0) (cu_a 0) (sp_a 0) sd ++ wSy cI cZ cJ cu_a cu ++ wSy cI cZ cJ sp_a sp ++ wBr cI cZ cJ w_a w_b w ++ wBr cI cZ cJ v_a v_b v ++ wWr cI cZ cJ wr_a (cb_a 0) wr ++ wRd cI cZ cJ rd_a (cb_a 0) rd ++ wCb cI cZ cJ cb_a w_a v_a cb ++ wOu cI cZ cJ ou_a ou')) := pm_2 _ _ _ _ _ _ _ _ _ _
    have hPc := pw_P (ws' := (wMo cI cZ cJ mo_a mo')) hP (fun q hq => pm9.mem_iff.mpr (List.mem_append_left _ hq))
    have hDc := pw_D (wc := (wMo cI cZ cJ mo_a mo')) hD pm9
    have hFc := pw_free (wc := (wMo cI cZ cJ mo_a mo')) hD hS hA (fun q hq => pm9.mem_iff.mpr (List.mem_append_left _ hq))
    refine va_calli (va_runV (As := []) (rest := []) ⟨hx, hb, hml, hown, hts⟩ (k_Model_thrown l dC dI cI cZ cJ mo_a H.size hth) (cwV 0 hts (gV t_906 t_907 t_908 t_63 t_909) rfl rfl rfl hd_Model_thrown ⟨Nat.le_trans (Nat.le_of_ble_eq_true rfl) hRf, Nat.le_trans (Nat.le_of_ble_eq_true rfl) hRl⟩) ⟨kP_blind, va_recv hK hPc (ci := 7) (q0 := 0) rfl rfl, kP_at hPc hK hDc hN⟩ rfl rfl hl.1 rfl (lv_room (Nat.le_of_ble_eq_true rfl)) d_law_445 ⟨by omega, by omega⟩) hS (fun q _ h => hFc q h) hFc (fun r9 u t H1 locs ht hvm hw hB hz1 hk1 hS => ?_)
    rw [hw]
    obtain ⟨hP, hD⟩ := pw_join (wr := (wSd cI cZ cJ sd_a w_a v_a (wr_a 0) (rd_a 0) (cu_a 0) (sp_a 0) sd ++ wSy cI cZ cJ cu_a cu ++ wSy cI cZ cJ sp_a sp ++ wBr cI cZ cJ w_a w_b w ++ wBr cI cZ cJ v_a v_b v ++ wWr cI cZ cJ wr_a (cb_a 0) wr ++ wRd cI cZ cJ rd_a (cb_a 0) rd ++ wCb cI cZ cJ cb_a w_a v_a cb ++ wOu cI cZ cJ ou_a ou')) (w1 := (wMo cI cZ cJ mo_a mo')) hP hD pm9 ht hk1 hFc hB
    generalize H1 = H at hP hS ⊢
    have pm9 : ((wSd cI cZ cJ sd_a w_a v_a (wr_a 0) (rd_a 0) (cu_a 0) (sp_a 0) sd ++ wSy cI cZ cJ cu_a cu ++ wSy cI cZ cJ sp_a sp ++ wBr cI cZ cJ w_a w_b w ++ wBr cI cZ cJ v_a v_b v ++ wWr cI cZ cJ wr_a (cb_a 0) wr ++ wRd cI cZ cJ rd_a (cb_a 0) rd ++ wCb cI cZ cJ cb_a w_a v_a cb ++ wOu cI cZ cJ ou_a ou') ++ (wMo cI cZ cJ mo_a mo') : va_W).Perm (wSd cI cZ cJ sd_a w_a v_a (wr_a 0) (rd_a 0) (cu_a 0) (sp_a 0) sd ++ wSy cI cZ cJ cu_a cu ++ wSy cI cZ cJ sp_a sp ++ wBr cI cZ cJ w_a w_b w ++ wBr cI cZ cJ v_a v_b v ++ wWr cI cZ cJ wr_a (cb_a 0) wr ++ wRd cI cZ cJ rd_a (cb_a 0) rd ++ wCb cI cZ cJ cb_a w_a v_a cb ++ wMo cI cZ cJ mo_a mo' ++ wOu cI cZ cJ ou_a ou') := pm_3 _ _ _ _ _ _ _ _ _ _
    have hP : va_P (dC, dI) vwCl (wSd cI cZ cJ sd_a w_a v_a (wr_a 0) (rd_a 0) (cu_a 0) (sp_a 0) sd ++ wSy cI cZ cJ cu_a cu ++ wSy cI cZ cJ sp_a sp ++ wBr cI cZ cJ w_a w_b w ++ wBr cI cZ cJ v_a v_b v ++ wWr cI cZ cJ wr_a (cb_a 0) wr ++ wRd cI cZ cJ rd_a (cb_a 0) rd ++ wCb cI cZ cJ cb_a w_a v_a cb ++ wMo cI cZ cJ mo_a mo' ++ wOu cI cZ cJ ou_a ou') H := pw_P hP (fun q hq => pm9.mem_iff.mpr hq)
    have hD : va_D A (wSd cI cZ cJ sd_a w_a v_a (wr_a 0) (rd_a 0) (cu_a 0) (sp_a 0) sd ++ wSy cI cZ cJ cu_a cu ++ wSy cI cZ cJ sp_a sp ++ wBr cI cZ cJ w_a w_b w ++ wBr cI cZ cJ v_a v_b v ++ wWr cI cZ cJ wr_a (cb_a 0) wr ++ wRd cI cZ cJ rd_a (cb_a 0) rd ++ wCb cI cZ cJ cb_a w_a v_a cb ++ wMo cI cZ cJ mo_a mo' ++ wOu cI cZ cJ ou_a ou') := pw_Dp hD pm9
    refine lv_iload hx hb d_law_448 (lv_at hl 1 rfl) ?_
    refine lv_icmp_eq (tgt := 455) hx hb d_law_450 (by decide) (fun _ => ?_) (fun h9 => absurd hcode h9)
    refine lv_iload hx hb d_law_455 (lv_at hl 1 rfl) ?_
    refine lv_if_ne (tgt := 479) hx hb d_law_457 (by decide) (fun h9 => absurd rfl h9) (fun _ => ?_)
    refine lv_aload_n hx hb d_law_460 rfl (lv_at hl 5 rfl) ?_
    refine lv_iconst (v := 0) hx hb d_law_461 (by decide) ?_
    refine va_lald (f := Ou_f ou') hx hb hK hP 47 2 rfl rfl (inb_in (by decide)) d_law_462 ?_
    refine lv_iload hx hb d_law_463 (lv_at hl 0 rfl) ?_
    refine lw_zl hx hb d_law_465 d_law_468 d_law_469 d_law_472 ?_
    refine W.lcmp hx hb d_law_473 ?_
    refine lv_if_eq (tgt := 479) hx hb d_law_474 (by decide) (fun _ => ?_) (fun h9 => absurd (by rw [hou]; exact cmp_self _) h9)
    refine lv_goto (tgt := 1131) hx hb d_law_479 (by decide) ?_
    have hl := lv_sub (l' := [(0, .ref b), (1, .ref (sd_a 0)), (2, .ref (mo_a 0)), (3, .ref (ou_a 0)), (4, .int i)]) hl [2, 3, 4, 5, 6] rfl
    refine W.widen (k := j + 1 + Br_byL w + Br_byL v) (n := 6 * (j + 1) + 2 * Br_byL w + 2 * Br_byL v) (by omega) (by omega) ?_
    exact hk _ _ _ cu_a sp_a w_b v_b cu sp w v wr rd cb mo' ou' hrel hP hD hS hl
  · refine lv_aload_n hx hb d_law_395 rfl (lv_at hl 1 rfl) ?_
    refine lv_aload_n hx hb d_law_396 rfl (lv_at hl 0 rfl) ?_
    refine lv_iload hx hb d_law_397 (lv_at hl 4 rfl) ?_
    refine lv_iconst (v := 1) hx hb d_law_399 (by decide) ?_
    refine lv_iadd hx hb d_law_400 ?_
    refine va_sld hx hb hX0 hbl hbA hS (hin 1 (by decide) (by decide)) d_law_401 ?_
    refine lv_aload_n hx hb d_law_402 rfl (lv_at hl 0 rfl) ?_
    refine lv_iload hx hb d_law_403 (lv_at hl 4 rfl) ?_
    refine lv_iconst (v := 2) hx hb d_law_405 (by decide) ?_
    refine lv_iadd hx hb d_law_406 ?_
    refine va_sld hx hb hX0 hbl hbA hS (hin 2 (by decide) (by decide)) d_law_407 ?_
    refine lv_aload_n hx hb d_law_408 rfl (lv_at hl 0 rfl) ?_
    refine lv_iload hx hb d_law_409 (lv_at hl 4 rfl) ?_
    refine lv_iconst (v := 3) hx hb d_law_411 (by decide) ?_
    refine lv_iadd hx hb d_law_412 ?_
    refine va_sld hx hb hX0 hbl hbA hS (hin 3 (by decide) (by decide)) d_law_413 ?_
    refine lv_aload_n hx hb d_law_414 rfl (lv_at hl 3 rfl) ?_
    have pm9 : ((wSd cI cZ cJ sd_a w_a v_a (wr_a 0) (rd_a 0) (cu_a 0) (sp_a 0) sd ++ wSy cI cZ cJ cu_a cu ++ wSy cI cZ cJ sp_a sp ++ wBr cI cZ cJ w_a w_b w ++ wBr cI cZ cJ v_a v_b v ++ wWr cI cZ cJ wr_a (cb_a 0) wr ++ wRd cI cZ cJ rd_a (cb_a 0) rd ++ wCb cI cZ cJ cb_a w_a v_a cb ++ wMo cI cZ cJ mo_a mo ++ wOu cI cZ cJ ou_a ou) : va_W).Perm ((wSd cI cZ cJ sd_a w_a v_a (wr_a 0) (rd_a 0) (cu_a 0) (sp_a 0) sd ++ wSy cI cZ cJ cu_a cu ++ wOu cI cZ cJ ou_a ou) ++ (wSy cI cZ cJ sp_a sp ++ wBr cI cZ cJ w_a w_b w ++ wBr cI cZ cJ v_a v_b v ++ wWr cI cZ cJ wr_a (cb_a 0) wr ++ wRd cI cZ cJ rd_a (cb_a 0) rd ++ wCb cI cZ cJ cb_a w_a v_a cb ++ wMo cI cZ cJ mo_a mo)) := pm_0 _ _ _ _ _ _ _ _ _ _
    have hPc := pw_P (ws' := (wSd cI cZ cJ sd_a w_a v_a (wr_a 0) (rd_a 0) (cu_a 0) (sp_a 0) sd ++ wSy cI cZ cJ cu_a cu ++ wOu cI cZ cJ ou_a ou)) hP (fun q hq => pm9.mem_iff.mpr (List.mem_append_left _ hq))
    have hDc := pw_D (wc := (wSd cI cZ cJ sd_a w_a v_a (wr_a 0) (rd_a 0) (cu_a 0) (sp_a 0) sd ++ wSy cI cZ cJ cu_a cu ++ wOu cI cZ cJ ou_a ou)) hD pm9
    have hFc := pw_free (wc := (wSd cI cZ cJ sd_a w_a v_a (wr_a 0) (rd_a 0) (cu_a 0) (sp_a 0) sd ++ wSy cI cZ cJ cu_a cu ++ wOu cI cZ cJ ou_a ou)) hD hS hA (fun q hq => pm9.mem_iff.mpr (List.mem_append_left _ hq))
    refine va_calli (w_runS (As := [.ref (sd_a 0), .int (xs (i + 1).toNatClampNeg), .int (xs (i + 2).toNatClampNeg), .int (xs (i + 3).toNatClampNeg), .ref (ou_a 0)]) (rest := []) ⟨hx, hb, hml, hown, hts⟩ (kx_Law_at_3 l hl9 dC dI cI cZ cJ sd_a cu_a ou_a w_a v_a (wr_a 0) (rd_a 0) (sp_a 0) H.size hf) (cwH_of 5 hts t_700 rfl rfl t_53 t_698 t_699 hd_Law_at.2 ⟨Nat.le_trans (Nat.le_of_ble_eq_true rfl) hRf, Nat.le_trans (Nat.le_of_ble_eq_true rfl) hRl⟩) ⟨kPX_blind, kPX_at hPc hK hDc hN (fun q hq => hS.2.1 q hq (fun h9 => absurd (hA2 q h9) (Nat.not_le.mpr hq))) hT hX⟩ rfl rfl hl.1 rfl (lv_room (Nat.le_of_ble_eq_true rfl)) d_law_415 ⟨by omega, by omega⟩) hS (fun q _ h => hFc q h) hFc (fun r9 u t H1 locs ht hvm hw hB hz1 hk1 hS => ?_)
    rw [hw]
    obtain ⟨hP, hD⟩ := pw_join (wr := (wSy cI cZ cJ sp_a sp ++ wBr cI cZ cJ w_a w_b w ++ wBr cI cZ cJ v_a v_b v ++ wWr cI cZ cJ wr_a (cb_a 0) wr ++ wRd cI cZ cJ rd_a (cb_a 0) rd ++ wCb cI cZ cJ cb_a w_a v_a cb ++ wMo cI cZ cJ mo_a mo)) (w1 := (wSd cI cZ cJ sd_a w_a v_a (wr_a 0) (rd_a 0) (cu_a 0) (sp_a 0) sd ++ wSy cI cZ cJ cu_a cu ++ wOu cI cZ cJ ou_a ou)) hP hD pm9 ht hk1 hFc hB
    generalize H1 = H at hP hS ⊢
    have pm9 : ((wSy cI cZ cJ sp_a sp ++ wBr cI cZ cJ w_a w_b w ++ wBr cI cZ cJ v_a v_b v ++ wWr cI cZ cJ wr_a (cb_a 0) wr ++ wRd cI cZ cJ rd_a (cb_a 0) rd ++ wCb cI cZ cJ cb_a w_a v_a cb ++ wMo cI cZ cJ mo_a mo) ++ (wSd cI cZ cJ sd_a w_a v_a (wr_a 0) (rd_a 0) (cu_a 0) (sp_a 0) sd ++ wSy cI cZ cJ cu_a cu ++ wOu cI cZ cJ ou_a ou) : va_W).Perm (wSd cI cZ cJ sd_a w_a v_a (wr_a 0) (rd_a 0) (cu_a 0) (sp_a 0) sd ++ wSy cI cZ cJ cu_a cu ++ wSy cI cZ cJ sp_a sp ++ wBr cI cZ cJ w_a w_b w ++ wBr cI cZ cJ v_a v_b v ++ wWr cI cZ cJ wr_a (cb_a 0) wr ++ wRd cI cZ cJ rd_a (cb_a 0) rd ++ wCb cI cZ cJ cb_a w_a v_a cb ++ wMo cI cZ cJ mo_a mo ++ wOu cI cZ cJ ou_a ou) := pm_1 _ _ _ _ _ _ _ _ _ _
    have hP : va_P (dC, dI) vwCl (wSd cI cZ cJ sd_a w_a v_a (wr_a 0) (rd_a 0) (cu_a 0) (sp_a 0) sd ++ wSy cI cZ cJ cu_a cu ++ wSy cI cZ cJ sp_a sp ++ wBr cI cZ cJ w_a w_b w ++ wBr cI cZ cJ v_a v_b v ++ wWr cI cZ cJ wr_a (cb_a 0) wr ++ wRd cI cZ cJ rd_a (cb_a 0) rd ++ wCb cI cZ cJ cb_a w_a v_a cb ++ wMo cI cZ cJ mo_a mo ++ wOu cI cZ cJ ou_a ou) H := pw_P hP (fun q hq => pm9.mem_iff.mpr hq)
    have hD : va_D A (wSd cI cZ cJ sd_a w_a v_a (wr_a 0) (rd_a 0) (cu_a 0) (sp_a 0) sd ++ wSy cI cZ cJ cu_a cu ++ wSy cI cZ cJ sp_a sp ++ wBr cI cZ cJ w_a w_b w ++ wBr cI cZ cJ v_a v_b v ++ wWr cI cZ cJ wr_a (cb_a 0) wr ++ wRd cI cZ cJ rd_a (cb_a 0) rd ++ wCb cI cZ cJ cb_a w_a v_a cb ++ wMo cI cZ cJ mo_a mo ++ wOu cI cZ cJ ou_a ou) := pw_Dp hD pm9
    refine lv_istore (lv' := [(5, .int 1), (0, .ref b), (1, .ref (sd_a 0)), (2, .ref (mo_a 0)), (3, .ref (ou_a 0)), (4, .int i)]) hx hb d_law_418 hl (by decide) rfl (fun ls hl => ?_)
    refine lv_aload_n hx hb d_law_420 rfl (lv_at hl 3 rfl) ?_
    refine lv_aload_n hx hb d_law_421 rfl (lv_at hl 1 rfl) ?_
    refine lv_iload hx hb d_law_422 (lv_at hl 5 rfl) ?_
    refine lv_iconst (v := 1) hx hb d_law_424 (by decide) ?_
    refine lv_iadd hx hb d_law_425 ?_
    refine va_sld hx hb hX0 hbl hbA hS (hin 1 (by decide) (by decide)) d_law_426 ?_
    refine lv_aload_n hx hb d_law_427 rfl (lv_at hl 1 rfl) ?_
    refine lv_iload hx hb d_law_428 (lv_at hl 5 rfl) ?_
    refine lv_iconst (v := 2) hx hb d_law_430 (by decide) ?_
    refine lv_iadd hx hb d_law_431 ?_
    refine va_sld hx hb hX0 hbl hbA hS (hin 2 (by decide) (by decide)) d_law_432 ?_
    refine lv_aload_n hx hb d_law_433 rfl (lv_at hl 1 rfl) ?_
    refine lv_iload hx hb d_law_434 (lv_at hl 5 rfl) ?_
    refine lv_iconst (v := 3) hx hb d_law_436 (by decide) ?_
    refine lv_iadd hx hb d_law_437 ?_
    refine va_sld hx hb hX0 hbl hbA hS (hin 3 (by decide) (by decide)) d_law_438 ?_
    have pm9 : ((wSd cI cZ cJ sd_a w_a v_a (wr_a 0) (rd_a 0) (cu_a 0) (sp_a 0) sd ++ wSy cI cZ cJ cu_a cu ++ wSy cI cZ cJ sp_a sp ++ wBr cI cZ cJ w_a w_b w ++ wBr cI cZ cJ v_a v_b v ++ wWr cI cZ cJ wr_a (cb_a 0) wr ++ wRd cI cZ cJ rd_a (cb_a 0) rd ++ wCb cI cZ cJ cb_a w_a v_a cb ++ wMo cI cZ cJ mo_a mo ++ wOu cI cZ cJ ou_a ou) : va_W).Perm ((wMo cI cZ cJ mo_a mo) ++ (wSd cI cZ cJ sd_a w_a v_a (wr_a 0) (rd_a 0) (cu_a 0) (sp_a 0) sd ++ wSy cI cZ cJ cu_a cu ++ wSy cI cZ cJ sp_a sp ++ wBr cI cZ cJ w_a w_b w ++ wBr cI cZ cJ v_a v_b v ++ wWr cI cZ cJ wr_a (cb_a 0) wr ++ wRd cI cZ cJ rd_a (cb_a 0) rd ++ wCb cI cZ cJ cb_a w_a v_a cb ++ wOu cI cZ cJ ou_a ou)) := pm_2 _ _ _ _ _ _ _ _ _ _
    have hPc := pw_P (ws' := (wMo cI cZ cJ mo_a mo)) hP (fun q hq => pm9.mem_iff.mpr (List.mem_append_left _ hq))
    have hDc := pw_D (wc := (wMo cI cZ cJ mo_a mo)) hD pm9
    have hFc := pw_free (wc := (wMo cI cZ cJ mo_a mo)) hD hS hA (fun q hq => pm9.mem_iff.mpr (List.mem_append_left _ hq))
    refine va_calli (va_runV (As := [.int (xs (i + 1).toNatClampNeg), .int (xs (i + 2).toNatClampNeg), .int (xs (i + 3).toNatClampNeg)]) (rest := []) ⟨hx, hb, hml, hown, hts⟩ (k_Model_at l dC dI cI cZ cJ mo_a H.size hg) (cwV 3 hts (gV t_941 t_942 t_943 t_63 t_944) rfl rfl rfl hd_Model_at ⟨Nat.le_trans (Nat.le_of_ble_eq_true rfl) hRf, Nat.le_trans (Nat.le_of_ble_eq_true rfl) hRl⟩) ⟨kP_blind, va_recv hK hPc (ci := 7) (q0 := 0) rfl rfl, kP_at hPc hK hDc hN⟩ rfl rfl hl.1 rfl (lv_room (Nat.le_of_ble_eq_true rfl)) d_law_439 ⟨by omega, by omega⟩) hS (fun q _ h => hFc q h) hFc (fun r9 u t H1 locs ht hvm hw hB hz1 hk1 hS => ?_)
    rw [hw.1]
    obtain ⟨hP, hD⟩ := pw_join (wr := (wSd cI cZ cJ sd_a w_a v_a (wr_a 0) (rd_a 0) (cu_a 0) (sp_a 0) sd ++ wSy cI cZ cJ cu_a cu ++ wSy cI cZ cJ sp_a sp ++ wBr cI cZ cJ w_a w_b w ++ wBr cI cZ cJ v_a v_b v ++ wWr cI cZ cJ wr_a (cb_a 0) wr ++ wRd cI cZ cJ rd_a (cb_a 0) rd ++ wCb cI cZ cJ cb_a w_a v_a cb ++ wOu cI cZ cJ ou_a ou)) (w1 := (wMo cI cZ cJ mo_a mo')) hP hD pm9 ht hk1 hFc hB
    generalize H1 = H at hP hS ⊢
    have pm9 : ((wSd cI cZ cJ sd_a w_a v_a (wr_a 0) (rd_a 0) (cu_a 0) (sp_a 0) sd ++ wSy cI cZ cJ cu_a cu ++ wSy cI cZ cJ sp_a sp ++ wBr cI cZ cJ w_a w_b w ++ wBr cI cZ cJ v_a v_b v ++ wWr cI cZ cJ wr_a (cb_a 0) wr ++ wRd cI cZ cJ rd_a (cb_a 0) rd ++ wCb cI cZ cJ cb_a w_a v_a cb ++ wOu cI cZ cJ ou_a ou) ++ (wMo cI cZ cJ mo_a mo') : va_W).Perm (wSd cI cZ cJ sd_a w_a v_a (wr_a 0) (rd_a 0) (cu_a 0) (sp_a 0) sd ++ wSy cI cZ cJ cu_a cu ++ wSy cI cZ cJ sp_a sp ++ wBr cI cZ cJ w_a w_b w ++ wBr cI cZ cJ v_a v_b v ++ wWr cI cZ cJ wr_a (cb_a 0) wr ++ wRd cI cZ cJ rd_a (cb_a 0) rd ++ wCb cI cZ cJ cb_a w_a v_a cb ++ wMo cI cZ cJ mo_a mo' ++ wOu cI cZ cJ ou_a ou) := pm_3 _ _ _ _ _ _ _ _ _ _
    have hP : va_P (dC, dI) vwCl (wSd cI cZ cJ sd_a w_a v_a (wr_a 0) (rd_a 0) (cu_a 0) (sp_a 0) sd ++ wSy cI cZ cJ cu_a cu ++ wSy cI cZ cJ sp_a sp ++ wBr cI cZ cJ w_a w_b w ++ wBr cI cZ cJ v_a v_b v ++ wWr cI cZ cJ wr_a (cb_a 0) wr ++ wRd cI cZ cJ rd_a (cb_a 0) rd ++ wCb cI cZ cJ cb_a w_a v_a cb ++ wMo cI cZ cJ mo_a mo' ++ wOu cI cZ cJ ou_a ou) H := pw_P hP (fun q hq => pm9.mem_iff.mpr hq)
    have hD : va_D A (wSd cI cZ cJ sd_a w_a v_a (wr_a 0) (rd_a 0) (cu_a 0) (sp_a 0) sd ++ wSy cI cZ cJ cu_a cu ++ wSy cI cZ cJ sp_a sp ++ wBr cI cZ cJ w_a w_b w ++ wBr cI cZ cJ v_a v_b v ++ wWr cI cZ cJ wr_a (cb_a 0) wr ++ wRd cI cZ cJ rd_a (cb_a 0) rd ++ wCb cI cZ cJ cb_a w_a v_a cb ++ wMo cI cZ cJ mo_a mo' ++ wOu cI cZ cJ ou_a ou) := pw_Dp hD pm9
    refine lv_istore (lv' := [(6, .int q), (5, .int 1), (0, .ref b), (1, .ref (sd_a 0)), (2, .ref (mo_a 0)), (3, .ref (ou_a 0)), (4, .int i)]) hx hb d_law_442 hl (by decide) rfl (fun ls hl => ?_)
    refine lv_aload_n hx hb d_law_444 rfl (lv_at hl 4 rfl) ?_
    have hth : f_Model_thrown mo' = some (Mo_code mo') := rfl
    have pm9 : ((wSd cI cZ cJ sd_a w_a v_a (wr_a 0) (rd_a 0) (cu_a 0) (sp_a 0) sd ++ wSy cI cZ cJ cu_a cu ++ wSy cI cZ cJ sp_a sp ++ wBr cI cZ cJ w_a w_b w ++ wBr cI cZ cJ v_a v_b v ++ wWr cI cZ cJ wr_a (cb_a 0) wr ++ wRd cI cZ cJ rd_a (cb_a 0) rd ++ wCb cI cZ cJ cb_a w_a v_a cb ++ wMo cI cZ cJ mo_a mo' ++ wOu cI cZ cJ ou_a ou) : va_W).Perm ((wMo cI cZ cJ mo_a mo') ++ (wSd cI cZ cJ sd_a w_a v_a (wr_a 0) (rd_a 0) (cu_a 0) (sp_a 0) sd ++ wSy cI cZ cJ cu_a cu ++ wSy cI cZ cJ sp_a sp ++ wBr cI cZ cJ w_a w_b w ++ wBr cI cZ cJ v_a v_b v ++ wWr cI cZ cJ wr_a (cb_a 0) wr ++ wRd cI cZ cJ rd_a (cb_a 0) rd ++ wCb cI cZ cJ cb_a w_a v_a cb ++ wOu cI cZ cJ ou_a ou)) := pm_2 _ _ _ _ _ _ _ _ _ _
    have hPc := pw_P (ws' := (wMo cI cZ cJ mo_a mo')) hP (fun q hq => pm9.mem_iff.mpr (List.mem_append_left _ hq))
    have hDc := pw_D (wc := (wMo cI cZ cJ mo_a mo')) hD pm9
    have hFc := pw_free (wc := (wMo cI cZ cJ mo_a mo')) hD hS hA (fun q hq => pm9.mem_iff.mpr (List.mem_append_left _ hq))
    refine va_calli (va_runV (As := []) (rest := []) ⟨hx, hb, hml, hown, hts⟩ (k_Model_thrown l dC dI cI cZ cJ mo_a H.size hth) (cwV 0 hts (gV t_906 t_907 t_908 t_63 t_909) rfl rfl rfl hd_Model_thrown ⟨Nat.le_trans (Nat.le_of_ble_eq_true rfl) hRf, Nat.le_trans (Nat.le_of_ble_eq_true rfl) hRl⟩) ⟨kP_blind, va_recv hK hPc (ci := 7) (q0 := 0) rfl rfl, kP_at hPc hK hDc hN⟩ rfl rfl hl.1 rfl (lv_room (Nat.le_of_ble_eq_true rfl)) d_law_445 ⟨by omega, by omega⟩) hS (fun q _ h => hFc q h) hFc (fun r9 u t H1 locs ht hvm hw hB hz1 hk1 hS => ?_)
    rw [hw]
    obtain ⟨hP, hD⟩ := pw_join (wr := (wSd cI cZ cJ sd_a w_a v_a (wr_a 0) (rd_a 0) (cu_a 0) (sp_a 0) sd ++ wSy cI cZ cJ cu_a cu ++ wSy cI cZ cJ sp_a sp ++ wBr cI cZ cJ w_a w_b w ++ wBr cI cZ cJ v_a v_b v ++ wWr cI cZ cJ wr_a (cb_a 0) wr ++ wRd cI cZ cJ rd_a (cb_a 0) rd ++ wCb cI cZ cJ cb_a w_a v_a cb ++ wOu cI cZ cJ ou_a ou)) (w1 := (wMo cI cZ cJ mo_a mo')) hP hD pm9 ht hk1 hFc hB
    generalize H1 = H at hP hS ⊢
    have pm9 : ((wSd cI cZ cJ sd_a w_a v_a (wr_a 0) (rd_a 0) (cu_a 0) (sp_a 0) sd ++ wSy cI cZ cJ cu_a cu ++ wSy cI cZ cJ sp_a sp ++ wBr cI cZ cJ w_a w_b w ++ wBr cI cZ cJ v_a v_b v ++ wWr cI cZ cJ wr_a (cb_a 0) wr ++ wRd cI cZ cJ rd_a (cb_a 0) rd ++ wCb cI cZ cJ cb_a w_a v_a cb ++ wOu cI cZ cJ ou_a ou) ++ (wMo cI cZ cJ mo_a mo') : va_W).Perm (wSd cI cZ cJ sd_a w_a v_a (wr_a 0) (rd_a 0) (cu_a 0) (sp_a 0) sd ++ wSy cI cZ cJ cu_a cu ++ wSy cI cZ cJ sp_a sp ++ wBr cI cZ cJ w_a w_b w ++ wBr cI cZ cJ v_a v_b v ++ wWr cI cZ cJ wr_a (cb_a 0) wr ++ wRd cI cZ cJ rd_a (cb_a 0) rd ++ wCb cI cZ cJ cb_a w_a v_a cb ++ wMo cI cZ cJ mo_a mo' ++ wOu cI cZ cJ ou_a ou) := pm_3 _ _ _ _ _ _ _ _ _ _
    have hP : va_P (dC, dI) vwCl (wSd cI cZ cJ sd_a w_a v_a (wr_a 0) (rd_a 0) (cu_a 0) (sp_a 0) sd ++ wSy cI cZ cJ cu_a cu ++ wSy cI cZ cJ sp_a sp ++ wBr cI cZ cJ w_a w_b w ++ wBr cI cZ cJ v_a v_b v ++ wWr cI cZ cJ wr_a (cb_a 0) wr ++ wRd cI cZ cJ rd_a (cb_a 0) rd ++ wCb cI cZ cJ cb_a w_a v_a cb ++ wMo cI cZ cJ mo_a mo' ++ wOu cI cZ cJ ou_a ou) H := pw_P hP (fun q hq => pm9.mem_iff.mpr hq)
    have hD : va_D A (wSd cI cZ cJ sd_a w_a v_a (wr_a 0) (rd_a 0) (cu_a 0) (sp_a 0) sd ++ wSy cI cZ cJ cu_a cu ++ wSy cI cZ cJ sp_a sp ++ wBr cI cZ cJ w_a w_b w ++ wBr cI cZ cJ v_a v_b v ++ wWr cI cZ cJ wr_a (cb_a 0) wr ++ wRd cI cZ cJ rd_a (cb_a 0) rd ++ wCb cI cZ cJ cb_a w_a v_a cb ++ wMo cI cZ cJ mo_a mo' ++ wOu cI cZ cJ ou_a ou) := pw_Dp hD pm9
    refine lv_iload hx hb d_law_448 (lv_at hl 1 rfl) ?_
    refine lv_icmp_eq (tgt := 455) hx hb d_law_450 (by decide) (fun _ => ?_) (fun h9 => absurd hcode h9)
    refine lv_iload hx hb d_law_455 (lv_at hl 1 rfl) ?_
    refine lv_if_ne (tgt := 479) hx hb d_law_457 (by decide) (fun _ => ?_) (fun h9 => absurd h9 (by decide))
    refine lv_goto (tgt := 1131) hx hb d_law_479 (by decide) ?_
    have hl := lv_sub (l' := [(0, .ref b), (1, .ref (sd_a 0)), (2, .ref (mo_a 0)), (3, .ref (ou_a 0)), (4, .int i)]) hl [2, 3, 4, 5, 6] rfl
    refine W.widen (k := j + 1 + Br_byL w + Br_byL v) (n := 6 * (j + 1) + 2 * Br_byL w + 2 * Br_byL v) (by omega) (by omega) ?_
    exact hk _ _ _ cu_a sp_a w_b v_b cu sp w v wr rd cb mo' ou hrel hP hD hS hl
set_option maxHeartbeats 8000000 in
set_option maxRecDepth 100000 in
theorem L_C_refined {p : Program} {l : Launch} {e : Env} {R : Room} {s : State} {m : MethodId} {args : Array Value} {below : List Frame} {meth : Method} {c : Code} {Q : State → Prop} {A : Nat → Prop} {dC : Nat → ClassId} {dI : Nat → Nat → Nat} {cI cZ cJ : ClassId} {sd_a cu_a sp_a : Nat → Nat} {w_a w_b v_a v_b : Nat} {wr_a rd_a cb_a mo_a ou_a : Nat → Nat} {sd : Sd} {cu sp : Sy} {w v : Br} {wr : Wr} {rd : Rd} {cb : Cb} {mo : Mo} {ou : Ou} {b L : Nat} {xs : Nat → Int32} {i : Int32} {j : Nat} {Rl : Sd → Sy → Sy → Br → Br → Wr → Rd → Cb → Mo → Prop} (hl9 : l.stackTraces = false) (C0 : lcx p c m s args R (dC, dI) (TYS cI cZ cJ) A b L xs i j) (hRb : ∀ sd cu sp w v wr rd cb mo, Rl sd cu sp w v wr rd cb mo → Br_byL w ≤ 40000 ∧ Br_byL v ≤ 40000) (hR0 : Rl sd cu sp w v wr rd cb mo) (hT0 : T_C_refined Rl sd cu sp w v wr rd cb mo (xs (i + 1).toNatClampNeg) (xs (i + 2).toNatClampNeg) (xs (i + 3).toNatClampNeg) (xs (i + 4).toNatClampNeg))
    (hk : ∀ (H : Heap) (locs : List Loc) (ls : Array Slot) (cu_a sp_a : Nat → Nat) (w_b v_b : Nat) (cu sp : Sy) (w v : Br) (wr : Wr) (rd : Rd) (cb : Cb) (mo : Mo) (ou : Ou), Rl sd cu sp w v wr rd cb mo → va_P (dC, dI) vwCl (wSd cI cZ cJ sd_a w_a v_a (wr_a 0) (rd_a 0) (cu_a 0) (sp_a 0) sd ++ wSy cI cZ cJ cu_a cu ++ wSy cI cZ cJ sp_a sp ++ wBr cI cZ cJ w_a w_b w ++ wBr cI cZ cJ v_a v_b v ++ wWr cI cZ cJ wr_a (cb_a 0) wr ++ wRd cI cZ cJ rd_a (cb_a 0) rd ++ wCb cI cZ cJ cb_a w_a v_a cb ++ wMo cI cZ cJ mo_a mo ++ wOu cI cZ cJ ou_a ou) H → va_D A (wSd cI cZ cJ sd_a w_a v_a (wr_a 0) (rd_a 0) (cu_a 0) (sp_a 0) sd ++ wSy cI cZ cJ cu_a cu ++ wSy cI cZ cJ sp_a sp ++ wBr cI cZ cJ w_a w_b w ++ wBr cI cZ cJ v_a v_b v ++ wWr cI cZ cJ wr_a (cb_a 0) wr ++ wRd cI cZ cJ rd_a (cb_a 0) rd ++ wCb cI cZ cJ cb_a w_a v_a cb ++ wMo cI cZ cJ mo_a mo ++ wOu cI cZ cJ ou_a ou) → va_S A s.heap H locs → lv_has ls 7 [(0, .ref b), (1, .ref (sd_a 0)), (2, .ref (mo_a 0)), (3, .ref (ou_a 0)), (4, .int i)] → W p l e R s m args below meth c H locs (j + 1 + Br_byL w + Br_byL v) (6 * (j + 1) + 2 * Br_byL w + 2 * Br_byL v) Q (F0 m 1131 ls []))
    {H : Heap} {locs : List Loc} {ls : Array Slot} (hP : va_P (dC, dI) vwCl (wSd cI cZ cJ sd_a w_a v_a (wr_a 0) (rd_a 0) (cu_a 0) (sp_a 0) sd ++ wSy cI cZ cJ cu_a cu ++ wSy cI cZ cJ sp_a sp ++ wBr cI cZ cJ w_a w_b w ++ wBr cI cZ cJ v_a v_b v ++ wWr cI cZ cJ wr_a (cb_a 0) wr ++ wRd cI cZ cJ rd_a (cb_a 0) rd ++ wCb cI cZ cJ cb_a w_a v_a cb ++ wMo cI cZ cJ mo_a mo ++ wOu cI cZ cJ ou_a ou) H) (hD : va_D A (wSd cI cZ cJ sd_a w_a v_a (wr_a 0) (rd_a 0) (cu_a 0) (sp_a 0) sd ++ wSy cI cZ cJ cu_a cu ++ wSy cI cZ cJ sp_a sp ++ wBr cI cZ cJ w_a w_b w ++ wBr cI cZ cJ v_a v_b v ++ wWr cI cZ cJ wr_a (cb_a 0) wr ++ wRd cI cZ cJ rd_a (cb_a 0) rd ++ wCb cI cZ cJ cb_a w_a v_a cb ++ wMo cI cZ cJ mo_a mo ++ wOu cI cZ cJ ou_a ou)) (hS : va_S A s.heap H locs) (hl : lv_has ls 7 [(0, .ref b), (1, .ref (sd_a 0)), (2, .ref (mo_a 0)), (3, .ref (ou_a 0)), (4, .int i)]) : W p l e R s m args below meth c H locs (j + Br_byL w + Br_byL v) (6 * j + 2 * Br_byL w + 2 * Br_byL v) Q (F0 m 482 ls []) := by
  obtain ⟨hx, hb, hml, hown, hts, hK, hA, hA2, hRf, hRl, hN, hT, hX, hX0, hbl, hin, hj, hRc, hRs⟩ := C0
  have hbA : ¬ A b := fun h => absurd (hA2 b h) (Nat.not_le.mpr hbl)
  obtain ⟨hw0, hv0⟩ := hRb _ _ _ _ _ _ _ _ _ hR0
  unfold T_C_refined at hT0
  rcases hT0 with ⟨r, cu', mo', hf, hg, hcode, hrel⟩ | ⟨hf, q, mo', hg, hcode, hrel⟩ | ⟨hf, q, mo', hg, hcode, hrel⟩ | ⟨hf, q, mo', hg, hcode, hrel⟩
  · obtain ⟨ou', heou⟩ : ∃ z : Ou, z = (vp_updL (Ou_f ou) 0 r.toInt64) := ⟨_, rfl⟩
    have hf1 : f_Law_refined sd cu ou (xs (i + 1).toNatClampNeg) (xs (i + 2).toNatClampNeg) (xs (i + 3).toNatClampNeg) (xs (i + 4).toNatClampNeg) = some (0, cu', ou') := by
      rw [f_Law_refined, hf, bd_s, heou]
      rfl
    have hou : Ou_f ou' (0 : Int32).toNatClampNeg = r.toInt64 := by rw [heou]; exact updL_at _ _ _
    refine lv_aload_n hx hb d_law_482 rfl (lv_at hl 1 rfl) ?_
    refine lv_aload_n hx hb d_law_483 rfl (lv_at hl 0 rfl) ?_
    refine lv_iload hx hb d_law_484 (lv_at hl 4 rfl) ?_
    refine lv_iconst (v := 1) hx hb d_law_486 (by decide) ?_
    refine lv_iadd hx hb d_law_487 ?_
    refine va_sld hx hb hX0 hbl hbA hS (hin 1 (by decide) (by decide)) d_law_488 ?_
    refine lv_aload_n hx hb d_law_489 rfl (lv_at hl 0 rfl) ?_
    refine lv_iload hx hb d_law_490 (lv_at hl 4 rfl) ?_
    refine lv_iconst (v := 2) hx hb d_law_492 (by decide) ?_
    refine lv_iadd hx hb d_law_493 ?_
    refine va_sld hx hb hX0 hbl hbA hS (hin 2 (by decide) (by decide)) d_law_494 ?_
    refine lv_aload_n hx hb d_law_495 rfl (lv_at hl 0 rfl) ?_
    refine lv_iload hx hb d_law_496 (lv_at hl 4 rfl) ?_
    refine lv_iconst (v := 3) hx hb d_law_498 (by decide) ?_
    refine lv_iadd hx hb d_law_499 ?_
    refine va_sld hx hb hX0 hbl hbA hS (hin 3 (by decide) (by decide)) d_law_500 ?_
    refine lv_aload_n hx hb d_law_501 rfl (lv_at hl 0 rfl) ?_
    refine lv_iload hx hb d_law_502 (lv_at hl 4 rfl) ?_
    refine lv_iconst (v := 4) hx hb d_law_504 (by decide) ?_
    refine lv_iadd hx hb d_law_505 ?_
    refine va_sld hx hb hX0 hbl hbA hS (hin 4 (by decide) (by decide)) d_law_506 ?_
    refine lv_aload_n hx hb d_law_507 rfl (lv_at hl 3 rfl) ?_
    have pm9 : ((wSd cI cZ cJ sd_a w_a v_a (wr_a 0) (rd_a 0) (cu_a 0) (sp_a 0) sd ++ wSy cI cZ cJ cu_a cu ++ wSy cI cZ cJ sp_a sp ++ wBr cI cZ cJ w_a w_b w ++ wBr cI cZ cJ v_a v_b v ++ wWr cI cZ cJ wr_a (cb_a 0) wr ++ wRd cI cZ cJ rd_a (cb_a 0) rd ++ wCb cI cZ cJ cb_a w_a v_a cb ++ wMo cI cZ cJ mo_a mo ++ wOu cI cZ cJ ou_a ou) : va_W).Perm ((wSd cI cZ cJ sd_a w_a v_a (wr_a 0) (rd_a 0) (cu_a 0) (sp_a 0) sd ++ wSy cI cZ cJ cu_a cu ++ wOu cI cZ cJ ou_a ou) ++ (wSy cI cZ cJ sp_a sp ++ wBr cI cZ cJ w_a w_b w ++ wBr cI cZ cJ v_a v_b v ++ wWr cI cZ cJ wr_a (cb_a 0) wr ++ wRd cI cZ cJ rd_a (cb_a 0) rd ++ wCb cI cZ cJ cb_a w_a v_a cb ++ wMo cI cZ cJ mo_a mo)) := pm_0 _ _ _ _ _ _ _ _ _ _
    have hPc := pw_P (ws' := (wSd cI cZ cJ sd_a w_a v_a (wr_a 0) (rd_a 0) (cu_a 0) (sp_a 0) sd ++ wSy cI cZ cJ cu_a cu ++ wOu cI cZ cJ ou_a ou)) hP (fun q hq => pm9.mem_iff.mpr (List.mem_append_left _ hq))
    have hDc := pw_D (wc := (wSd cI cZ cJ sd_a w_a v_a (wr_a 0) (rd_a 0) (cu_a 0) (sp_a 0) sd ++ wSy cI cZ cJ cu_a cu ++ wOu cI cZ cJ ou_a ou)) hD pm9
    have hFc := pw_free (wc := (wSd cI cZ cJ sd_a w_a v_a (wr_a 0) (rd_a 0) (cu_a 0) (sp_a 0) sd ++ wSy cI cZ cJ cu_a cu ++ wOu cI cZ cJ ou_a ou)) hD hS hA (fun q hq => pm9.mem_iff.mpr (List.mem_append_left _ hq))
    refine va_calli (w_runS (As := [.ref (sd_a 0), .int (xs (i + 1).toNatClampNeg), .int (xs (i + 2).toNatClampNeg), .int (xs (i + 3).toNatClampNeg), .int (xs (i + 4).toNatClampNeg), .ref (ou_a 0)]) (rest := []) ⟨hx, hb, hml, hown, hts⟩ (k_Law_refined l dC dI cI cZ cJ sd_a cu_a ou_a w_a v_a (wr_a 0) (rd_a 0) (sp_a 0) H.size hf1) (cwH_of 6 hts t_707 rfl rfl t_53 t_705 t_706 hd_Law_refined.2 ⟨Nat.le_trans (Nat.le_of_ble_eq_true rfl) hRf, Nat.le_trans (Nat.le_of_ble_eq_true rfl) hRl⟩) ⟨kP_blind, kP_at hPc hK hDc hN⟩ rfl rfl hl.1 rfl (lv_room (Nat.le_of_ble_eq_true rfl)) d_law_508 ⟨by omega, by omega⟩) hS (fun q _ h => hFc q h) hFc (fun r9 u t H1 locs ht hvm hw hB hz1 hk1 hS => ?_)
    rw [hw]
    obtain ⟨hP, hD⟩ := pw_join (wr := (wSy cI cZ cJ sp_a sp ++ wBr cI cZ cJ w_a w_b w ++ wBr cI cZ cJ v_a v_b v ++ wWr cI cZ cJ wr_a (cb_a 0) wr ++ wRd cI cZ cJ rd_a (cb_a 0) rd ++ wCb cI cZ cJ cb_a w_a v_a cb ++ wMo cI cZ cJ mo_a mo)) (w1 := (wSd cI cZ cJ sd_a w_a v_a (wr_a 0) (rd_a 0) (cu_a 0) (sp_a 0) sd ++ wSy cI cZ cJ cu_a cu' ++ wOu cI cZ cJ ou_a ou')) hP hD pm9 ht hk1 hFc hB
    generalize H1 = H at hP hS ⊢
    have pm9 : ((wSy cI cZ cJ sp_a sp ++ wBr cI cZ cJ w_a w_b w ++ wBr cI cZ cJ v_a v_b v ++ wWr cI cZ cJ wr_a (cb_a 0) wr ++ wRd cI cZ cJ rd_a (cb_a 0) rd ++ wCb cI cZ cJ cb_a w_a v_a cb ++ wMo cI cZ cJ mo_a mo) ++ (wSd cI cZ cJ sd_a w_a v_a (wr_a 0) (rd_a 0) (cu_a 0) (sp_a 0) sd ++ wSy cI cZ cJ cu_a cu' ++ wOu cI cZ cJ ou_a ou') : va_W).Perm (wSd cI cZ cJ sd_a w_a v_a (wr_a 0) (rd_a 0) (cu_a 0) (sp_a 0) sd ++ wSy cI cZ cJ cu_a cu' ++ wSy cI cZ cJ sp_a sp ++ wBr cI cZ cJ w_a w_b w ++ wBr cI cZ cJ v_a v_b v ++ wWr cI cZ cJ wr_a (cb_a 0) wr ++ wRd cI cZ cJ rd_a (cb_a 0) rd ++ wCb cI cZ cJ cb_a w_a v_a cb ++ wMo cI cZ cJ mo_a mo ++ wOu cI cZ cJ ou_a ou') := pm_1 _ _ _ _ _ _ _ _ _ _
    have hP : va_P (dC, dI) vwCl (wSd cI cZ cJ sd_a w_a v_a (wr_a 0) (rd_a 0) (cu_a 0) (sp_a 0) sd ++ wSy cI cZ cJ cu_a cu' ++ wSy cI cZ cJ sp_a sp ++ wBr cI cZ cJ w_a w_b w ++ wBr cI cZ cJ v_a v_b v ++ wWr cI cZ cJ wr_a (cb_a 0) wr ++ wRd cI cZ cJ rd_a (cb_a 0) rd ++ wCb cI cZ cJ cb_a w_a v_a cb ++ wMo cI cZ cJ mo_a mo ++ wOu cI cZ cJ ou_a ou') H := pw_P hP (fun q hq => pm9.mem_iff.mpr hq)
    have hD : va_D A (wSd cI cZ cJ sd_a w_a v_a (wr_a 0) (rd_a 0) (cu_a 0) (sp_a 0) sd ++ wSy cI cZ cJ cu_a cu' ++ wSy cI cZ cJ sp_a sp ++ wBr cI cZ cJ w_a w_b w ++ wBr cI cZ cJ v_a v_b v ++ wWr cI cZ cJ wr_a (cb_a 0) wr ++ wRd cI cZ cJ rd_a (cb_a 0) rd ++ wCb cI cZ cJ cb_a w_a v_a cb ++ wMo cI cZ cJ mo_a mo ++ wOu cI cZ cJ ou_a ou') := pw_Dp hD pm9
    refine lv_istore (lv' := [(5, .int 0), (0, .ref b), (1, .ref (sd_a 0)), (2, .ref (mo_a 0)), (3, .ref (ou_a 0)), (4, .int i)]) hx hb d_law_511 hl (by decide) rfl (fun ls hl => ?_)
    refine lv_aload_n hx hb d_law_513 rfl (lv_at hl 3 rfl) ?_
    refine lv_aload_n hx hb d_law_514 rfl (lv_at hl 1 rfl) ?_
    refine lv_iload hx hb d_law_515 (lv_at hl 5 rfl) ?_
    refine lv_iconst (v := 1) hx hb d_law_517 (by decide) ?_
    refine lv_iadd hx hb d_law_518 ?_
    refine va_sld hx hb hX0 hbl hbA hS (hin 1 (by decide) (by decide)) d_law_519 ?_
    refine lv_aload_n hx hb d_law_520 rfl (lv_at hl 1 rfl) ?_
    refine lv_iload hx hb d_law_521 (lv_at hl 5 rfl) ?_
    refine lv_iconst (v := 2) hx hb d_law_523 (by decide) ?_
    refine lv_iadd hx hb d_law_524 ?_
    refine va_sld hx hb hX0 hbl hbA hS (hin 2 (by decide) (by decide)) d_law_525 ?_
    refine lv_aload_n hx hb d_law_526 rfl (lv_at hl 1 rfl) ?_
    refine lv_iload hx hb d_law_527 (lv_at hl 5 rfl) ?_
    refine lv_iconst (v := 3) hx hb d_law_529 (by decide) ?_
    refine lv_iadd hx hb d_law_530 ?_
    refine va_sld hx hb hX0 hbl hbA hS (hin 3 (by decide) (by decide)) d_law_531 ?_
    refine lv_aload_n hx hb d_law_532 rfl (lv_at hl 1 rfl) ?_
    refine lv_iload hx hb d_law_533 (lv_at hl 5 rfl) ?_
    refine lv_iconst (v := 4) hx hb d_law_535 (by decide) ?_
    refine lv_iadd hx hb d_law_536 ?_
    refine va_sld hx hb hX0 hbl hbA hS (hin 4 (by decide) (by decide)) d_law_537 ?_
    have pm9 : ((wSd cI cZ cJ sd_a w_a v_a (wr_a 0) (rd_a 0) (cu_a 0) (sp_a 0) sd ++ wSy cI cZ cJ cu_a cu' ++ wSy cI cZ cJ sp_a sp ++ wBr cI cZ cJ w_a w_b w ++ wBr cI cZ cJ v_a v_b v ++ wWr cI cZ cJ wr_a (cb_a 0) wr ++ wRd cI cZ cJ rd_a (cb_a 0) rd ++ wCb cI cZ cJ cb_a w_a v_a cb ++ wMo cI cZ cJ mo_a mo ++ wOu cI cZ cJ ou_a ou') : va_W).Perm ((wMo cI cZ cJ mo_a mo) ++ (wSd cI cZ cJ sd_a w_a v_a (wr_a 0) (rd_a 0) (cu_a 0) (sp_a 0) sd ++ wSy cI cZ cJ cu_a cu' ++ wSy cI cZ cJ sp_a sp ++ wBr cI cZ cJ w_a w_b w ++ wBr cI cZ cJ v_a v_b v ++ wWr cI cZ cJ wr_a (cb_a 0) wr ++ wRd cI cZ cJ rd_a (cb_a 0) rd ++ wCb cI cZ cJ cb_a w_a v_a cb ++ wOu cI cZ cJ ou_a ou')) := pm_2 _ _ _ _ _ _ _ _ _ _
    have hPc := pw_P (ws' := (wMo cI cZ cJ mo_a mo)) hP (fun q hq => pm9.mem_iff.mpr (List.mem_append_left _ hq))
    have hDc := pw_D (wc := (wMo cI cZ cJ mo_a mo)) hD pm9
    have hFc := pw_free (wc := (wMo cI cZ cJ mo_a mo)) hD hS hA (fun q hq => pm9.mem_iff.mpr (List.mem_append_left _ hq))
    refine va_calli (va_runV (As := [.int (xs (i + 1).toNatClampNeg), .int (xs (i + 2).toNatClampNeg), .int (xs (i + 3).toNatClampNeg), .int (xs (i + 4).toNatClampNeg)]) (rest := []) ⟨hx, hb, hml, hown, hts⟩ (k_Model_refined l dC dI cI cZ cJ mo_a H.size hg) (cwV 4 hts (gV t_945 t_946 t_947 t_63 t_948) rfl rfl rfl hd_Model_refined ⟨Nat.le_trans (Nat.le_of_ble_eq_true rfl) hRf, Nat.le_trans (Nat.le_of_ble_eq_true rfl) hRl⟩) ⟨kP_blind, va_recv hK hPc (ci := 7) (q0 := 0) rfl rfl, kP_at hPc hK hDc hN⟩ rfl rfl hl.1 rfl (lv_room (Nat.le_of_ble_eq_true rfl)) d_law_538 ⟨by omega, by omega⟩) hS (fun q _ h => hFc q h) hFc (fun r9 u t H1 locs ht hvm hw hB hz1 hk1 hS => ?_)
    rw [hw]
    obtain ⟨hP, hD⟩ := pw_join (wr := (wSd cI cZ cJ sd_a w_a v_a (wr_a 0) (rd_a 0) (cu_a 0) (sp_a 0) sd ++ wSy cI cZ cJ cu_a cu' ++ wSy cI cZ cJ sp_a sp ++ wBr cI cZ cJ w_a w_b w ++ wBr cI cZ cJ v_a v_b v ++ wWr cI cZ cJ wr_a (cb_a 0) wr ++ wRd cI cZ cJ rd_a (cb_a 0) rd ++ wCb cI cZ cJ cb_a w_a v_a cb ++ wOu cI cZ cJ ou_a ou')) (w1 := (wMo cI cZ cJ mo_a mo')) hP hD pm9 ht hk1 hFc hB
    generalize H1 = H at hP hS ⊢
    have pm9 : ((wSd cI cZ cJ sd_a w_a v_a (wr_a 0) (rd_a 0) (cu_a 0) (sp_a 0) sd ++ wSy cI cZ cJ cu_a cu' ++ wSy cI cZ cJ sp_a sp ++ wBr cI cZ cJ w_a w_b w ++ wBr cI cZ cJ v_a v_b v ++ wWr cI cZ cJ wr_a (cb_a 0) wr ++ wRd cI cZ cJ rd_a (cb_a 0) rd ++ wCb cI cZ cJ cb_a w_a v_a cb ++ wOu cI cZ cJ ou_a ou') ++ (wMo cI cZ cJ mo_a mo') : va_W).Perm (wSd cI cZ cJ sd_a w_a v_a (wr_a 0) (rd_a 0) (cu_a 0) (sp_a 0) sd ++ wSy cI cZ cJ cu_a cu' ++ wSy cI cZ cJ sp_a sp ++ wBr cI cZ cJ w_a w_b w ++ wBr cI cZ cJ v_a v_b v ++ wWr cI cZ cJ wr_a (cb_a 0) wr ++ wRd cI cZ cJ rd_a (cb_a 0) rd ++ wCb cI cZ cJ cb_a w_a v_a cb ++ wMo cI cZ cJ mo_a mo' ++ wOu cI cZ cJ ou_a ou') := pm_3 _ _ _ _ _ _ _ _ _ _
    have hP : va_P (dC, dI) vwCl (wSd cI cZ cJ sd_a w_a v_a (wr_a 0) (rd_a 0) (cu_a 0) (sp_a 0) sd ++ wSy cI cZ cJ cu_a cu' ++ wSy cI cZ cJ sp_a sp ++ wBr cI cZ cJ w_a w_b w ++ wBr cI cZ cJ v_a v_b v ++ wWr cI cZ cJ wr_a (cb_a 0) wr ++ wRd cI cZ cJ rd_a (cb_a 0) rd ++ wCb cI cZ cJ cb_a w_a v_a cb ++ wMo cI cZ cJ mo_a mo' ++ wOu cI cZ cJ ou_a ou') H := pw_P hP (fun q hq => pm9.mem_iff.mpr hq)
    have hD : va_D A (wSd cI cZ cJ sd_a w_a v_a (wr_a 0) (rd_a 0) (cu_a 0) (sp_a 0) sd ++ wSy cI cZ cJ cu_a cu' ++ wSy cI cZ cJ sp_a sp ++ wBr cI cZ cJ w_a w_b w ++ wBr cI cZ cJ v_a v_b v ++ wWr cI cZ cJ wr_a (cb_a 0) wr ++ wRd cI cZ cJ rd_a (cb_a 0) rd ++ wCb cI cZ cJ cb_a w_a v_a cb ++ wMo cI cZ cJ mo_a mo' ++ wOu cI cZ cJ ou_a ou') := pw_Dp hD pm9
    refine lv_istore (lv' := [(6, .int r), (5, .int 0), (0, .ref b), (1, .ref (sd_a 0)), (2, .ref (mo_a 0)), (3, .ref (ou_a 0)), (4, .int i)]) hx hb d_law_541 hl (by decide) rfl (fun ls hl => ?_)
    refine lv_aload_n hx hb d_law_543 rfl (lv_at hl 4 rfl) ?_
    have hth : f_Model_thrown mo' = some (Mo_code mo') := rfl
    have pm9 : ((wSd cI cZ cJ sd_a w_a v_a (wr_a 0) (rd_a 0) (cu_a 0) (sp_a 0) sd ++ wSy cI cZ cJ cu_a cu' ++ wSy cI cZ cJ sp_a sp ++ wBr cI cZ cJ w_a w_b w ++ wBr cI cZ cJ v_a v_b v ++ wWr cI cZ cJ wr_a (cb_a 0) wr ++ wRd cI cZ cJ rd_a (cb_a 0) rd ++ wCb cI cZ cJ cb_a w_a v_a cb ++ wMo cI cZ cJ mo_a mo' ++ wOu cI cZ cJ ou_a ou') : va_W).Perm ((wMo cI cZ cJ mo_a mo') ++ (wSd cI cZ cJ sd_a w_a v_a (wr_a 0) (rd_a 0) (cu_a 0) (sp_a 0) sd ++ wSy cI cZ cJ cu_a cu' ++ wSy cI cZ cJ sp_a sp ++ wBr cI cZ cJ w_a w_b w ++ wBr cI cZ cJ v_a v_b v ++ wWr cI cZ cJ wr_a (cb_a 0) wr ++ wRd cI cZ cJ rd_a (cb_a 0) rd ++ wCb cI cZ cJ cb_a w_a v_a cb ++ wOu cI cZ cJ ou_a ou')) := pm_2 _ _ _ _ _ _ _ _ _ _
    have hPc := pw_P (ws' := (wMo cI cZ cJ mo_a mo')) hP (fun q hq => pm9.mem_iff.mpr (List.mem_append_left _ hq))
    have hDc := pw_D (wc := (wMo cI cZ cJ mo_a mo')) hD pm9
    have hFc := pw_free (wc := (wMo cI cZ cJ mo_a mo')) hD hS hA (fun q hq => pm9.mem_iff.mpr (List.mem_append_left _ hq))
    refine va_calli (va_runV (As := []) (rest := []) ⟨hx, hb, hml, hown, hts⟩ (k_Model_thrown l dC dI cI cZ cJ mo_a H.size hth) (cwV 0 hts (gV t_906 t_907 t_908 t_63 t_909) rfl rfl rfl hd_Model_thrown ⟨Nat.le_trans (Nat.le_of_ble_eq_true rfl) hRf, Nat.le_trans (Nat.le_of_ble_eq_true rfl) hRl⟩) ⟨kP_blind, va_recv hK hPc (ci := 7) (q0 := 0) rfl rfl, kP_at hPc hK hDc hN⟩ rfl rfl hl.1 rfl (lv_room (Nat.le_of_ble_eq_true rfl)) d_law_544 ⟨by omega, by omega⟩) hS (fun q _ h => hFc q h) hFc (fun r9 u t H1 locs ht hvm hw hB hz1 hk1 hS => ?_)
    rw [hw]
    obtain ⟨hP, hD⟩ := pw_join (wr := (wSd cI cZ cJ sd_a w_a v_a (wr_a 0) (rd_a 0) (cu_a 0) (sp_a 0) sd ++ wSy cI cZ cJ cu_a cu' ++ wSy cI cZ cJ sp_a sp ++ wBr cI cZ cJ w_a w_b w ++ wBr cI cZ cJ v_a v_b v ++ wWr cI cZ cJ wr_a (cb_a 0) wr ++ wRd cI cZ cJ rd_a (cb_a 0) rd ++ wCb cI cZ cJ cb_a w_a v_a cb ++ wOu cI cZ cJ ou_a ou')) (w1 := (wMo cI cZ cJ mo_a mo')) hP hD pm9 ht hk1 hFc hB
    generalize H1 = H at hP hS ⊢
    have pm9 : ((wSd cI cZ cJ sd_a w_a v_a (wr_a 0) (rd_a 0) (cu_a 0) (sp_a 0) sd ++ wSy cI cZ cJ cu_a cu' ++ wSy cI cZ cJ sp_a sp ++ wBr cI cZ cJ w_a w_b w ++ wBr cI cZ cJ v_a v_b v ++ wWr cI cZ cJ wr_a (cb_a 0) wr ++ wRd cI cZ cJ rd_a (cb_a 0) rd ++ wCb cI cZ cJ cb_a w_a v_a cb ++ wOu cI cZ cJ ou_a ou') ++ (wMo cI cZ cJ mo_a mo') : va_W).Perm (wSd cI cZ cJ sd_a w_a v_a (wr_a 0) (rd_a 0) (cu_a 0) (sp_a 0) sd ++ wSy cI cZ cJ cu_a cu' ++ wSy cI cZ cJ sp_a sp ++ wBr cI cZ cJ w_a w_b w ++ wBr cI cZ cJ v_a v_b v ++ wWr cI cZ cJ wr_a (cb_a 0) wr ++ wRd cI cZ cJ rd_a (cb_a 0) rd ++ wCb cI cZ cJ cb_a w_a v_a cb ++ wMo cI cZ cJ mo_a mo' ++ wOu cI cZ cJ ou_a ou') := pm_3 _ _ _ _ _ _ _ _ _ _
    have hP : va_P (dC, dI) vwCl (wSd cI cZ cJ sd_a w_a v_a (wr_a 0) (rd_a 0) (cu_a 0) (sp_a 0) sd ++ wSy cI cZ cJ cu_a cu' ++ wSy cI cZ cJ sp_a sp ++ wBr cI cZ cJ w_a w_b w ++ wBr cI cZ cJ v_a v_b v ++ wWr cI cZ cJ wr_a (cb_a 0) wr ++ wRd cI cZ cJ rd_a (cb_a 0) rd ++ wCb cI cZ cJ cb_a w_a v_a cb ++ wMo cI cZ cJ mo_a mo' ++ wOu cI cZ cJ ou_a ou') H := pw_P hP (fun q hq => pm9.mem_iff.mpr hq)
    have hD : va_D A (wSd cI cZ cJ sd_a w_a v_a (wr_a 0) (rd_a 0) (cu_a 0) (sp_a 0) sd ++ wSy cI cZ cJ cu_a cu' ++ wSy cI cZ cJ sp_a sp ++ wBr cI cZ cJ w_a w_b w ++ wBr cI cZ cJ v_a v_b v ++ wWr cI cZ cJ wr_a (cb_a 0) wr ++ wRd cI cZ cJ rd_a (cb_a 0) rd ++ wCb cI cZ cJ cb_a w_a v_a cb ++ wMo cI cZ cJ mo_a mo' ++ wOu cI cZ cJ ou_a ou') := pw_Dp hD pm9
    refine lv_iload hx hb d_law_547 (lv_at hl 1 rfl) ?_
    refine lv_icmp_eq (tgt := 554) hx hb d_law_549 (by decide) (fun _ => ?_) (fun h9 => absurd hcode h9)
    refine lv_iload hx hb d_law_554 (lv_at hl 1 rfl) ?_
    refine lv_if_ne (tgt := 571) hx hb d_law_556 (by decide) (fun h9 => absurd rfl h9) (fun _ => ?_)
    refine lv_aload_n hx hb d_law_559 rfl (lv_at hl 5 rfl) ?_
    refine lv_iconst (v := 0) hx hb d_law_560 (by decide) ?_
    refine va_lald (f := Ou_f ou') hx hb hK hP 47 2 rfl rfl (inb_in (by decide)) d_law_561 ?_
    refine lv_iload hx hb d_law_562 (lv_at hl 0 rfl) ?_
    refine lv_i2l (v := r.toInt64) hx hb d_law_564 rfl ?_
    refine W.lcmp hx hb d_law_565 ?_
    refine lv_if_eq (tgt := 571) hx hb d_law_566 (by decide) (fun _ => ?_) (fun h9 => absurd (by rw [hou]; exact cmp_self _) h9)
    refine lv_goto (tgt := 1131) hx hb d_law_571 (by decide) ?_
    have hl := lv_sub (l' := [(0, .ref b), (1, .ref (sd_a 0)), (2, .ref (mo_a 0)), (3, .ref (ou_a 0)), (4, .int i)]) hl [2, 3, 4, 5, 6] rfl
    refine W.widen (k := j + 1 + Br_byL w + Br_byL v) (n := 6 * (j + 1) + 2 * Br_byL w + 2 * Br_byL v) (by omega) (by omega) ?_
    exact hk _ _ _ cu_a sp_a w_b v_b cu' sp w v wr rd cb mo' ou' hrel hP hD hS hl
  · refine lv_aload_n hx hb d_law_482 rfl (lv_at hl 1 rfl) ?_
    refine lv_aload_n hx hb d_law_483 rfl (lv_at hl 0 rfl) ?_
    refine lv_iload hx hb d_law_484 (lv_at hl 4 rfl) ?_
    refine lv_iconst (v := 1) hx hb d_law_486 (by decide) ?_
    refine lv_iadd hx hb d_law_487 ?_
    refine va_sld hx hb hX0 hbl hbA hS (hin 1 (by decide) (by decide)) d_law_488 ?_
    refine lv_aload_n hx hb d_law_489 rfl (lv_at hl 0 rfl) ?_
    refine lv_iload hx hb d_law_490 (lv_at hl 4 rfl) ?_
    refine lv_iconst (v := 2) hx hb d_law_492 (by decide) ?_
    refine lv_iadd hx hb d_law_493 ?_
    refine va_sld hx hb hX0 hbl hbA hS (hin 2 (by decide) (by decide)) d_law_494 ?_
    refine lv_aload_n hx hb d_law_495 rfl (lv_at hl 0 rfl) ?_
    refine lv_iload hx hb d_law_496 (lv_at hl 4 rfl) ?_
    refine lv_iconst (v := 3) hx hb d_law_498 (by decide) ?_
    refine lv_iadd hx hb d_law_499 ?_
    refine va_sld hx hb hX0 hbl hbA hS (hin 3 (by decide) (by decide)) d_law_500 ?_
    refine lv_aload_n hx hb d_law_501 rfl (lv_at hl 0 rfl) ?_
    refine lv_iload hx hb d_law_502 (lv_at hl 4 rfl) ?_
    refine lv_iconst (v := 4) hx hb d_law_504 (by decide) ?_
    refine lv_iadd hx hb d_law_505 ?_
    refine va_sld hx hb hX0 hbl hbA hS (hin 4 (by decide) (by decide)) d_law_506 ?_
    refine lv_aload_n hx hb d_law_507 rfl (lv_at hl 3 rfl) ?_
    have pm9 : ((wSd cI cZ cJ sd_a w_a v_a (wr_a 0) (rd_a 0) (cu_a 0) (sp_a 0) sd ++ wSy cI cZ cJ cu_a cu ++ wSy cI cZ cJ sp_a sp ++ wBr cI cZ cJ w_a w_b w ++ wBr cI cZ cJ v_a v_b v ++ wWr cI cZ cJ wr_a (cb_a 0) wr ++ wRd cI cZ cJ rd_a (cb_a 0) rd ++ wCb cI cZ cJ cb_a w_a v_a cb ++ wMo cI cZ cJ mo_a mo ++ wOu cI cZ cJ ou_a ou) : va_W).Perm ((wSd cI cZ cJ sd_a w_a v_a (wr_a 0) (rd_a 0) (cu_a 0) (sp_a 0) sd ++ wSy cI cZ cJ cu_a cu ++ wOu cI cZ cJ ou_a ou) ++ (wSy cI cZ cJ sp_a sp ++ wBr cI cZ cJ w_a w_b w ++ wBr cI cZ cJ v_a v_b v ++ wWr cI cZ cJ wr_a (cb_a 0) wr ++ wRd cI cZ cJ rd_a (cb_a 0) rd ++ wCb cI cZ cJ cb_a w_a v_a cb ++ wMo cI cZ cJ mo_a mo)) := pm_0 _ _ _ _ _ _ _ _ _ _
    have hPc := pw_P (ws' := (wSd cI cZ cJ sd_a w_a v_a (wr_a 0) (rd_a 0) (cu_a 0) (sp_a 0) sd ++ wSy cI cZ cJ cu_a cu ++ wOu cI cZ cJ ou_a ou)) hP (fun q hq => pm9.mem_iff.mpr (List.mem_append_left _ hq))
    have hDc := pw_D (wc := (wSd cI cZ cJ sd_a w_a v_a (wr_a 0) (rd_a 0) (cu_a 0) (sp_a 0) sd ++ wSy cI cZ cJ cu_a cu ++ wOu cI cZ cJ ou_a ou)) hD pm9
    have hFc := pw_free (wc := (wSd cI cZ cJ sd_a w_a v_a (wr_a 0) (rd_a 0) (cu_a 0) (sp_a 0) sd ++ wSy cI cZ cJ cu_a cu ++ wOu cI cZ cJ ou_a ou)) hD hS hA (fun q hq => pm9.mem_iff.mpr (List.mem_append_left _ hq))
    refine va_calli (w_runS (As := [.ref (sd_a 0), .int (xs (i + 1).toNatClampNeg), .int (xs (i + 2).toNatClampNeg), .int (xs (i + 3).toNatClampNeg), .int (xs (i + 4).toNatClampNeg), .ref (ou_a 0)]) (rest := []) ⟨hx, hb, hml, hown, hts⟩ (kx_Law_refined_3 l hl9 dC dI cI cZ cJ sd_a cu_a ou_a w_a v_a (wr_a 0) (rd_a 0) (sp_a 0) H.size hf) (cwH_of 6 hts t_707 rfl rfl t_53 t_705 t_706 hd_Law_refined.2 ⟨Nat.le_trans (Nat.le_of_ble_eq_true rfl) hRf, Nat.le_trans (Nat.le_of_ble_eq_true rfl) hRl⟩) ⟨kPX_blind, kPX_at hPc hK hDc hN (fun q hq => hS.2.1 q hq (fun h9 => absurd (hA2 q h9) (Nat.not_le.mpr hq))) hT hX⟩ rfl rfl hl.1 rfl (lv_room (Nat.le_of_ble_eq_true rfl)) d_law_508 ⟨by omega, by omega⟩) hS (fun q _ h => hFc q h) hFc (fun r9 u t H1 locs ht hvm hw hB hz1 hk1 hS => ?_)
    rw [hw]
    obtain ⟨hP, hD⟩ := pw_join (wr := (wSy cI cZ cJ sp_a sp ++ wBr cI cZ cJ w_a w_b w ++ wBr cI cZ cJ v_a v_b v ++ wWr cI cZ cJ wr_a (cb_a 0) wr ++ wRd cI cZ cJ rd_a (cb_a 0) rd ++ wCb cI cZ cJ cb_a w_a v_a cb ++ wMo cI cZ cJ mo_a mo)) (w1 := (wSd cI cZ cJ sd_a w_a v_a (wr_a 0) (rd_a 0) (cu_a 0) (sp_a 0) sd ++ wSy cI cZ cJ cu_a cu ++ wOu cI cZ cJ ou_a ou)) hP hD pm9 ht hk1 hFc hB
    generalize H1 = H at hP hS ⊢
    have pm9 : ((wSy cI cZ cJ sp_a sp ++ wBr cI cZ cJ w_a w_b w ++ wBr cI cZ cJ v_a v_b v ++ wWr cI cZ cJ wr_a (cb_a 0) wr ++ wRd cI cZ cJ rd_a (cb_a 0) rd ++ wCb cI cZ cJ cb_a w_a v_a cb ++ wMo cI cZ cJ mo_a mo) ++ (wSd cI cZ cJ sd_a w_a v_a (wr_a 0) (rd_a 0) (cu_a 0) (sp_a 0) sd ++ wSy cI cZ cJ cu_a cu ++ wOu cI cZ cJ ou_a ou) : va_W).Perm (wSd cI cZ cJ sd_a w_a v_a (wr_a 0) (rd_a 0) (cu_a 0) (sp_a 0) sd ++ wSy cI cZ cJ cu_a cu ++ wSy cI cZ cJ sp_a sp ++ wBr cI cZ cJ w_a w_b w ++ wBr cI cZ cJ v_a v_b v ++ wWr cI cZ cJ wr_a (cb_a 0) wr ++ wRd cI cZ cJ rd_a (cb_a 0) rd ++ wCb cI cZ cJ cb_a w_a v_a cb ++ wMo cI cZ cJ mo_a mo ++ wOu cI cZ cJ ou_a ou) := pm_1 _ _ _ _ _ _ _ _ _ _
    have hP : va_P (dC, dI) vwCl (wSd cI cZ cJ sd_a w_a v_a (wr_a 0) (rd_a 0) (cu_a 0) (sp_a 0) sd ++ wSy cI cZ cJ cu_a cu ++ wSy cI cZ cJ sp_a sp ++ wBr cI cZ cJ w_a w_b w ++ wBr cI cZ cJ v_a v_b v ++ wWr cI cZ cJ wr_a (cb_a 0) wr ++ wRd cI cZ cJ rd_a (cb_a 0) rd ++ wCb cI cZ cJ cb_a w_a v_a cb ++ wMo cI cZ cJ mo_a mo ++ wOu cI cZ cJ ou_a ou) H := pw_P hP (fun q hq => pm9.mem_iff.mpr hq)
    have hD : va_D A (wSd cI cZ cJ sd_a w_a v_a (wr_a 0) (rd_a 0) (cu_a 0) (sp_a 0) sd ++ wSy cI cZ cJ cu_a cu ++ wSy cI cZ cJ sp_a sp ++ wBr cI cZ cJ w_a w_b w ++ wBr cI cZ cJ v_a v_b v ++ wWr cI cZ cJ wr_a (cb_a 0) wr ++ wRd cI cZ cJ rd_a (cb_a 0) rd ++ wCb cI cZ cJ cb_a w_a v_a cb ++ wMo cI cZ cJ mo_a mo ++ wOu cI cZ cJ ou_a ou) := pw_Dp hD pm9
    refine lv_istore (lv' := [(5, .int 1), (0, .ref b), (1, .ref (sd_a 0)), (2, .ref (mo_a 0)), (3, .ref (ou_a 0)), (4, .int i)]) hx hb d_law_511 hl (by decide) rfl (fun ls hl => ?_)
    refine lv_aload_n hx hb d_law_513 rfl (lv_at hl 3 rfl) ?_
    refine lv_aload_n hx hb d_law_514 rfl (lv_at hl 1 rfl) ?_
    refine lv_iload hx hb d_law_515 (lv_at hl 5 rfl) ?_
    refine lv_iconst (v := 1) hx hb d_law_517 (by decide) ?_
    refine lv_iadd hx hb d_law_518 ?_
    refine va_sld hx hb hX0 hbl hbA hS (hin 1 (by decide) (by decide)) d_law_519 ?_
    refine lv_aload_n hx hb d_law_520 rfl (lv_at hl 1 rfl) ?_
    refine lv_iload hx hb d_law_521 (lv_at hl 5 rfl) ?_
    refine lv_iconst (v := 2) hx hb d_law_523 (by decide) ?_
    refine lv_iadd hx hb d_law_524 ?_
    refine va_sld hx hb hX0 hbl hbA hS (hin 2 (by decide) (by decide)) d_law_525 ?_
    refine lv_aload_n hx hb d_law_526 rfl (lv_at hl 1 rfl) ?_
    refine lv_iload hx hb d_law_527 (lv_at hl 5 rfl) ?_
    refine lv_iconst (v := 3) hx hb d_law_529 (by decide) ?_
    refine lv_iadd hx hb d_law_530 ?_
    refine va_sld hx hb hX0 hbl hbA hS (hin 3 (by decide) (by decide)) d_law_531 ?_
    refine lv_aload_n hx hb d_law_532 rfl (lv_at hl 1 rfl) ?_
    refine lv_iload hx hb d_law_533 (lv_at hl 5 rfl) ?_
    refine lv_iconst (v := 4) hx hb d_law_535 (by decide) ?_
    refine lv_iadd hx hb d_law_536 ?_
    refine va_sld hx hb hX0 hbl hbA hS (hin 4 (by decide) (by decide)) d_law_537 ?_
    have pm9 : ((wSd cI cZ cJ sd_a w_a v_a (wr_a 0) (rd_a 0) (cu_a 0) (sp_a 0) sd ++ wSy cI cZ cJ cu_a cu ++ wSy cI cZ cJ sp_a sp ++ wBr cI cZ cJ w_a w_b w ++ wBr cI cZ cJ v_a v_b v ++ wWr cI cZ cJ wr_a (cb_a 0) wr ++ wRd cI cZ cJ rd_a (cb_a 0) rd ++ wCb cI cZ cJ cb_a w_a v_a cb ++ wMo cI cZ cJ mo_a mo ++ wOu cI cZ cJ ou_a ou) : va_W).Perm ((wMo cI cZ cJ mo_a mo) ++ (wSd cI cZ cJ sd_a w_a v_a (wr_a 0) (rd_a 0) (cu_a 0) (sp_a 0) sd ++ wSy cI cZ cJ cu_a cu ++ wSy cI cZ cJ sp_a sp ++ wBr cI cZ cJ w_a w_b w ++ wBr cI cZ cJ v_a v_b v ++ wWr cI cZ cJ wr_a (cb_a 0) wr ++ wRd cI cZ cJ rd_a (cb_a 0) rd ++ wCb cI cZ cJ cb_a w_a v_a cb ++ wOu cI cZ cJ ou_a ou)) := pm_2 _ _ _ _ _ _ _ _ _ _
    have hPc := pw_P (ws' := (wMo cI cZ cJ mo_a mo)) hP (fun q hq => pm9.mem_iff.mpr (List.mem_append_left _ hq))
    have hDc := pw_D (wc := (wMo cI cZ cJ mo_a mo)) hD pm9
    have hFc := pw_free (wc := (wMo cI cZ cJ mo_a mo)) hD hS hA (fun q hq => pm9.mem_iff.mpr (List.mem_append_left _ hq))
    refine va_calli (va_runV (As := [.int (xs (i + 1).toNatClampNeg), .int (xs (i + 2).toNatClampNeg), .int (xs (i + 3).toNatClampNeg), .int (xs (i + 4).toNatClampNeg)]) (rest := []) ⟨hx, hb, hml, hown, hts⟩ (k_Model_refined l dC dI cI cZ cJ mo_a H.size hg) (cwV 4 hts (gV t_945 t_946 t_947 t_63 t_948) rfl rfl rfl hd_Model_refined ⟨Nat.le_trans (Nat.le_of_ble_eq_true rfl) hRf, Nat.le_trans (Nat.le_of_ble_eq_true rfl) hRl⟩) ⟨kP_blind, va_recv hK hPc (ci := 7) (q0 := 0) rfl rfl, kP_at hPc hK hDc hN⟩ rfl rfl hl.1 rfl (lv_room (Nat.le_of_ble_eq_true rfl)) d_law_538 ⟨by omega, by omega⟩) hS (fun q _ h => hFc q h) hFc (fun r9 u t H1 locs ht hvm hw hB hz1 hk1 hS => ?_)
    rw [hw]
    obtain ⟨hP, hD⟩ := pw_join (wr := (wSd cI cZ cJ sd_a w_a v_a (wr_a 0) (rd_a 0) (cu_a 0) (sp_a 0) sd ++ wSy cI cZ cJ cu_a cu ++ wSy cI cZ cJ sp_a sp ++ wBr cI cZ cJ w_a w_b w ++ wBr cI cZ cJ v_a v_b v ++ wWr cI cZ cJ wr_a (cb_a 0) wr ++ wRd cI cZ cJ rd_a (cb_a 0) rd ++ wCb cI cZ cJ cb_a w_a v_a cb ++ wOu cI cZ cJ ou_a ou)) (w1 := (wMo cI cZ cJ mo_a mo')) hP hD pm9 ht hk1 hFc hB
    generalize H1 = H at hP hS ⊢
    have pm9 : ((wSd cI cZ cJ sd_a w_a v_a (wr_a 0) (rd_a 0) (cu_a 0) (sp_a 0) sd ++ wSy cI cZ cJ cu_a cu ++ wSy cI cZ cJ sp_a sp ++ wBr cI cZ cJ w_a w_b w ++ wBr cI cZ cJ v_a v_b v ++ wWr cI cZ cJ wr_a (cb_a 0) wr ++ wRd cI cZ cJ rd_a (cb_a 0) rd ++ wCb cI cZ cJ cb_a w_a v_a cb ++ wOu cI cZ cJ ou_a ou) ++ (wMo cI cZ cJ mo_a mo') : va_W).Perm (wSd cI cZ cJ sd_a w_a v_a (wr_a 0) (rd_a 0) (cu_a 0) (sp_a 0) sd ++ wSy cI cZ cJ cu_a cu ++ wSy cI cZ cJ sp_a sp ++ wBr cI cZ cJ w_a w_b w ++ wBr cI cZ cJ v_a v_b v ++ wWr cI cZ cJ wr_a (cb_a 0) wr ++ wRd cI cZ cJ rd_a (cb_a 0) rd ++ wCb cI cZ cJ cb_a w_a v_a cb ++ wMo cI cZ cJ mo_a mo' ++ wOu cI cZ cJ ou_a ou) := pm_3 _ _ _ _ _ _ _ _ _ _
    have hP : va_P (dC, dI) vwCl (wSd cI cZ cJ sd_a w_a v_a (wr_a 0) (rd_a 0) (cu_a 0) (sp_a 0) sd ++ wSy cI cZ cJ cu_a cu ++ wSy cI cZ cJ sp_a sp ++ wBr cI cZ cJ w_a w_b w ++ wBr cI cZ cJ v_a v_b v ++ wWr cI cZ cJ wr_a (cb_a 0) wr ++ wRd cI cZ cJ rd_a (cb_a 0) rd ++ wCb cI cZ cJ cb_a w_a v_a cb ++ wMo cI cZ cJ mo_a mo' ++ wOu cI cZ cJ ou_a ou) H := pw_P hP (fun q hq => pm9.mem_iff.mpr hq)
    have hD : va_D A (wSd cI cZ cJ sd_a w_a v_a (wr_a 0) (rd_a 0) (cu_a 0) (sp_a 0) sd ++ wSy cI cZ cJ cu_a cu ++ wSy cI cZ cJ sp_a sp ++ wBr cI cZ cJ w_a w_b w ++ wBr cI cZ cJ v_a v_b v ++ wWr cI cZ cJ wr_a (cb_a 0) wr ++ wRd cI cZ cJ rd_a (cb_a 0) rd ++ wCb cI cZ cJ cb_a w_a v_a cb ++ wMo cI cZ cJ mo_a mo' ++ wOu cI cZ cJ ou_a ou) := pw_Dp hD pm9
    refine lv_istore (lv' := [(6, .int q), (5, .int 1), (0, .ref b), (1, .ref (sd_a 0)), (2, .ref (mo_a 0)), (3, .ref (ou_a 0)), (4, .int i)]) hx hb d_law_541 hl (by decide) rfl (fun ls hl => ?_)
    refine lv_aload_n hx hb d_law_543 rfl (lv_at hl 4 rfl) ?_
    have hth : f_Model_thrown mo' = some (Mo_code mo') := rfl
    have pm9 : ((wSd cI cZ cJ sd_a w_a v_a (wr_a 0) (rd_a 0) (cu_a 0) (sp_a 0) sd ++ wSy cI cZ cJ cu_a cu ++ wSy cI cZ cJ sp_a sp ++ wBr cI cZ cJ w_a w_b w ++ wBr cI cZ cJ v_a v_b v ++ wWr cI cZ cJ wr_a (cb_a 0) wr ++ wRd cI cZ cJ rd_a (cb_a 0) rd ++ wCb cI cZ cJ cb_a w_a v_a cb ++ wMo cI cZ cJ mo_a mo' ++ wOu cI cZ cJ ou_a ou) : va_W).Perm ((wMo cI cZ cJ mo_a mo') ++ (wSd cI cZ cJ sd_a w_a v_a (wr_a 0) (rd_a 0) (cu_a 0) (sp_a 0) sd ++ wSy cI cZ cJ cu_a cu ++ wSy cI cZ cJ sp_a sp ++ wBr cI cZ cJ w_a w_b w ++ wBr cI cZ cJ v_a v_b v ++ wWr cI cZ cJ wr_a (cb_a 0) wr ++ wRd cI cZ cJ rd_a (cb_a 0) rd ++ wCb cI cZ cJ cb_a w_a v_a cb ++ wOu cI cZ cJ ou_a ou)) := pm_2 _ _ _ _ _ _ _ _ _ _
    have hPc := pw_P (ws' := (wMo cI cZ cJ mo_a mo')) hP (fun q hq => pm9.mem_iff.mpr (List.mem_append_left _ hq))
    have hDc := pw_D (wc := (wMo cI cZ cJ mo_a mo')) hD pm9
    have hFc := pw_free (wc := (wMo cI cZ cJ mo_a mo')) hD hS hA (fun q hq => pm9.mem_iff.mpr (List.mem_append_left _ hq))
    refine va_calli (va_runV (As := []) (rest := []) ⟨hx, hb, hml, hown, hts⟩ (k_Model_thrown l dC dI cI cZ cJ mo_a H.size hth) (cwV 0 hts (gV t_906 t_907 t_908 t_63 t_909) rfl rfl rfl hd_Model_thrown ⟨Nat.le_trans (Nat.le_of_ble_eq_true rfl) hRf, Nat.le_trans (Nat.le_of_ble_eq_true rfl) hRl⟩) ⟨kP_blind, va_recv hK hPc (ci := 7) (q0 := 0) rfl rfl, kP_at hPc hK hDc hN⟩ rfl rfl hl.1 rfl (lv_room (Nat.le_of_ble_eq_true rfl)) d_law_544 ⟨by omega, by omega⟩) hS (fun q _ h => hFc q h) hFc (fun r9 u t H1 locs ht hvm hw hB hz1 hk1 hS => ?_)
    rw [hw]
    obtain ⟨hP, hD⟩ := pw_join (wr := (wSd cI cZ cJ sd_a w_a v_a (wr_a 0) (rd_a 0) (cu_a 0) (sp_a 0) sd ++ wSy cI cZ cJ cu_a cu ++ wSy cI cZ cJ sp_a sp ++ wBr cI cZ cJ w_a w_b w ++ wBr cI cZ cJ v_a v_b v ++ wWr cI cZ cJ wr_a (cb_a 0) wr ++ wRd cI cZ cJ rd_a (cb_a 0) rd ++ wCb cI cZ cJ cb_a w_a v_a cb ++ wOu cI cZ cJ ou_a ou)) (w1 := (wMo cI cZ cJ mo_a mo')) hP hD pm9 ht hk1 hFc hB
    generalize H1 = H at hP hS ⊢
    have pm9 : ((wSd cI cZ cJ sd_a w_a v_a (wr_a 0) (rd_a 0) (cu_a 0) (sp_a 0) sd ++ wSy cI cZ cJ cu_a cu ++ wSy cI cZ cJ sp_a sp ++ wBr cI cZ cJ w_a w_b w ++ wBr cI cZ cJ v_a v_b v ++ wWr cI cZ cJ wr_a (cb_a 0) wr ++ wRd cI cZ cJ rd_a (cb_a 0) rd ++ wCb cI cZ cJ cb_a w_a v_a cb ++ wOu cI cZ cJ ou_a ou) ++ (wMo cI cZ cJ mo_a mo') : va_W).Perm (wSd cI cZ cJ sd_a w_a v_a (wr_a 0) (rd_a 0) (cu_a 0) (sp_a 0) sd ++ wSy cI cZ cJ cu_a cu ++ wSy cI cZ cJ sp_a sp ++ wBr cI cZ cJ w_a w_b w ++ wBr cI cZ cJ v_a v_b v ++ wWr cI cZ cJ wr_a (cb_a 0) wr ++ wRd cI cZ cJ rd_a (cb_a 0) rd ++ wCb cI cZ cJ cb_a w_a v_a cb ++ wMo cI cZ cJ mo_a mo' ++ wOu cI cZ cJ ou_a ou) := pm_3 _ _ _ _ _ _ _ _ _ _
    have hP : va_P (dC, dI) vwCl (wSd cI cZ cJ sd_a w_a v_a (wr_a 0) (rd_a 0) (cu_a 0) (sp_a 0) sd ++ wSy cI cZ cJ cu_a cu ++ wSy cI cZ cJ sp_a sp ++ wBr cI cZ cJ w_a w_b w ++ wBr cI cZ cJ v_a v_b v ++ wWr cI cZ cJ wr_a (cb_a 0) wr ++ wRd cI cZ cJ rd_a (cb_a 0) rd ++ wCb cI cZ cJ cb_a w_a v_a cb ++ wMo cI cZ cJ mo_a mo' ++ wOu cI cZ cJ ou_a ou) H := pw_P hP (fun q hq => pm9.mem_iff.mpr hq)
    have hD : va_D A (wSd cI cZ cJ sd_a w_a v_a (wr_a 0) (rd_a 0) (cu_a 0) (sp_a 0) sd ++ wSy cI cZ cJ cu_a cu ++ wSy cI cZ cJ sp_a sp ++ wBr cI cZ cJ w_a w_b w ++ wBr cI cZ cJ v_a v_b v ++ wWr cI cZ cJ wr_a (cb_a 0) wr ++ wRd cI cZ cJ rd_a (cb_a 0) rd ++ wCb cI cZ cJ cb_a w_a v_a cb ++ wMo cI cZ cJ mo_a mo' ++ wOu cI cZ cJ ou_a ou) := pw_Dp hD pm9
    refine lv_iload hx hb d_law_547 (lv_at hl 1 rfl) ?_
    refine lv_icmp_eq (tgt := 554) hx hb d_law_549 (by decide) (fun _ => ?_) (fun h9 => absurd hcode h9)
    refine lv_iload hx hb d_law_554 (lv_at hl 1 rfl) ?_
    refine lv_if_ne (tgt := 571) hx hb d_law_556 (by decide) (fun _ => ?_) (fun h9 => absurd h9 (by decide))
    refine lv_goto (tgt := 1131) hx hb d_law_571 (by decide) ?_
    have hl := lv_sub (l' := [(0, .ref b), (1, .ref (sd_a 0)), (2, .ref (mo_a 0)), (3, .ref (ou_a 0)), (4, .int i)]) hl [2, 3, 4, 5, 6] rfl
    refine W.widen (k := j + 1 + Br_byL w + Br_byL v) (n := 6 * (j + 1) + 2 * Br_byL w + 2 * Br_byL v) (by omega) (by omega) ?_
    exact hk _ _ _ cu_a sp_a w_b v_b cu sp w v wr rd cb mo' ou hrel hP hD hS hl
  · refine lv_aload_n hx hb d_law_482 rfl (lv_at hl 1 rfl) ?_
    refine lv_aload_n hx hb d_law_483 rfl (lv_at hl 0 rfl) ?_
    refine lv_iload hx hb d_law_484 (lv_at hl 4 rfl) ?_
    refine lv_iconst (v := 1) hx hb d_law_486 (by decide) ?_
    refine lv_iadd hx hb d_law_487 ?_
    refine va_sld hx hb hX0 hbl hbA hS (hin 1 (by decide) (by decide)) d_law_488 ?_
    refine lv_aload_n hx hb d_law_489 rfl (lv_at hl 0 rfl) ?_
    refine lv_iload hx hb d_law_490 (lv_at hl 4 rfl) ?_
    refine lv_iconst (v := 2) hx hb d_law_492 (by decide) ?_
    refine lv_iadd hx hb d_law_493 ?_
    refine va_sld hx hb hX0 hbl hbA hS (hin 2 (by decide) (by decide)) d_law_494 ?_
    refine lv_aload_n hx hb d_law_495 rfl (lv_at hl 0 rfl) ?_
    refine lv_iload hx hb d_law_496 (lv_at hl 4 rfl) ?_
    refine lv_iconst (v := 3) hx hb d_law_498 (by decide) ?_
    refine lv_iadd hx hb d_law_499 ?_
    refine va_sld hx hb hX0 hbl hbA hS (hin 3 (by decide) (by decide)) d_law_500 ?_
    refine lv_aload_n hx hb d_law_501 rfl (lv_at hl 0 rfl) ?_
    refine lv_iload hx hb d_law_502 (lv_at hl 4 rfl) ?_
    refine lv_iconst (v := 4) hx hb d_law_504 (by decide) ?_
    refine lv_iadd hx hb d_law_505 ?_
    refine va_sld hx hb hX0 hbl hbA hS (hin 4 (by decide) (by decide)) d_law_506 ?_
    refine lv_aload_n hx hb d_law_507 rfl (lv_at hl 3 rfl) ?_
    have pm9 : ((wSd cI cZ cJ sd_a w_a v_a (wr_a 0) (rd_a 0) (cu_a 0) (sp_a 0) sd ++ wSy cI cZ cJ cu_a cu ++ wSy cI cZ cJ sp_a sp ++ wBr cI cZ cJ w_a w_b w ++ wBr cI cZ cJ v_a v_b v ++ wWr cI cZ cJ wr_a (cb_a 0) wr ++ wRd cI cZ cJ rd_a (cb_a 0) rd ++ wCb cI cZ cJ cb_a w_a v_a cb ++ wMo cI cZ cJ mo_a mo ++ wOu cI cZ cJ ou_a ou) : va_W).Perm ((wSd cI cZ cJ sd_a w_a v_a (wr_a 0) (rd_a 0) (cu_a 0) (sp_a 0) sd ++ wSy cI cZ cJ cu_a cu ++ wOu cI cZ cJ ou_a ou) ++ (wSy cI cZ cJ sp_a sp ++ wBr cI cZ cJ w_a w_b w ++ wBr cI cZ cJ v_a v_b v ++ wWr cI cZ cJ wr_a (cb_a 0) wr ++ wRd cI cZ cJ rd_a (cb_a 0) rd ++ wCb cI cZ cJ cb_a w_a v_a cb ++ wMo cI cZ cJ mo_a mo)) := pm_0 _ _ _ _ _ _ _ _ _ _
    have hPc := pw_P (ws' := (wSd cI cZ cJ sd_a w_a v_a (wr_a 0) (rd_a 0) (cu_a 0) (sp_a 0) sd ++ wSy cI cZ cJ cu_a cu ++ wOu cI cZ cJ ou_a ou)) hP (fun q hq => pm9.mem_iff.mpr (List.mem_append_left _ hq))
    have hDc := pw_D (wc := (wSd cI cZ cJ sd_a w_a v_a (wr_a 0) (rd_a 0) (cu_a 0) (sp_a 0) sd ++ wSy cI cZ cJ cu_a cu ++ wOu cI cZ cJ ou_a ou)) hD pm9
    have hFc := pw_free (wc := (wSd cI cZ cJ sd_a w_a v_a (wr_a 0) (rd_a 0) (cu_a 0) (sp_a 0) sd ++ wSy cI cZ cJ cu_a cu ++ wOu cI cZ cJ ou_a ou)) hD hS hA (fun q hq => pm9.mem_iff.mpr (List.mem_append_left _ hq))
    refine va_calli (w_runS (As := [.ref (sd_a 0), .int (xs (i + 1).toNatClampNeg), .int (xs (i + 2).toNatClampNeg), .int (xs (i + 3).toNatClampNeg), .int (xs (i + 4).toNatClampNeg), .ref (ou_a 0)]) (rest := []) ⟨hx, hb, hml, hown, hts⟩ (kx_Law_refined_1 l hl9 dC dI cI cZ cJ sd_a cu_a ou_a w_a v_a (wr_a 0) (rd_a 0) (sp_a 0) H.size hf) (cwH_of 6 hts t_707 rfl rfl t_53 t_705 t_706 hd_Law_refined.2 ⟨Nat.le_trans (Nat.le_of_ble_eq_true rfl) hRf, Nat.le_trans (Nat.le_of_ble_eq_true rfl) hRl⟩) ⟨kPX_blind, kPX_at hPc hK hDc hN (fun q hq => hS.2.1 q hq (fun h9 => absurd (hA2 q h9) (Nat.not_le.mpr hq))) hT hX⟩ rfl rfl hl.1 rfl (lv_room (Nat.le_of_ble_eq_true rfl)) d_law_508 ⟨by omega, by omega⟩) hS (fun q _ h => hFc q h) hFc (fun r9 u t H1 locs ht hvm hw hB hz1 hk1 hS => ?_)
    rw [hw]
    obtain ⟨hP, hD⟩ := pw_join (wr := (wSy cI cZ cJ sp_a sp ++ wBr cI cZ cJ w_a w_b w ++ wBr cI cZ cJ v_a v_b v ++ wWr cI cZ cJ wr_a (cb_a 0) wr ++ wRd cI cZ cJ rd_a (cb_a 0) rd ++ wCb cI cZ cJ cb_a w_a v_a cb ++ wMo cI cZ cJ mo_a mo)) (w1 := (wSd cI cZ cJ sd_a w_a v_a (wr_a 0) (rd_a 0) (cu_a 0) (sp_a 0) sd ++ wSy cI cZ cJ cu_a cu ++ wOu cI cZ cJ ou_a ou)) hP hD pm9 ht hk1 hFc hB
    generalize H1 = H at hP hS ⊢
    have pm9 : ((wSy cI cZ cJ sp_a sp ++ wBr cI cZ cJ w_a w_b w ++ wBr cI cZ cJ v_a v_b v ++ wWr cI cZ cJ wr_a (cb_a 0) wr ++ wRd cI cZ cJ rd_a (cb_a 0) rd ++ wCb cI cZ cJ cb_a w_a v_a cb ++ wMo cI cZ cJ mo_a mo) ++ (wSd cI cZ cJ sd_a w_a v_a (wr_a 0) (rd_a 0) (cu_a 0) (sp_a 0) sd ++ wSy cI cZ cJ cu_a cu ++ wOu cI cZ cJ ou_a ou) : va_W).Perm (wSd cI cZ cJ sd_a w_a v_a (wr_a 0) (rd_a 0) (cu_a 0) (sp_a 0) sd ++ wSy cI cZ cJ cu_a cu ++ wSy cI cZ cJ sp_a sp ++ wBr cI cZ cJ w_a w_b w ++ wBr cI cZ cJ v_a v_b v ++ wWr cI cZ cJ wr_a (cb_a 0) wr ++ wRd cI cZ cJ rd_a (cb_a 0) rd ++ wCb cI cZ cJ cb_a w_a v_a cb ++ wMo cI cZ cJ mo_a mo ++ wOu cI cZ cJ ou_a ou) := pm_1 _ _ _ _ _ _ _ _ _ _
    have hP : va_P (dC, dI) vwCl (wSd cI cZ cJ sd_a w_a v_a (wr_a 0) (rd_a 0) (cu_a 0) (sp_a 0) sd ++ wSy cI cZ cJ cu_a cu ++ wSy cI cZ cJ sp_a sp ++ wBr cI cZ cJ w_a w_b w ++ wBr cI cZ cJ v_a v_b v ++ wWr cI cZ cJ wr_a (cb_a 0) wr ++ wRd cI cZ cJ rd_a (cb_a 0) rd ++ wCb cI cZ cJ cb_a w_a v_a cb ++ wMo cI cZ cJ mo_a mo ++ wOu cI cZ cJ ou_a ou) H := pw_P hP (fun q hq => pm9.mem_iff.mpr hq)
    have hD : va_D A (wSd cI cZ cJ sd_a w_a v_a (wr_a 0) (rd_a 0) (cu_a 0) (sp_a 0) sd ++ wSy cI cZ cJ cu_a cu ++ wSy cI cZ cJ sp_a sp ++ wBr cI cZ cJ w_a w_b w ++ wBr cI cZ cJ v_a v_b v ++ wWr cI cZ cJ wr_a (cb_a 0) wr ++ wRd cI cZ cJ rd_a (cb_a 0) rd ++ wCb cI cZ cJ cb_a w_a v_a cb ++ wMo cI cZ cJ mo_a mo ++ wOu cI cZ cJ ou_a ou) := pw_Dp hD pm9
    refine lv_istore (lv' := [(5, .int 2), (0, .ref b), (1, .ref (sd_a 0)), (2, .ref (mo_a 0)), (3, .ref (ou_a 0)), (4, .int i)]) hx hb d_law_511 hl (by decide) rfl (fun ls hl => ?_)
    refine lv_aload_n hx hb d_law_513 rfl (lv_at hl 3 rfl) ?_
    refine lv_aload_n hx hb d_law_514 rfl (lv_at hl 1 rfl) ?_
    refine lv_iload hx hb d_law_515 (lv_at hl 5 rfl) ?_
    refine lv_iconst (v := 1) hx hb d_law_517 (by decide) ?_
    refine lv_iadd hx hb d_law_518 ?_
    refine va_sld hx hb hX0 hbl hbA hS (hin 1 (by decide) (by decide)) d_law_519 ?_
    refine lv_aload_n hx hb d_law_520 rfl (lv_at hl 1 rfl) ?_
    refine lv_iload hx hb d_law_521 (lv_at hl 5 rfl) ?_
    refine lv_iconst (v := 2) hx hb d_law_523 (by decide) ?_
    refine lv_iadd hx hb d_law_524 ?_
    refine va_sld hx hb hX0 hbl hbA hS (hin 2 (by decide) (by decide)) d_law_525 ?_
    refine lv_aload_n hx hb d_law_526 rfl (lv_at hl 1 rfl) ?_
    refine lv_iload hx hb d_law_527 (lv_at hl 5 rfl) ?_
    refine lv_iconst (v := 3) hx hb d_law_529 (by decide) ?_
    refine lv_iadd hx hb d_law_530 ?_
    refine va_sld hx hb hX0 hbl hbA hS (hin 3 (by decide) (by decide)) d_law_531 ?_
    refine lv_aload_n hx hb d_law_532 rfl (lv_at hl 1 rfl) ?_
    refine lv_iload hx hb d_law_533 (lv_at hl 5 rfl) ?_
    refine lv_iconst (v := 4) hx hb d_law_535 (by decide) ?_
    refine lv_iadd hx hb d_law_536 ?_
    refine va_sld hx hb hX0 hbl hbA hS (hin 4 (by decide) (by decide)) d_law_537 ?_
    have pm9 : ((wSd cI cZ cJ sd_a w_a v_a (wr_a 0) (rd_a 0) (cu_a 0) (sp_a 0) sd ++ wSy cI cZ cJ cu_a cu ++ wSy cI cZ cJ sp_a sp ++ wBr cI cZ cJ w_a w_b w ++ wBr cI cZ cJ v_a v_b v ++ wWr cI cZ cJ wr_a (cb_a 0) wr ++ wRd cI cZ cJ rd_a (cb_a 0) rd ++ wCb cI cZ cJ cb_a w_a v_a cb ++ wMo cI cZ cJ mo_a mo ++ wOu cI cZ cJ ou_a ou) : va_W).Perm ((wMo cI cZ cJ mo_a mo) ++ (wSd cI cZ cJ sd_a w_a v_a (wr_a 0) (rd_a 0) (cu_a 0) (sp_a 0) sd ++ wSy cI cZ cJ cu_a cu ++ wSy cI cZ cJ sp_a sp ++ wBr cI cZ cJ w_a w_b w ++ wBr cI cZ cJ v_a v_b v ++ wWr cI cZ cJ wr_a (cb_a 0) wr ++ wRd cI cZ cJ rd_a (cb_a 0) rd ++ wCb cI cZ cJ cb_a w_a v_a cb ++ wOu cI cZ cJ ou_a ou)) := pm_2 _ _ _ _ _ _ _ _ _ _
    have hPc := pw_P (ws' := (wMo cI cZ cJ mo_a mo)) hP (fun q hq => pm9.mem_iff.mpr (List.mem_append_left _ hq))
    have hDc := pw_D (wc := (wMo cI cZ cJ mo_a mo)) hD pm9
    have hFc := pw_free (wc := (wMo cI cZ cJ mo_a mo)) hD hS hA (fun q hq => pm9.mem_iff.mpr (List.mem_append_left _ hq))
    refine va_calli (va_runV (As := [.int (xs (i + 1).toNatClampNeg), .int (xs (i + 2).toNatClampNeg), .int (xs (i + 3).toNatClampNeg), .int (xs (i + 4).toNatClampNeg)]) (rest := []) ⟨hx, hb, hml, hown, hts⟩ (k_Model_refined l dC dI cI cZ cJ mo_a H.size hg) (cwV 4 hts (gV t_945 t_946 t_947 t_63 t_948) rfl rfl rfl hd_Model_refined ⟨Nat.le_trans (Nat.le_of_ble_eq_true rfl) hRf, Nat.le_trans (Nat.le_of_ble_eq_true rfl) hRl⟩) ⟨kP_blind, va_recv hK hPc (ci := 7) (q0 := 0) rfl rfl, kP_at hPc hK hDc hN⟩ rfl rfl hl.1 rfl (lv_room (Nat.le_of_ble_eq_true rfl)) d_law_538 ⟨by omega, by omega⟩) hS (fun q _ h => hFc q h) hFc (fun r9 u t H1 locs ht hvm hw hB hz1 hk1 hS => ?_)
    rw [hw]
    obtain ⟨hP, hD⟩ := pw_join (wr := (wSd cI cZ cJ sd_a w_a v_a (wr_a 0) (rd_a 0) (cu_a 0) (sp_a 0) sd ++ wSy cI cZ cJ cu_a cu ++ wSy cI cZ cJ sp_a sp ++ wBr cI cZ cJ w_a w_b w ++ wBr cI cZ cJ v_a v_b v ++ wWr cI cZ cJ wr_a (cb_a 0) wr ++ wRd cI cZ cJ rd_a (cb_a 0) rd ++ wCb cI cZ cJ cb_a w_a v_a cb ++ wOu cI cZ cJ ou_a ou)) (w1 := (wMo cI cZ cJ mo_a mo')) hP hD pm9 ht hk1 hFc hB
    generalize H1 = H at hP hS ⊢
    have pm9 : ((wSd cI cZ cJ sd_a w_a v_a (wr_a 0) (rd_a 0) (cu_a 0) (sp_a 0) sd ++ wSy cI cZ cJ cu_a cu ++ wSy cI cZ cJ sp_a sp ++ wBr cI cZ cJ w_a w_b w ++ wBr cI cZ cJ v_a v_b v ++ wWr cI cZ cJ wr_a (cb_a 0) wr ++ wRd cI cZ cJ rd_a (cb_a 0) rd ++ wCb cI cZ cJ cb_a w_a v_a cb ++ wOu cI cZ cJ ou_a ou) ++ (wMo cI cZ cJ mo_a mo') : va_W).Perm (wSd cI cZ cJ sd_a w_a v_a (wr_a 0) (rd_a 0) (cu_a 0) (sp_a 0) sd ++ wSy cI cZ cJ cu_a cu ++ wSy cI cZ cJ sp_a sp ++ wBr cI cZ cJ w_a w_b w ++ wBr cI cZ cJ v_a v_b v ++ wWr cI cZ cJ wr_a (cb_a 0) wr ++ wRd cI cZ cJ rd_a (cb_a 0) rd ++ wCb cI cZ cJ cb_a w_a v_a cb ++ wMo cI cZ cJ mo_a mo' ++ wOu cI cZ cJ ou_a ou) := pm_3 _ _ _ _ _ _ _ _ _ _
    have hP : va_P (dC, dI) vwCl (wSd cI cZ cJ sd_a w_a v_a (wr_a 0) (rd_a 0) (cu_a 0) (sp_a 0) sd ++ wSy cI cZ cJ cu_a cu ++ wSy cI cZ cJ sp_a sp ++ wBr cI cZ cJ w_a w_b w ++ wBr cI cZ cJ v_a v_b v ++ wWr cI cZ cJ wr_a (cb_a 0) wr ++ wRd cI cZ cJ rd_a (cb_a 0) rd ++ wCb cI cZ cJ cb_a w_a v_a cb ++ wMo cI cZ cJ mo_a mo' ++ wOu cI cZ cJ ou_a ou) H := pw_P hP (fun q hq => pm9.mem_iff.mpr hq)
    have hD : va_D A (wSd cI cZ cJ sd_a w_a v_a (wr_a 0) (rd_a 0) (cu_a 0) (sp_a 0) sd ++ wSy cI cZ cJ cu_a cu ++ wSy cI cZ cJ sp_a sp ++ wBr cI cZ cJ w_a w_b w ++ wBr cI cZ cJ v_a v_b v ++ wWr cI cZ cJ wr_a (cb_a 0) wr ++ wRd cI cZ cJ rd_a (cb_a 0) rd ++ wCb cI cZ cJ cb_a w_a v_a cb ++ wMo cI cZ cJ mo_a mo' ++ wOu cI cZ cJ ou_a ou) := pw_Dp hD pm9
    refine lv_istore (lv' := [(6, .int q), (5, .int 2), (0, .ref b), (1, .ref (sd_a 0)), (2, .ref (mo_a 0)), (3, .ref (ou_a 0)), (4, .int i)]) hx hb d_law_541 hl (by decide) rfl (fun ls hl => ?_)
    refine lv_aload_n hx hb d_law_543 rfl (lv_at hl 4 rfl) ?_
    have hth : f_Model_thrown mo' = some (Mo_code mo') := rfl
    have pm9 : ((wSd cI cZ cJ sd_a w_a v_a (wr_a 0) (rd_a 0) (cu_a 0) (sp_a 0) sd ++ wSy cI cZ cJ cu_a cu ++ wSy cI cZ cJ sp_a sp ++ wBr cI cZ cJ w_a w_b w ++ wBr cI cZ cJ v_a v_b v ++ wWr cI cZ cJ wr_a (cb_a 0) wr ++ wRd cI cZ cJ rd_a (cb_a 0) rd ++ wCb cI cZ cJ cb_a w_a v_a cb ++ wMo cI cZ cJ mo_a mo' ++ wOu cI cZ cJ ou_a ou) : va_W).Perm ((wMo cI cZ cJ mo_a mo') ++ (wSd cI cZ cJ sd_a w_a v_a (wr_a 0) (rd_a 0) (cu_a 0) (sp_a 0) sd ++ wSy cI cZ cJ cu_a cu ++ wSy cI cZ cJ sp_a sp ++ wBr cI cZ cJ w_a w_b w ++ wBr cI cZ cJ v_a v_b v ++ wWr cI cZ cJ wr_a (cb_a 0) wr ++ wRd cI cZ cJ rd_a (cb_a 0) rd ++ wCb cI cZ cJ cb_a w_a v_a cb ++ wOu cI cZ cJ ou_a ou)) := pm_2 _ _ _ _ _ _ _ _ _ _
    have hPc := pw_P (ws' := (wMo cI cZ cJ mo_a mo')) hP (fun q hq => pm9.mem_iff.mpr (List.mem_append_left _ hq))
    have hDc := pw_D (wc := (wMo cI cZ cJ mo_a mo')) hD pm9
    have hFc := pw_free (wc := (wMo cI cZ cJ mo_a mo')) hD hS hA (fun q hq => pm9.mem_iff.mpr (List.mem_append_left _ hq))
    refine va_calli (va_runV (As := []) (rest := []) ⟨hx, hb, hml, hown, hts⟩ (k_Model_thrown l dC dI cI cZ cJ mo_a H.size hth) (cwV 0 hts (gV t_906 t_907 t_908 t_63 t_909) rfl rfl rfl hd_Model_thrown ⟨Nat.le_trans (Nat.le_of_ble_eq_true rfl) hRf, Nat.le_trans (Nat.le_of_ble_eq_true rfl) hRl⟩) ⟨kP_blind, va_recv hK hPc (ci := 7) (q0 := 0) rfl rfl, kP_at hPc hK hDc hN⟩ rfl rfl hl.1 rfl (lv_room (Nat.le_of_ble_eq_true rfl)) d_law_544 ⟨by omega, by omega⟩) hS (fun q _ h => hFc q h) hFc (fun r9 u t H1 locs ht hvm hw hB hz1 hk1 hS => ?_)
    rw [hw]
    obtain ⟨hP, hD⟩ := pw_join (wr := (wSd cI cZ cJ sd_a w_a v_a (wr_a 0) (rd_a 0) (cu_a 0) (sp_a 0) sd ++ wSy cI cZ cJ cu_a cu ++ wSy cI cZ cJ sp_a sp ++ wBr cI cZ cJ w_a w_b w ++ wBr cI cZ cJ v_a v_b v ++ wWr cI cZ cJ wr_a (cb_a 0) wr ++ wRd cI cZ cJ rd_a (cb_a 0) rd ++ wCb cI cZ cJ cb_a w_a v_a cb ++ wOu cI cZ cJ ou_a ou)) (w1 := (wMo cI cZ cJ mo_a mo')) hP hD pm9 ht hk1 hFc hB
    generalize H1 = H at hP hS ⊢
    have pm9 : ((wSd cI cZ cJ sd_a w_a v_a (wr_a 0) (rd_a 0) (cu_a 0) (sp_a 0) sd ++ wSy cI cZ cJ cu_a cu ++ wSy cI cZ cJ sp_a sp ++ wBr cI cZ cJ w_a w_b w ++ wBr cI cZ cJ v_a v_b v ++ wWr cI cZ cJ wr_a (cb_a 0) wr ++ wRd cI cZ cJ rd_a (cb_a 0) rd ++ wCb cI cZ cJ cb_a w_a v_a cb ++ wOu cI cZ cJ ou_a ou) ++ (wMo cI cZ cJ mo_a mo') : va_W).Perm (wSd cI cZ cJ sd_a w_a v_a (wr_a 0) (rd_a 0) (cu_a 0) (sp_a 0) sd ++ wSy cI cZ cJ cu_a cu ++ wSy cI cZ cJ sp_a sp ++ wBr cI cZ cJ w_a w_b w ++ wBr cI cZ cJ v_a v_b v ++ wWr cI cZ cJ wr_a (cb_a 0) wr ++ wRd cI cZ cJ rd_a (cb_a 0) rd ++ wCb cI cZ cJ cb_a w_a v_a cb ++ wMo cI cZ cJ mo_a mo' ++ wOu cI cZ cJ ou_a ou) := pm_3 _ _ _ _ _ _ _ _ _ _
    have hP : va_P (dC, dI) vwCl (wSd cI cZ cJ sd_a w_a v_a (wr_a 0) (rd_a 0) (cu_a 0) (sp_a 0) sd ++ wSy cI cZ cJ cu_a cu ++ wSy cI cZ cJ sp_a sp ++ wBr cI cZ cJ w_a w_b w ++ wBr cI cZ cJ v_a v_b v ++ wWr cI cZ cJ wr_a (cb_a 0) wr ++ wRd cI cZ cJ rd_a (cb_a 0) rd ++ wCb cI cZ cJ cb_a w_a v_a cb ++ wMo cI cZ cJ mo_a mo' ++ wOu cI cZ cJ ou_a ou) H := pw_P hP (fun q hq => pm9.mem_iff.mpr hq)
    have hD : va_D A (wSd cI cZ cJ sd_a w_a v_a (wr_a 0) (rd_a 0) (cu_a 0) (sp_a 0) sd ++ wSy cI cZ cJ cu_a cu ++ wSy cI cZ cJ sp_a sp ++ wBr cI cZ cJ w_a w_b w ++ wBr cI cZ cJ v_a v_b v ++ wWr cI cZ cJ wr_a (cb_a 0) wr ++ wRd cI cZ cJ rd_a (cb_a 0) rd ++ wCb cI cZ cJ cb_a w_a v_a cb ++ wMo cI cZ cJ mo_a mo' ++ wOu cI cZ cJ ou_a ou) := pw_Dp hD pm9
    refine lv_iload hx hb d_law_547 (lv_at hl 1 rfl) ?_
    refine lv_icmp_eq (tgt := 554) hx hb d_law_549 (by decide) (fun _ => ?_) (fun h9 => absurd hcode h9)
    refine lv_iload hx hb d_law_554 (lv_at hl 1 rfl) ?_
    refine lv_if_ne (tgt := 571) hx hb d_law_556 (by decide) (fun _ => ?_) (fun h9 => absurd h9 (by decide))
    refine lv_goto (tgt := 1131) hx hb d_law_571 (by decide) ?_
    have hl := lv_sub (l' := [(0, .ref b), (1, .ref (sd_a 0)), (2, .ref (mo_a 0)), (3, .ref (ou_a 0)), (4, .int i)]) hl [2, 3, 4, 5, 6] rfl
    refine W.widen (k := j + 1 + Br_byL w + Br_byL v) (n := 6 * (j + 1) + 2 * Br_byL w + 2 * Br_byL v) (by omega) (by omega) ?_
    exact hk _ _ _ cu_a sp_a w_b v_b cu sp w v wr rd cb mo' ou hrel hP hD hS hl
  · refine lv_aload_n hx hb d_law_482 rfl (lv_at hl 1 rfl) ?_
    refine lv_aload_n hx hb d_law_483 rfl (lv_at hl 0 rfl) ?_
    refine lv_iload hx hb d_law_484 (lv_at hl 4 rfl) ?_
    refine lv_iconst (v := 1) hx hb d_law_486 (by decide) ?_
    refine lv_iadd hx hb d_law_487 ?_
    refine va_sld hx hb hX0 hbl hbA hS (hin 1 (by decide) (by decide)) d_law_488 ?_
    refine lv_aload_n hx hb d_law_489 rfl (lv_at hl 0 rfl) ?_
    refine lv_iload hx hb d_law_490 (lv_at hl 4 rfl) ?_
    refine lv_iconst (v := 2) hx hb d_law_492 (by decide) ?_
    refine lv_iadd hx hb d_law_493 ?_
    refine va_sld hx hb hX0 hbl hbA hS (hin 2 (by decide) (by decide)) d_law_494 ?_
    refine lv_aload_n hx hb d_law_495 rfl (lv_at hl 0 rfl) ?_
    refine lv_iload hx hb d_law_496 (lv_at hl 4 rfl) ?_
    refine lv_iconst (v := 3) hx hb d_law_498 (by decide) ?_
    refine lv_iadd hx hb d_law_499 ?_
    refine va_sld hx hb hX0 hbl hbA hS (hin 3 (by decide) (by decide)) d_law_500 ?_
    refine lv_aload_n hx hb d_law_501 rfl (lv_at hl 0 rfl) ?_
    refine lv_iload hx hb d_law_502 (lv_at hl 4 rfl) ?_
    refine lv_iconst (v := 4) hx hb d_law_504 (by decide) ?_
    refine lv_iadd hx hb d_law_505 ?_
    refine va_sld hx hb hX0 hbl hbA hS (hin 4 (by decide) (by decide)) d_law_506 ?_
    refine lv_aload_n hx hb d_law_507 rfl (lv_at hl 3 rfl) ?_
    have pm9 : ((wSd cI cZ cJ sd_a w_a v_a (wr_a 0) (rd_a 0) (cu_a 0) (sp_a 0) sd ++ wSy cI cZ cJ cu_a cu ++ wSy cI cZ cJ sp_a sp ++ wBr cI cZ cJ w_a w_b w ++ wBr cI cZ cJ v_a v_b v ++ wWr cI cZ cJ wr_a (cb_a 0) wr ++ wRd cI cZ cJ rd_a (cb_a 0) rd ++ wCb cI cZ cJ cb_a w_a v_a cb ++ wMo cI cZ cJ mo_a mo ++ wOu cI cZ cJ ou_a ou) : va_W).Perm ((wSd cI cZ cJ sd_a w_a v_a (wr_a 0) (rd_a 0) (cu_a 0) (sp_a 0) sd ++ wSy cI cZ cJ cu_a cu ++ wOu cI cZ cJ ou_a ou) ++ (wSy cI cZ cJ sp_a sp ++ wBr cI cZ cJ w_a w_b w ++ wBr cI cZ cJ v_a v_b v ++ wWr cI cZ cJ wr_a (cb_a 0) wr ++ wRd cI cZ cJ rd_a (cb_a 0) rd ++ wCb cI cZ cJ cb_a w_a v_a cb ++ wMo cI cZ cJ mo_a mo)) := pm_0 _ _ _ _ _ _ _ _ _ _
    have hPc := pw_P (ws' := (wSd cI cZ cJ sd_a w_a v_a (wr_a 0) (rd_a 0) (cu_a 0) (sp_a 0) sd ++ wSy cI cZ cJ cu_a cu ++ wOu cI cZ cJ ou_a ou)) hP (fun q hq => pm9.mem_iff.mpr (List.mem_append_left _ hq))
    have hDc := pw_D (wc := (wSd cI cZ cJ sd_a w_a v_a (wr_a 0) (rd_a 0) (cu_a 0) (sp_a 0) sd ++ wSy cI cZ cJ cu_a cu ++ wOu cI cZ cJ ou_a ou)) hD pm9
    have hFc := pw_free (wc := (wSd cI cZ cJ sd_a w_a v_a (wr_a 0) (rd_a 0) (cu_a 0) (sp_a 0) sd ++ wSy cI cZ cJ cu_a cu ++ wOu cI cZ cJ ou_a ou)) hD hS hA (fun q hq => pm9.mem_iff.mpr (List.mem_append_left _ hq))
    refine va_calli (w_runS (As := [.ref (sd_a 0), .int (xs (i + 1).toNatClampNeg), .int (xs (i + 2).toNatClampNeg), .int (xs (i + 3).toNatClampNeg), .int (xs (i + 4).toNatClampNeg), .ref (ou_a 0)]) (rest := []) ⟨hx, hb, hml, hown, hts⟩ (kx_Law_refined_2 l hl9 dC dI cI cZ cJ sd_a cu_a ou_a w_a v_a (wr_a 0) (rd_a 0) (sp_a 0) H.size hf) (cwH_of 6 hts t_707 rfl rfl t_53 t_705 t_706 hd_Law_refined.2 ⟨Nat.le_trans (Nat.le_of_ble_eq_true rfl) hRf, Nat.le_trans (Nat.le_of_ble_eq_true rfl) hRl⟩) ⟨kPX_blind, kPX_at hPc hK hDc hN (fun q hq => hS.2.1 q hq (fun h9 => absurd (hA2 q h9) (Nat.not_le.mpr hq))) hT hX⟩ rfl rfl hl.1 rfl (lv_room (Nat.le_of_ble_eq_true rfl)) d_law_508 ⟨by omega, by omega⟩) hS (fun q _ h => hFc q h) hFc (fun r9 u t H1 locs ht hvm hw hB hz1 hk1 hS => ?_)
    rw [hw]
    obtain ⟨hP, hD⟩ := pw_join (wr := (wSy cI cZ cJ sp_a sp ++ wBr cI cZ cJ w_a w_b w ++ wBr cI cZ cJ v_a v_b v ++ wWr cI cZ cJ wr_a (cb_a 0) wr ++ wRd cI cZ cJ rd_a (cb_a 0) rd ++ wCb cI cZ cJ cb_a w_a v_a cb ++ wMo cI cZ cJ mo_a mo)) (w1 := (wSd cI cZ cJ sd_a w_a v_a (wr_a 0) (rd_a 0) (cu_a 0) (sp_a 0) sd ++ wSy cI cZ cJ cu_a cu ++ wOu cI cZ cJ ou_a ou)) hP hD pm9 ht hk1 hFc hB
    generalize H1 = H at hP hS ⊢
    have pm9 : ((wSy cI cZ cJ sp_a sp ++ wBr cI cZ cJ w_a w_b w ++ wBr cI cZ cJ v_a v_b v ++ wWr cI cZ cJ wr_a (cb_a 0) wr ++ wRd cI cZ cJ rd_a (cb_a 0) rd ++ wCb cI cZ cJ cb_a w_a v_a cb ++ wMo cI cZ cJ mo_a mo) ++ (wSd cI cZ cJ sd_a w_a v_a (wr_a 0) (rd_a 0) (cu_a 0) (sp_a 0) sd ++ wSy cI cZ cJ cu_a cu ++ wOu cI cZ cJ ou_a ou) : va_W).Perm (wSd cI cZ cJ sd_a w_a v_a (wr_a 0) (rd_a 0) (cu_a 0) (sp_a 0) sd ++ wSy cI cZ cJ cu_a cu ++ wSy cI cZ cJ sp_a sp ++ wBr cI cZ cJ w_a w_b w ++ wBr cI cZ cJ v_a v_b v ++ wWr cI cZ cJ wr_a (cb_a 0) wr ++ wRd cI cZ cJ rd_a (cb_a 0) rd ++ wCb cI cZ cJ cb_a w_a v_a cb ++ wMo cI cZ cJ mo_a mo ++ wOu cI cZ cJ ou_a ou) := pm_1 _ _ _ _ _ _ _ _ _ _
    have hP : va_P (dC, dI) vwCl (wSd cI cZ cJ sd_a w_a v_a (wr_a 0) (rd_a 0) (cu_a 0) (sp_a 0) sd ++ wSy cI cZ cJ cu_a cu ++ wSy cI cZ cJ sp_a sp ++ wBr cI cZ cJ w_a w_b w ++ wBr cI cZ cJ v_a v_b v ++ wWr cI cZ cJ wr_a (cb_a 0) wr ++ wRd cI cZ cJ rd_a (cb_a 0) rd ++ wCb cI cZ cJ cb_a w_a v_a cb ++ wMo cI cZ cJ mo_a mo ++ wOu cI cZ cJ ou_a ou) H := pw_P hP (fun q hq => pm9.mem_iff.mpr hq)
    have hD : va_D A (wSd cI cZ cJ sd_a w_a v_a (wr_a 0) (rd_a 0) (cu_a 0) (sp_a 0) sd ++ wSy cI cZ cJ cu_a cu ++ wSy cI cZ cJ sp_a sp ++ wBr cI cZ cJ w_a w_b w ++ wBr cI cZ cJ v_a v_b v ++ wWr cI cZ cJ wr_a (cb_a 0) wr ++ wRd cI cZ cJ rd_a (cb_a 0) rd ++ wCb cI cZ cJ cb_a w_a v_a cb ++ wMo cI cZ cJ mo_a mo ++ wOu cI cZ cJ ou_a ou) := pw_Dp hD pm9
    refine lv_istore (lv' := [(5, .int 3), (0, .ref b), (1, .ref (sd_a 0)), (2, .ref (mo_a 0)), (3, .ref (ou_a 0)), (4, .int i)]) hx hb d_law_511 hl (by decide) rfl (fun ls hl => ?_)
    refine lv_aload_n hx hb d_law_513 rfl (lv_at hl 3 rfl) ?_
    refine lv_aload_n hx hb d_law_514 rfl (lv_at hl 1 rfl) ?_
    refine lv_iload hx hb d_law_515 (lv_at hl 5 rfl) ?_
    refine lv_iconst (v := 1) hx hb d_law_517 (by decide) ?_
    refine lv_iadd hx hb d_law_518 ?_
    refine va_sld hx hb hX0 hbl hbA hS (hin 1 (by decide) (by decide)) d_law_519 ?_
    refine lv_aload_n hx hb d_law_520 rfl (lv_at hl 1 rfl) ?_
    refine lv_iload hx hb d_law_521 (lv_at hl 5 rfl) ?_
    refine lv_iconst (v := 2) hx hb d_law_523 (by decide) ?_
    refine lv_iadd hx hb d_law_524 ?_
    refine va_sld hx hb hX0 hbl hbA hS (hin 2 (by decide) (by decide)) d_law_525 ?_
    refine lv_aload_n hx hb d_law_526 rfl (lv_at hl 1 rfl) ?_
    refine lv_iload hx hb d_law_527 (lv_at hl 5 rfl) ?_
    refine lv_iconst (v := 3) hx hb d_law_529 (by decide) ?_
    refine lv_iadd hx hb d_law_530 ?_
    refine va_sld hx hb hX0 hbl hbA hS (hin 3 (by decide) (by decide)) d_law_531 ?_
    refine lv_aload_n hx hb d_law_532 rfl (lv_at hl 1 rfl) ?_
    refine lv_iload hx hb d_law_533 (lv_at hl 5 rfl) ?_
    refine lv_iconst (v := 4) hx hb d_law_535 (by decide) ?_
    refine lv_iadd hx hb d_law_536 ?_
    refine va_sld hx hb hX0 hbl hbA hS (hin 4 (by decide) (by decide)) d_law_537 ?_
    have pm9 : ((wSd cI cZ cJ sd_a w_a v_a (wr_a 0) (rd_a 0) (cu_a 0) (sp_a 0) sd ++ wSy cI cZ cJ cu_a cu ++ wSy cI cZ cJ sp_a sp ++ wBr cI cZ cJ w_a w_b w ++ wBr cI cZ cJ v_a v_b v ++ wWr cI cZ cJ wr_a (cb_a 0) wr ++ wRd cI cZ cJ rd_a (cb_a 0) rd ++ wCb cI cZ cJ cb_a w_a v_a cb ++ wMo cI cZ cJ mo_a mo ++ wOu cI cZ cJ ou_a ou) : va_W).Perm ((wMo cI cZ cJ mo_a mo) ++ (wSd cI cZ cJ sd_a w_a v_a (wr_a 0) (rd_a 0) (cu_a 0) (sp_a 0) sd ++ wSy cI cZ cJ cu_a cu ++ wSy cI cZ cJ sp_a sp ++ wBr cI cZ cJ w_a w_b w ++ wBr cI cZ cJ v_a v_b v ++ wWr cI cZ cJ wr_a (cb_a 0) wr ++ wRd cI cZ cJ rd_a (cb_a 0) rd ++ wCb cI cZ cJ cb_a w_a v_a cb ++ wOu cI cZ cJ ou_a ou)) := pm_2 _ _ _ _ _ _ _ _ _ _
    have hPc := pw_P (ws' := (wMo cI cZ cJ mo_a mo)) hP (fun q hq => pm9.mem_iff.mpr (List.mem_append_left _ hq))
    have hDc := pw_D (wc := (wMo cI cZ cJ mo_a mo)) hD pm9
    have hFc := pw_free (wc := (wMo cI cZ cJ mo_a mo)) hD hS hA (fun q hq => pm9.mem_iff.mpr (List.mem_append_left _ hq))
    refine va_calli (va_runV (As := [.int (xs (i + 1).toNatClampNeg), .int (xs (i + 2).toNatClampNeg), .int (xs (i + 3).toNatClampNeg), .int (xs (i + 4).toNatClampNeg)]) (rest := []) ⟨hx, hb, hml, hown, hts⟩ (k_Model_refined l dC dI cI cZ cJ mo_a H.size hg) (cwV 4 hts (gV t_945 t_946 t_947 t_63 t_948) rfl rfl rfl hd_Model_refined ⟨Nat.le_trans (Nat.le_of_ble_eq_true rfl) hRf, Nat.le_trans (Nat.le_of_ble_eq_true rfl) hRl⟩) ⟨kP_blind, va_recv hK hPc (ci := 7) (q0 := 0) rfl rfl, kP_at hPc hK hDc hN⟩ rfl rfl hl.1 rfl (lv_room (Nat.le_of_ble_eq_true rfl)) d_law_538 ⟨by omega, by omega⟩) hS (fun q _ h => hFc q h) hFc (fun r9 u t H1 locs ht hvm hw hB hz1 hk1 hS => ?_)
    rw [hw]
    obtain ⟨hP, hD⟩ := pw_join (wr := (wSd cI cZ cJ sd_a w_a v_a (wr_a 0) (rd_a 0) (cu_a 0) (sp_a 0) sd ++ wSy cI cZ cJ cu_a cu ++ wSy cI cZ cJ sp_a sp ++ wBr cI cZ cJ w_a w_b w ++ wBr cI cZ cJ v_a v_b v ++ wWr cI cZ cJ wr_a (cb_a 0) wr ++ wRd cI cZ cJ rd_a (cb_a 0) rd ++ wCb cI cZ cJ cb_a w_a v_a cb ++ wOu cI cZ cJ ou_a ou)) (w1 := (wMo cI cZ cJ mo_a mo')) hP hD pm9 ht hk1 hFc hB
    generalize H1 = H at hP hS ⊢
    have pm9 : ((wSd cI cZ cJ sd_a w_a v_a (wr_a 0) (rd_a 0) (cu_a 0) (sp_a 0) sd ++ wSy cI cZ cJ cu_a cu ++ wSy cI cZ cJ sp_a sp ++ wBr cI cZ cJ w_a w_b w ++ wBr cI cZ cJ v_a v_b v ++ wWr cI cZ cJ wr_a (cb_a 0) wr ++ wRd cI cZ cJ rd_a (cb_a 0) rd ++ wCb cI cZ cJ cb_a w_a v_a cb ++ wOu cI cZ cJ ou_a ou) ++ (wMo cI cZ cJ mo_a mo') : va_W).Perm (wSd cI cZ cJ sd_a w_a v_a (wr_a 0) (rd_a 0) (cu_a 0) (sp_a 0) sd ++ wSy cI cZ cJ cu_a cu ++ wSy cI cZ cJ sp_a sp ++ wBr cI cZ cJ w_a w_b w ++ wBr cI cZ cJ v_a v_b v ++ wWr cI cZ cJ wr_a (cb_a 0) wr ++ wRd cI cZ cJ rd_a (cb_a 0) rd ++ wCb cI cZ cJ cb_a w_a v_a cb ++ wMo cI cZ cJ mo_a mo' ++ wOu cI cZ cJ ou_a ou) := pm_3 _ _ _ _ _ _ _ _ _ _
    have hP : va_P (dC, dI) vwCl (wSd cI cZ cJ sd_a w_a v_a (wr_a 0) (rd_a 0) (cu_a 0) (sp_a 0) sd ++ wSy cI cZ cJ cu_a cu ++ wSy cI cZ cJ sp_a sp ++ wBr cI cZ cJ w_a w_b w ++ wBr cI cZ cJ v_a v_b v ++ wWr cI cZ cJ wr_a (cb_a 0) wr ++ wRd cI cZ cJ rd_a (cb_a 0) rd ++ wCb cI cZ cJ cb_a w_a v_a cb ++ wMo cI cZ cJ mo_a mo' ++ wOu cI cZ cJ ou_a ou) H := pw_P hP (fun q hq => pm9.mem_iff.mpr hq)
    have hD : va_D A (wSd cI cZ cJ sd_a w_a v_a (wr_a 0) (rd_a 0) (cu_a 0) (sp_a 0) sd ++ wSy cI cZ cJ cu_a cu ++ wSy cI cZ cJ sp_a sp ++ wBr cI cZ cJ w_a w_b w ++ wBr cI cZ cJ v_a v_b v ++ wWr cI cZ cJ wr_a (cb_a 0) wr ++ wRd cI cZ cJ rd_a (cb_a 0) rd ++ wCb cI cZ cJ cb_a w_a v_a cb ++ wMo cI cZ cJ mo_a mo' ++ wOu cI cZ cJ ou_a ou) := pw_Dp hD pm9
    refine lv_istore (lv' := [(6, .int q), (5, .int 3), (0, .ref b), (1, .ref (sd_a 0)), (2, .ref (mo_a 0)), (3, .ref (ou_a 0)), (4, .int i)]) hx hb d_law_541 hl (by decide) rfl (fun ls hl => ?_)
    refine lv_aload_n hx hb d_law_543 rfl (lv_at hl 4 rfl) ?_
    have hth : f_Model_thrown mo' = some (Mo_code mo') := rfl
    have pm9 : ((wSd cI cZ cJ sd_a w_a v_a (wr_a 0) (rd_a 0) (cu_a 0) (sp_a 0) sd ++ wSy cI cZ cJ cu_a cu ++ wSy cI cZ cJ sp_a sp ++ wBr cI cZ cJ w_a w_b w ++ wBr cI cZ cJ v_a v_b v ++ wWr cI cZ cJ wr_a (cb_a 0) wr ++ wRd cI cZ cJ rd_a (cb_a 0) rd ++ wCb cI cZ cJ cb_a w_a v_a cb ++ wMo cI cZ cJ mo_a mo' ++ wOu cI cZ cJ ou_a ou) : va_W).Perm ((wMo cI cZ cJ mo_a mo') ++ (wSd cI cZ cJ sd_a w_a v_a (wr_a 0) (rd_a 0) (cu_a 0) (sp_a 0) sd ++ wSy cI cZ cJ cu_a cu ++ wSy cI cZ cJ sp_a sp ++ wBr cI cZ cJ w_a w_b w ++ wBr cI cZ cJ v_a v_b v ++ wWr cI cZ cJ wr_a (cb_a 0) wr ++ wRd cI cZ cJ rd_a (cb_a 0) rd ++ wCb cI cZ cJ cb_a w_a v_a cb ++ wOu cI cZ cJ ou_a ou)) := pm_2 _ _ _ _ _ _ _ _ _ _
    have hPc := pw_P (ws' := (wMo cI cZ cJ mo_a mo')) hP (fun q hq => pm9.mem_iff.mpr (List.mem_append_left _ hq))
    have hDc := pw_D (wc := (wMo cI cZ cJ mo_a mo')) hD pm9
    have hFc := pw_free (wc := (wMo cI cZ cJ mo_a mo')) hD hS hA (fun q hq => pm9.mem_iff.mpr (List.mem_append_left _ hq))
    refine va_calli (va_runV (As := []) (rest := []) ⟨hx, hb, hml, hown, hts⟩ (k_Model_thrown l dC dI cI cZ cJ mo_a H.size hth) (cwV 0 hts (gV t_906 t_907 t_908 t_63 t_909) rfl rfl rfl hd_Model_thrown ⟨Nat.le_trans (Nat.le_of_ble_eq_true rfl) hRf, Nat.le_trans (Nat.le_of_ble_eq_true rfl) hRl⟩) ⟨kP_blind, va_recv hK hPc (ci := 7) (q0 := 0) rfl rfl, kP_at hPc hK hDc hN⟩ rfl rfl hl.1 rfl (lv_room (Nat.le_of_ble_eq_true rfl)) d_law_544 ⟨by omega, by omega⟩) hS (fun q _ h => hFc q h) hFc (fun r9 u t H1 locs ht hvm hw hB hz1 hk1 hS => ?_)
    rw [hw]
    obtain ⟨hP, hD⟩ := pw_join (wr := (wSd cI cZ cJ sd_a w_a v_a (wr_a 0) (rd_a 0) (cu_a 0) (sp_a 0) sd ++ wSy cI cZ cJ cu_a cu ++ wSy cI cZ cJ sp_a sp ++ wBr cI cZ cJ w_a w_b w ++ wBr cI cZ cJ v_a v_b v ++ wWr cI cZ cJ wr_a (cb_a 0) wr ++ wRd cI cZ cJ rd_a (cb_a 0) rd ++ wCb cI cZ cJ cb_a w_a v_a cb ++ wOu cI cZ cJ ou_a ou)) (w1 := (wMo cI cZ cJ mo_a mo')) hP hD pm9 ht hk1 hFc hB
    generalize H1 = H at hP hS ⊢
    have pm9 : ((wSd cI cZ cJ sd_a w_a v_a (wr_a 0) (rd_a 0) (cu_a 0) (sp_a 0) sd ++ wSy cI cZ cJ cu_a cu ++ wSy cI cZ cJ sp_a sp ++ wBr cI cZ cJ w_a w_b w ++ wBr cI cZ cJ v_a v_b v ++ wWr cI cZ cJ wr_a (cb_a 0) wr ++ wRd cI cZ cJ rd_a (cb_a 0) rd ++ wCb cI cZ cJ cb_a w_a v_a cb ++ wOu cI cZ cJ ou_a ou) ++ (wMo cI cZ cJ mo_a mo') : va_W).Perm (wSd cI cZ cJ sd_a w_a v_a (wr_a 0) (rd_a 0) (cu_a 0) (sp_a 0) sd ++ wSy cI cZ cJ cu_a cu ++ wSy cI cZ cJ sp_a sp ++ wBr cI cZ cJ w_a w_b w ++ wBr cI cZ cJ v_a v_b v ++ wWr cI cZ cJ wr_a (cb_a 0) wr ++ wRd cI cZ cJ rd_a (cb_a 0) rd ++ wCb cI cZ cJ cb_a w_a v_a cb ++ wMo cI cZ cJ mo_a mo' ++ wOu cI cZ cJ ou_a ou) := pm_3 _ _ _ _ _ _ _ _ _ _
    have hP : va_P (dC, dI) vwCl (wSd cI cZ cJ sd_a w_a v_a (wr_a 0) (rd_a 0) (cu_a 0) (sp_a 0) sd ++ wSy cI cZ cJ cu_a cu ++ wSy cI cZ cJ sp_a sp ++ wBr cI cZ cJ w_a w_b w ++ wBr cI cZ cJ v_a v_b v ++ wWr cI cZ cJ wr_a (cb_a 0) wr ++ wRd cI cZ cJ rd_a (cb_a 0) rd ++ wCb cI cZ cJ cb_a w_a v_a cb ++ wMo cI cZ cJ mo_a mo' ++ wOu cI cZ cJ ou_a ou) H := pw_P hP (fun q hq => pm9.mem_iff.mpr hq)
    have hD : va_D A (wSd cI cZ cJ sd_a w_a v_a (wr_a 0) (rd_a 0) (cu_a 0) (sp_a 0) sd ++ wSy cI cZ cJ cu_a cu ++ wSy cI cZ cJ sp_a sp ++ wBr cI cZ cJ w_a w_b w ++ wBr cI cZ cJ v_a v_b v ++ wWr cI cZ cJ wr_a (cb_a 0) wr ++ wRd cI cZ cJ rd_a (cb_a 0) rd ++ wCb cI cZ cJ cb_a w_a v_a cb ++ wMo cI cZ cJ mo_a mo' ++ wOu cI cZ cJ ou_a ou) := pw_Dp hD pm9
    refine lv_iload hx hb d_law_547 (lv_at hl 1 rfl) ?_
    refine lv_icmp_eq (tgt := 554) hx hb d_law_549 (by decide) (fun _ => ?_) (fun h9 => absurd hcode h9)
    refine lv_iload hx hb d_law_554 (lv_at hl 1 rfl) ?_
    refine lv_if_ne (tgt := 571) hx hb d_law_556 (by decide) (fun _ => ?_) (fun h9 => absurd h9 (by decide))
    refine lv_goto (tgt := 1131) hx hb d_law_571 (by decide) ?_
    have hl := lv_sub (l' := [(0, .ref b), (1, .ref (sd_a 0)), (2, .ref (mo_a 0)), (3, .ref (ou_a 0)), (4, .int i)]) hl [2, 3, 4, 5, 6] rfl
    refine W.widen (k := j + 1 + Br_byL w + Br_byL v) (n := 6 * (j + 1) + 2 * Br_byL w + 2 * Br_byL v) (by omega) (by omega) ?_
    exact hk _ _ _ cu_a sp_a w_b v_b cu sp w v wr rd cb mo' ou hrel hP hD hS hl
set_option maxHeartbeats 8000000 in
set_option maxRecDepth 100000 in
theorem L_C_export {p : Program} {l : Launch} {e : Env} {R : Room} {s : State} {m : MethodId} {args : Array Value} {below : List Frame} {meth : Method} {c : Code} {Q : State → Prop} {A : Nat → Prop} {dC : Nat → ClassId} {dI : Nat → Nat → Nat} {cI cZ cJ : ClassId} {sd_a cu_a sp_a : Nat → Nat} {w_a w_b v_a v_b : Nat} {wr_a rd_a cb_a mo_a ou_a : Nat → Nat} {sd : Sd} {cu sp : Sy} {w v : Br} {wr : Wr} {rd : Rd} {cb : Cb} {mo : Mo} {ou : Ou} {b L : Nat} {xs : Nat → Int32} {i : Int32} {j : Nat} {Rl : Sd → Sy → Sy → Br → Br → Wr → Rd → Cb → Mo → Prop} (hl9 : l.stackTraces = false) (C0 : lcx p c m s args R (dC, dI) (TYS cI cZ cJ) A b L xs i j) (hRb : ∀ sd cu sp w v wr rd cb mo, Rl sd cu sp w v wr rd cb mo → Br_byL w ≤ 40000 ∧ Br_byL v ≤ 40000) (hR0 : Rl sd cu sp w v wr rd cb mo) (hT0 : T_C_export Rl sd cu sp w v wr rd cb mo (xs (i + 1).toNatClampNeg) (zb (xs (i + 2).toNatClampNeg)))
    (hk : ∀ (H : Heap) (locs : List Loc) (ls : Array Slot) (cu_a sp_a : Nat → Nat) (w_b v_b : Nat) (cu sp : Sy) (w v : Br) (wr : Wr) (rd : Rd) (cb : Cb) (mo : Mo) (ou : Ou), Rl sd cu sp w v wr rd cb mo → va_P (dC, dI) vwCl (wSd cI cZ cJ sd_a w_a v_a (wr_a 0) (rd_a 0) (cu_a 0) (sp_a 0) sd ++ wSy cI cZ cJ cu_a cu ++ wSy cI cZ cJ sp_a sp ++ wBr cI cZ cJ w_a w_b w ++ wBr cI cZ cJ v_a v_b v ++ wWr cI cZ cJ wr_a (cb_a 0) wr ++ wRd cI cZ cJ rd_a (cb_a 0) rd ++ wCb cI cZ cJ cb_a w_a v_a cb ++ wMo cI cZ cJ mo_a mo ++ wOu cI cZ cJ ou_a ou) H → va_D A (wSd cI cZ cJ sd_a w_a v_a (wr_a 0) (rd_a 0) (cu_a 0) (sp_a 0) sd ++ wSy cI cZ cJ cu_a cu ++ wSy cI cZ cJ sp_a sp ++ wBr cI cZ cJ w_a w_b w ++ wBr cI cZ cJ v_a v_b v ++ wWr cI cZ cJ wr_a (cb_a 0) wr ++ wRd cI cZ cJ rd_a (cb_a 0) rd ++ wCb cI cZ cJ cb_a w_a v_a cb ++ wMo cI cZ cJ mo_a mo ++ wOu cI cZ cJ ou_a ou) → va_S A s.heap H locs → lv_has ls 7 [(0, .ref b), (1, .ref (sd_a 0)), (2, .ref (mo_a 0)), (3, .ref (ou_a 0)), (4, .int i)] → W p l e R s m args below meth c H locs (j + 1 + Br_byL w + Br_byL v) (6 * (j + 1) + 2 * Br_byL w + 2 * Br_byL v) Q (F0 m 1131 ls []))
    {H : Heap} {locs : List Loc} {ls : Array Slot} (hP : va_P (dC, dI) vwCl (wSd cI cZ cJ sd_a w_a v_a (wr_a 0) (rd_a 0) (cu_a 0) (sp_a 0) sd ++ wSy cI cZ cJ cu_a cu ++ wSy cI cZ cJ sp_a sp ++ wBr cI cZ cJ w_a w_b w ++ wBr cI cZ cJ v_a v_b v ++ wWr cI cZ cJ wr_a (cb_a 0) wr ++ wRd cI cZ cJ rd_a (cb_a 0) rd ++ wCb cI cZ cJ cb_a w_a v_a cb ++ wMo cI cZ cJ mo_a mo ++ wOu cI cZ cJ ou_a ou) H) (hD : va_D A (wSd cI cZ cJ sd_a w_a v_a (wr_a 0) (rd_a 0) (cu_a 0) (sp_a 0) sd ++ wSy cI cZ cJ cu_a cu ++ wSy cI cZ cJ sp_a sp ++ wBr cI cZ cJ w_a w_b w ++ wBr cI cZ cJ v_a v_b v ++ wWr cI cZ cJ wr_a (cb_a 0) wr ++ wRd cI cZ cJ rd_a (cb_a 0) rd ++ wCb cI cZ cJ cb_a w_a v_a cb ++ wMo cI cZ cJ mo_a mo ++ wOu cI cZ cJ ou_a ou)) (hS : va_S A s.heap H locs) (hl : lv_has ls 7 [(0, .ref b), (1, .ref (sd_a 0)), (2, .ref (mo_a 0)), (3, .ref (ou_a 0)), (4, .int i)]) : W p l e R s m args below meth c H locs (j + Br_byL w + Br_byL v) (6 * j + 2 * Br_byL w + 2 * Br_byL v) Q (F0 m 574 ls []) := by
  obtain ⟨hx, hb, hml, hown, hts, hK, hA, hA2, hRf, hRl, hN, hT, hX, hX0, hbl, hin, hj, hRc, hRs⟩ := C0
  have hbA : ¬ A b := fun h => absurd (hA2 b h) (Nat.not_le.mpr hbl)
  obtain ⟨hw0, hv0⟩ := hRb _ _ _ _ _ _ _ _ _ hR0
  unfold T_C_export at hT0
  rcases hT0 with ⟨r, cu', mo', hf, hg, hcode, hrel⟩ | ⟨hf, q, mo', hg, hcode, hrel⟩
  · obtain ⟨ou', heou⟩ : ∃ z : Ou, z = (vp_updL (Ou_f ou) 0 (zl r)) := ⟨_, rfl⟩
    have hf1 : f_Law_export sd cu ou (xs (i + 1).toNatClampNeg) (zb (xs (i + 2).toNatClampNeg)) = some (0, cu', ou') := by
      rw [f_Law_export, hf, bd_s, heou]
      by_cases h9 : r = 0
      · rw [zl, if_pos h9]; first | exact Eq.trans (if_pos h9) rfl | (rw [if_pos h9]; rfl)
      · rw [zl, if_neg h9]; first | exact Eq.trans (if_neg h9) rfl | (rw [if_neg h9]; rfl)
    have hou : Ou_f ou' (0 : Int32).toNatClampNeg = (zl r) := by rw [heou]; exact updL_at _ _ _
    refine lv_aload_n hx hb d_law_574 rfl (lv_at hl 1 rfl) ?_
    refine lv_aload_n hx hb d_law_575 rfl (lv_at hl 0 rfl) ?_
    refine lv_iload hx hb d_law_576 (lv_at hl 4 rfl) ?_
    refine lv_iconst (v := 1) hx hb d_law_578 (by decide) ?_
    refine lv_iadd hx hb d_law_579 ?_
    refine va_sld hx hb hX0 hbl hbA hS (hin 1 (by decide) (by decide)) d_law_580 ?_
    refine lv_aload_n hx hb d_law_581 rfl (lv_at hl 0 rfl) ?_
    refine lv_iload hx hb d_law_582 (lv_at hl 4 rfl) ?_
    refine lv_iconst (v := 2) hx hb d_law_584 (by decide) ?_
    refine lv_iadd hx hb d_law_585 ?_
    refine va_sld hx hb hX0 hbl hbA hS (hin 2 (by decide) (by decide)) d_law_586 ?_
    refine lw_zb hx hb d_law_587 d_law_590 d_law_591 d_law_594 ?_
    refine lv_aload_n hx hb d_law_595 rfl (lv_at hl 3 rfl) ?_
    have pm9 : ((wSd cI cZ cJ sd_a w_a v_a (wr_a 0) (rd_a 0) (cu_a 0) (sp_a 0) sd ++ wSy cI cZ cJ cu_a cu ++ wSy cI cZ cJ sp_a sp ++ wBr cI cZ cJ w_a w_b w ++ wBr cI cZ cJ v_a v_b v ++ wWr cI cZ cJ wr_a (cb_a 0) wr ++ wRd cI cZ cJ rd_a (cb_a 0) rd ++ wCb cI cZ cJ cb_a w_a v_a cb ++ wMo cI cZ cJ mo_a mo ++ wOu cI cZ cJ ou_a ou) : va_W).Perm ((wSd cI cZ cJ sd_a w_a v_a (wr_a 0) (rd_a 0) (cu_a 0) (sp_a 0) sd ++ wSy cI cZ cJ cu_a cu ++ wOu cI cZ cJ ou_a ou) ++ (wSy cI cZ cJ sp_a sp ++ wBr cI cZ cJ w_a w_b w ++ wBr cI cZ cJ v_a v_b v ++ wWr cI cZ cJ wr_a (cb_a 0) wr ++ wRd cI cZ cJ rd_a (cb_a 0) rd ++ wCb cI cZ cJ cb_a w_a v_a cb ++ wMo cI cZ cJ mo_a mo)) := pm_0 _ _ _ _ _ _ _ _ _ _
    have hPc := pw_P (ws' := (wSd cI cZ cJ sd_a w_a v_a (wr_a 0) (rd_a 0) (cu_a 0) (sp_a 0) sd ++ wSy cI cZ cJ cu_a cu ++ wOu cI cZ cJ ou_a ou)) hP (fun q hq => pm9.mem_iff.mpr (List.mem_append_left _ hq))
    have hDc := pw_D (wc := (wSd cI cZ cJ sd_a w_a v_a (wr_a 0) (rd_a 0) (cu_a 0) (sp_a 0) sd ++ wSy cI cZ cJ cu_a cu ++ wOu cI cZ cJ ou_a ou)) hD pm9
    have hFc := pw_free (wc := (wSd cI cZ cJ sd_a w_a v_a (wr_a 0) (rd_a 0) (cu_a 0) (sp_a 0) sd ++ wSy cI cZ cJ cu_a cu ++ wOu cI cZ cJ ou_a ou)) hD hS hA (fun q hq => pm9.mem_iff.mpr (List.mem_append_left _ hq))
    refine va_calli (w_runS (As := [.ref (sd_a 0), .int (xs (i + 1).toNatClampNeg), .int (zb (xs (i + 2).toNatClampNeg)), .ref (ou_a 0)]) (rest := []) ⟨hx, hb, hml, hown, hts⟩ (k_Law_export l dC dI cI cZ cJ sd_a cu_a ou_a w_a v_a (wr_a 0) (rd_a 0) (sp_a 0) H.size hf1) (cwH_of 4 hts t_734 rfl rfl t_53 t_732 t_733 hd_Law_export.2 ⟨Nat.le_trans (Nat.le_of_ble_eq_true rfl) hRf, Nat.le_trans (Nat.le_of_ble_eq_true rfl) hRl⟩) ⟨kP_blind, kP_at hPc hK hDc hN⟩ rfl rfl hl.1 rfl (lv_room (Nat.le_of_ble_eq_true rfl)) d_law_596 ⟨by omega, by omega⟩) hS (fun q _ h => hFc q h) hFc (fun r9 u t H1 locs ht hvm hw hB hz1 hk1 hS => ?_)
    rw [hw]
    obtain ⟨hP, hD⟩ := pw_join (wr := (wSy cI cZ cJ sp_a sp ++ wBr cI cZ cJ w_a w_b w ++ wBr cI cZ cJ v_a v_b v ++ wWr cI cZ cJ wr_a (cb_a 0) wr ++ wRd cI cZ cJ rd_a (cb_a 0) rd ++ wCb cI cZ cJ cb_a w_a v_a cb ++ wMo cI cZ cJ mo_a mo)) (w1 := (wSd cI cZ cJ sd_a w_a v_a (wr_a 0) (rd_a 0) (cu_a 0) (sp_a 0) sd ++ wSy cI cZ cJ cu_a cu' ++ wOu cI cZ cJ ou_a ou')) hP hD pm9 ht hk1 hFc hB
    generalize H1 = H at hP hS ⊢
    have pm9 : ((wSy cI cZ cJ sp_a sp ++ wBr cI cZ cJ w_a w_b w ++ wBr cI cZ cJ v_a v_b v ++ wWr cI cZ cJ wr_a (cb_a 0) wr ++ wRd cI cZ cJ rd_a (cb_a 0) rd ++ wCb cI cZ cJ cb_a w_a v_a cb ++ wMo cI cZ cJ mo_a mo) ++ (wSd cI cZ cJ sd_a w_a v_a (wr_a 0) (rd_a 0) (cu_a 0) (sp_a 0) sd ++ wSy cI cZ cJ cu_a cu' ++ wOu cI cZ cJ ou_a ou') : va_W).Perm (wSd cI cZ cJ sd_a w_a v_a (wr_a 0) (rd_a 0) (cu_a 0) (sp_a 0) sd ++ wSy cI cZ cJ cu_a cu' ++ wSy cI cZ cJ sp_a sp ++ wBr cI cZ cJ w_a w_b w ++ wBr cI cZ cJ v_a v_b v ++ wWr cI cZ cJ wr_a (cb_a 0) wr ++ wRd cI cZ cJ rd_a (cb_a 0) rd ++ wCb cI cZ cJ cb_a w_a v_a cb ++ wMo cI cZ cJ mo_a mo ++ wOu cI cZ cJ ou_a ou') := pm_1 _ _ _ _ _ _ _ _ _ _
    have hP : va_P (dC, dI) vwCl (wSd cI cZ cJ sd_a w_a v_a (wr_a 0) (rd_a 0) (cu_a 0) (sp_a 0) sd ++ wSy cI cZ cJ cu_a cu' ++ wSy cI cZ cJ sp_a sp ++ wBr cI cZ cJ w_a w_b w ++ wBr cI cZ cJ v_a v_b v ++ wWr cI cZ cJ wr_a (cb_a 0) wr ++ wRd cI cZ cJ rd_a (cb_a 0) rd ++ wCb cI cZ cJ cb_a w_a v_a cb ++ wMo cI cZ cJ mo_a mo ++ wOu cI cZ cJ ou_a ou') H := pw_P hP (fun q hq => pm9.mem_iff.mpr hq)
    have hD : va_D A (wSd cI cZ cJ sd_a w_a v_a (wr_a 0) (rd_a 0) (cu_a 0) (sp_a 0) sd ++ wSy cI cZ cJ cu_a cu' ++ wSy cI cZ cJ sp_a sp ++ wBr cI cZ cJ w_a w_b w ++ wBr cI cZ cJ v_a v_b v ++ wWr cI cZ cJ wr_a (cb_a 0) wr ++ wRd cI cZ cJ rd_a (cb_a 0) rd ++ wCb cI cZ cJ cb_a w_a v_a cb ++ wMo cI cZ cJ mo_a mo ++ wOu cI cZ cJ ou_a ou') := pw_Dp hD pm9
    refine lv_istore (lv' := [(5, .int 0), (0, .ref b), (1, .ref (sd_a 0)), (2, .ref (mo_a 0)), (3, .ref (ou_a 0)), (4, .int i)]) hx hb d_law_599 hl (by decide) rfl (fun ls hl => ?_)
    refine lv_aload_n hx hb d_law_601 rfl (lv_at hl 3 rfl) ?_
    refine lv_aload_n hx hb d_law_602 rfl (lv_at hl 1 rfl) ?_
    refine lv_iload hx hb d_law_603 (lv_at hl 5 rfl) ?_
    refine lv_iconst (v := 1) hx hb d_law_605 (by decide) ?_
    refine lv_iadd hx hb d_law_606 ?_
    refine va_sld hx hb hX0 hbl hbA hS (hin 1 (by decide) (by decide)) d_law_607 ?_
    refine lv_aload_n hx hb d_law_608 rfl (lv_at hl 1 rfl) ?_
    refine lv_iload hx hb d_law_609 (lv_at hl 5 rfl) ?_
    refine lv_iconst (v := 2) hx hb d_law_611 (by decide) ?_
    refine lv_iadd hx hb d_law_612 ?_
    refine va_sld hx hb hX0 hbl hbA hS (hin 2 (by decide) (by decide)) d_law_613 ?_
    refine lw_zb hx hb d_law_614 d_law_617 d_law_618 d_law_621 ?_
    have pm9 : ((wSd cI cZ cJ sd_a w_a v_a (wr_a 0) (rd_a 0) (cu_a 0) (sp_a 0) sd ++ wSy cI cZ cJ cu_a cu' ++ wSy cI cZ cJ sp_a sp ++ wBr cI cZ cJ w_a w_b w ++ wBr cI cZ cJ v_a v_b v ++ wWr cI cZ cJ wr_a (cb_a 0) wr ++ wRd cI cZ cJ rd_a (cb_a 0) rd ++ wCb cI cZ cJ cb_a w_a v_a cb ++ wMo cI cZ cJ mo_a mo ++ wOu cI cZ cJ ou_a ou') : va_W).Perm ((wMo cI cZ cJ mo_a mo) ++ (wSd cI cZ cJ sd_a w_a v_a (wr_a 0) (rd_a 0) (cu_a 0) (sp_a 0) sd ++ wSy cI cZ cJ cu_a cu' ++ wSy cI cZ cJ sp_a sp ++ wBr cI cZ cJ w_a w_b w ++ wBr cI cZ cJ v_a v_b v ++ wWr cI cZ cJ wr_a (cb_a 0) wr ++ wRd cI cZ cJ rd_a (cb_a 0) rd ++ wCb cI cZ cJ cb_a w_a v_a cb ++ wOu cI cZ cJ ou_a ou')) := pm_2 _ _ _ _ _ _ _ _ _ _
    have hPc := pw_P (ws' := (wMo cI cZ cJ mo_a mo)) hP (fun q hq => pm9.mem_iff.mpr (List.mem_append_left _ hq))
    have hDc := pw_D (wc := (wMo cI cZ cJ mo_a mo)) hD pm9
    have hFc := pw_free (wc := (wMo cI cZ cJ mo_a mo)) hD hS hA (fun q hq => pm9.mem_iff.mpr (List.mem_append_left _ hq))
    refine va_calli (va_runV (As := [.int (xs (i + 1).toNatClampNeg), .int (zb (xs (i + 2).toNatClampNeg))]) (rest := []) ⟨hx, hb, hml, hown, hts⟩ (k_Model_export l dC dI cI cZ cJ mo_a H.size hg) (cwV 2 hts (gV t_956 t_957 t_958 t_63 t_959) rfl rfl rfl hd_Model_export ⟨Nat.le_trans (Nat.le_of_ble_eq_true rfl) hRf, Nat.le_trans (Nat.le_of_ble_eq_true rfl) hRl⟩) ⟨kP_blind, va_recv hK hPc (ci := 7) (q0 := 0) rfl rfl, kP_at hPc hK hDc hN⟩ rfl rfl hl.1 rfl (lv_room (Nat.le_of_ble_eq_true rfl)) d_law_622 ⟨by omega, by omega⟩) hS (fun q _ h => hFc q h) hFc (fun r9 u t H1 locs ht hvm hw hB hz1 hk1 hS => ?_)
    rw [hw.1]
    obtain ⟨hP, hD⟩ := pw_join (wr := (wSd cI cZ cJ sd_a w_a v_a (wr_a 0) (rd_a 0) (cu_a 0) (sp_a 0) sd ++ wSy cI cZ cJ cu_a cu' ++ wSy cI cZ cJ sp_a sp ++ wBr cI cZ cJ w_a w_b w ++ wBr cI cZ cJ v_a v_b v ++ wWr cI cZ cJ wr_a (cb_a 0) wr ++ wRd cI cZ cJ rd_a (cb_a 0) rd ++ wCb cI cZ cJ cb_a w_a v_a cb ++ wOu cI cZ cJ ou_a ou')) (w1 := (wMo cI cZ cJ mo_a mo')) hP hD pm9 ht hk1 hFc hB
    generalize H1 = H at hP hS ⊢
    have pm9 : ((wSd cI cZ cJ sd_a w_a v_a (wr_a 0) (rd_a 0) (cu_a 0) (sp_a 0) sd ++ wSy cI cZ cJ cu_a cu' ++ wSy cI cZ cJ sp_a sp ++ wBr cI cZ cJ w_a w_b w ++ wBr cI cZ cJ v_a v_b v ++ wWr cI cZ cJ wr_a (cb_a 0) wr ++ wRd cI cZ cJ rd_a (cb_a 0) rd ++ wCb cI cZ cJ cb_a w_a v_a cb ++ wOu cI cZ cJ ou_a ou') ++ (wMo cI cZ cJ mo_a mo') : va_W).Perm (wSd cI cZ cJ sd_a w_a v_a (wr_a 0) (rd_a 0) (cu_a 0) (sp_a 0) sd ++ wSy cI cZ cJ cu_a cu' ++ wSy cI cZ cJ sp_a sp ++ wBr cI cZ cJ w_a w_b w ++ wBr cI cZ cJ v_a v_b v ++ wWr cI cZ cJ wr_a (cb_a 0) wr ++ wRd cI cZ cJ rd_a (cb_a 0) rd ++ wCb cI cZ cJ cb_a w_a v_a cb ++ wMo cI cZ cJ mo_a mo' ++ wOu cI cZ cJ ou_a ou') := pm_3 _ _ _ _ _ _ _ _ _ _
    have hP : va_P (dC, dI) vwCl (wSd cI cZ cJ sd_a w_a v_a (wr_a 0) (rd_a 0) (cu_a 0) (sp_a 0) sd ++ wSy cI cZ cJ cu_a cu' ++ wSy cI cZ cJ sp_a sp ++ wBr cI cZ cJ w_a w_b w ++ wBr cI cZ cJ v_a v_b v ++ wWr cI cZ cJ wr_a (cb_a 0) wr ++ wRd cI cZ cJ rd_a (cb_a 0) rd ++ wCb cI cZ cJ cb_a w_a v_a cb ++ wMo cI cZ cJ mo_a mo' ++ wOu cI cZ cJ ou_a ou') H := pw_P hP (fun q hq => pm9.mem_iff.mpr hq)
    have hD : va_D A (wSd cI cZ cJ sd_a w_a v_a (wr_a 0) (rd_a 0) (cu_a 0) (sp_a 0) sd ++ wSy cI cZ cJ cu_a cu' ++ wSy cI cZ cJ sp_a sp ++ wBr cI cZ cJ w_a w_b w ++ wBr cI cZ cJ v_a v_b v ++ wWr cI cZ cJ wr_a (cb_a 0) wr ++ wRd cI cZ cJ rd_a (cb_a 0) rd ++ wCb cI cZ cJ cb_a w_a v_a cb ++ wMo cI cZ cJ mo_a mo' ++ wOu cI cZ cJ ou_a ou') := pw_Dp hD pm9
    refine lv_istore (lv' := [(6, .int r), (5, .int 0), (0, .ref b), (1, .ref (sd_a 0)), (2, .ref (mo_a 0)), (3, .ref (ou_a 0)), (4, .int i)]) hx hb d_law_625 hl (by decide) rfl (fun ls hl => ?_)
    refine lv_aload_n hx hb d_law_627 rfl (lv_at hl 4 rfl) ?_
    have hth : f_Model_thrown mo' = some (Mo_code mo') := rfl
    have pm9 : ((wSd cI cZ cJ sd_a w_a v_a (wr_a 0) (rd_a 0) (cu_a 0) (sp_a 0) sd ++ wSy cI cZ cJ cu_a cu' ++ wSy cI cZ cJ sp_a sp ++ wBr cI cZ cJ w_a w_b w ++ wBr cI cZ cJ v_a v_b v ++ wWr cI cZ cJ wr_a (cb_a 0) wr ++ wRd cI cZ cJ rd_a (cb_a 0) rd ++ wCb cI cZ cJ cb_a w_a v_a cb ++ wMo cI cZ cJ mo_a mo' ++ wOu cI cZ cJ ou_a ou') : va_W).Perm ((wMo cI cZ cJ mo_a mo') ++ (wSd cI cZ cJ sd_a w_a v_a (wr_a 0) (rd_a 0) (cu_a 0) (sp_a 0) sd ++ wSy cI cZ cJ cu_a cu' ++ wSy cI cZ cJ sp_a sp ++ wBr cI cZ cJ w_a w_b w ++ wBr cI cZ cJ v_a v_b v ++ wWr cI cZ cJ wr_a (cb_a 0) wr ++ wRd cI cZ cJ rd_a (cb_a 0) rd ++ wCb cI cZ cJ cb_a w_a v_a cb ++ wOu cI cZ cJ ou_a ou')) := pm_2 _ _ _ _ _ _ _ _ _ _
    have hPc := pw_P (ws' := (wMo cI cZ cJ mo_a mo')) hP (fun q hq => pm9.mem_iff.mpr (List.mem_append_left _ hq))
    have hDc := pw_D (wc := (wMo cI cZ cJ mo_a mo')) hD pm9
    have hFc := pw_free (wc := (wMo cI cZ cJ mo_a mo')) hD hS hA (fun q hq => pm9.mem_iff.mpr (List.mem_append_left _ hq))
    refine va_calli (va_runV (As := []) (rest := []) ⟨hx, hb, hml, hown, hts⟩ (k_Model_thrown l dC dI cI cZ cJ mo_a H.size hth) (cwV 0 hts (gV t_906 t_907 t_908 t_63 t_909) rfl rfl rfl hd_Model_thrown ⟨Nat.le_trans (Nat.le_of_ble_eq_true rfl) hRf, Nat.le_trans (Nat.le_of_ble_eq_true rfl) hRl⟩) ⟨kP_blind, va_recv hK hPc (ci := 7) (q0 := 0) rfl rfl, kP_at hPc hK hDc hN⟩ rfl rfl hl.1 rfl (lv_room (Nat.le_of_ble_eq_true rfl)) d_law_628 ⟨by omega, by omega⟩) hS (fun q _ h => hFc q h) hFc (fun r9 u t H1 locs ht hvm hw hB hz1 hk1 hS => ?_)
    rw [hw]
    obtain ⟨hP, hD⟩ := pw_join (wr := (wSd cI cZ cJ sd_a w_a v_a (wr_a 0) (rd_a 0) (cu_a 0) (sp_a 0) sd ++ wSy cI cZ cJ cu_a cu' ++ wSy cI cZ cJ sp_a sp ++ wBr cI cZ cJ w_a w_b w ++ wBr cI cZ cJ v_a v_b v ++ wWr cI cZ cJ wr_a (cb_a 0) wr ++ wRd cI cZ cJ rd_a (cb_a 0) rd ++ wCb cI cZ cJ cb_a w_a v_a cb ++ wOu cI cZ cJ ou_a ou')) (w1 := (wMo cI cZ cJ mo_a mo')) hP hD pm9 ht hk1 hFc hB
    generalize H1 = H at hP hS ⊢
    have pm9 : ((wSd cI cZ cJ sd_a w_a v_a (wr_a 0) (rd_a 0) (cu_a 0) (sp_a 0) sd ++ wSy cI cZ cJ cu_a cu' ++ wSy cI cZ cJ sp_a sp ++ wBr cI cZ cJ w_a w_b w ++ wBr cI cZ cJ v_a v_b v ++ wWr cI cZ cJ wr_a (cb_a 0) wr ++ wRd cI cZ cJ rd_a (cb_a 0) rd ++ wCb cI cZ cJ cb_a w_a v_a cb ++ wOu cI cZ cJ ou_a ou') ++ (wMo cI cZ cJ mo_a mo') : va_W).Perm (wSd cI cZ cJ sd_a w_a v_a (wr_a 0) (rd_a 0) (cu_a 0) (sp_a 0) sd ++ wSy cI cZ cJ cu_a cu' ++ wSy cI cZ cJ sp_a sp ++ wBr cI cZ cJ w_a w_b w ++ wBr cI cZ cJ v_a v_b v ++ wWr cI cZ cJ wr_a (cb_a 0) wr ++ wRd cI cZ cJ rd_a (cb_a 0) rd ++ wCb cI cZ cJ cb_a w_a v_a cb ++ wMo cI cZ cJ mo_a mo' ++ wOu cI cZ cJ ou_a ou') := pm_3 _ _ _ _ _ _ _ _ _ _
    have hP : va_P (dC, dI) vwCl (wSd cI cZ cJ sd_a w_a v_a (wr_a 0) (rd_a 0) (cu_a 0) (sp_a 0) sd ++ wSy cI cZ cJ cu_a cu' ++ wSy cI cZ cJ sp_a sp ++ wBr cI cZ cJ w_a w_b w ++ wBr cI cZ cJ v_a v_b v ++ wWr cI cZ cJ wr_a (cb_a 0) wr ++ wRd cI cZ cJ rd_a (cb_a 0) rd ++ wCb cI cZ cJ cb_a w_a v_a cb ++ wMo cI cZ cJ mo_a mo' ++ wOu cI cZ cJ ou_a ou') H := pw_P hP (fun q hq => pm9.mem_iff.mpr hq)
    have hD : va_D A (wSd cI cZ cJ sd_a w_a v_a (wr_a 0) (rd_a 0) (cu_a 0) (sp_a 0) sd ++ wSy cI cZ cJ cu_a cu' ++ wSy cI cZ cJ sp_a sp ++ wBr cI cZ cJ w_a w_b w ++ wBr cI cZ cJ v_a v_b v ++ wWr cI cZ cJ wr_a (cb_a 0) wr ++ wRd cI cZ cJ rd_a (cb_a 0) rd ++ wCb cI cZ cJ cb_a w_a v_a cb ++ wMo cI cZ cJ mo_a mo' ++ wOu cI cZ cJ ou_a ou') := pw_Dp hD pm9
    refine lv_iload hx hb d_law_631 (lv_at hl 1 rfl) ?_
    refine lv_icmp_eq (tgt := 638) hx hb d_law_633 (by decide) (fun _ => ?_) (fun h9 => absurd hcode h9)
    refine lv_iload hx hb d_law_638 (lv_at hl 1 rfl) ?_
    refine lv_if_ne (tgt := 662) hx hb d_law_640 (by decide) (fun h9 => absurd rfl h9) (fun _ => ?_)
    refine lv_aload_n hx hb d_law_643 rfl (lv_at hl 5 rfl) ?_
    refine lv_iconst (v := 0) hx hb d_law_644 (by decide) ?_
    refine va_lald (f := Ou_f ou') hx hb hK hP 47 2 rfl rfl (inb_in (by decide)) d_law_645 ?_
    refine lv_iload hx hb d_law_646 (lv_at hl 0 rfl) ?_
    refine lw_zl hx hb d_law_648 d_law_651 d_law_652 d_law_655 ?_
    refine W.lcmp hx hb d_law_656 ?_
    refine lv_if_eq (tgt := 662) hx hb d_law_657 (by decide) (fun _ => ?_) (fun h9 => absurd (by rw [hou]; exact cmp_self _) h9)
    refine lv_goto (tgt := 1131) hx hb d_law_662 (by decide) ?_
    have hl := lv_sub (l' := [(0, .ref b), (1, .ref (sd_a 0)), (2, .ref (mo_a 0)), (3, .ref (ou_a 0)), (4, .int i)]) hl [2, 3, 4, 5, 6] rfl
    refine W.widen (k := j + 1 + Br_byL w + Br_byL v) (n := 6 * (j + 1) + 2 * Br_byL w + 2 * Br_byL v) (by omega) (by omega) ?_
    exact hk _ _ _ cu_a sp_a w_b v_b cu' sp w v wr rd cb mo' ou' hrel hP hD hS hl
  · refine lv_aload_n hx hb d_law_574 rfl (lv_at hl 1 rfl) ?_
    refine lv_aload_n hx hb d_law_575 rfl (lv_at hl 0 rfl) ?_
    refine lv_iload hx hb d_law_576 (lv_at hl 4 rfl) ?_
    refine lv_iconst (v := 1) hx hb d_law_578 (by decide) ?_
    refine lv_iadd hx hb d_law_579 ?_
    refine va_sld hx hb hX0 hbl hbA hS (hin 1 (by decide) (by decide)) d_law_580 ?_
    refine lv_aload_n hx hb d_law_581 rfl (lv_at hl 0 rfl) ?_
    refine lv_iload hx hb d_law_582 (lv_at hl 4 rfl) ?_
    refine lv_iconst (v := 2) hx hb d_law_584 (by decide) ?_
    refine lv_iadd hx hb d_law_585 ?_
    refine va_sld hx hb hX0 hbl hbA hS (hin 2 (by decide) (by decide)) d_law_586 ?_
    refine lw_zb hx hb d_law_587 d_law_590 d_law_591 d_law_594 ?_
    refine lv_aload_n hx hb d_law_595 rfl (lv_at hl 3 rfl) ?_
    have pm9 : ((wSd cI cZ cJ sd_a w_a v_a (wr_a 0) (rd_a 0) (cu_a 0) (sp_a 0) sd ++ wSy cI cZ cJ cu_a cu ++ wSy cI cZ cJ sp_a sp ++ wBr cI cZ cJ w_a w_b w ++ wBr cI cZ cJ v_a v_b v ++ wWr cI cZ cJ wr_a (cb_a 0) wr ++ wRd cI cZ cJ rd_a (cb_a 0) rd ++ wCb cI cZ cJ cb_a w_a v_a cb ++ wMo cI cZ cJ mo_a mo ++ wOu cI cZ cJ ou_a ou) : va_W).Perm ((wSd cI cZ cJ sd_a w_a v_a (wr_a 0) (rd_a 0) (cu_a 0) (sp_a 0) sd ++ wSy cI cZ cJ cu_a cu ++ wOu cI cZ cJ ou_a ou) ++ (wSy cI cZ cJ sp_a sp ++ wBr cI cZ cJ w_a w_b w ++ wBr cI cZ cJ v_a v_b v ++ wWr cI cZ cJ wr_a (cb_a 0) wr ++ wRd cI cZ cJ rd_a (cb_a 0) rd ++ wCb cI cZ cJ cb_a w_a v_a cb ++ wMo cI cZ cJ mo_a mo)) := pm_0 _ _ _ _ _ _ _ _ _ _
    have hPc := pw_P (ws' := (wSd cI cZ cJ sd_a w_a v_a (wr_a 0) (rd_a 0) (cu_a 0) (sp_a 0) sd ++ wSy cI cZ cJ cu_a cu ++ wOu cI cZ cJ ou_a ou)) hP (fun q hq => pm9.mem_iff.mpr (List.mem_append_left _ hq))
    have hDc := pw_D (wc := (wSd cI cZ cJ sd_a w_a v_a (wr_a 0) (rd_a 0) (cu_a 0) (sp_a 0) sd ++ wSy cI cZ cJ cu_a cu ++ wOu cI cZ cJ ou_a ou)) hD pm9
    have hFc := pw_free (wc := (wSd cI cZ cJ sd_a w_a v_a (wr_a 0) (rd_a 0) (cu_a 0) (sp_a 0) sd ++ wSy cI cZ cJ cu_a cu ++ wOu cI cZ cJ ou_a ou)) hD hS hA (fun q hq => pm9.mem_iff.mpr (List.mem_append_left _ hq))
    refine va_calli (w_runS (As := [.ref (sd_a 0), .int (xs (i + 1).toNatClampNeg), .int (zb (xs (i + 2).toNatClampNeg)), .ref (ou_a 0)]) (rest := []) ⟨hx, hb, hml, hown, hts⟩ (kx_Law_export_3 l hl9 dC dI cI cZ cJ sd_a cu_a ou_a w_a v_a (wr_a 0) (rd_a 0) (sp_a 0) H.size hf) (cwH_of 4 hts t_734 rfl rfl t_53 t_732 t_733 hd_Law_export.2 ⟨Nat.le_trans (Nat.le_of_ble_eq_true rfl) hRf, Nat.le_trans (Nat.le_of_ble_eq_true rfl) hRl⟩) ⟨kPX_blind, kPX_at hPc hK hDc hN (fun q hq => hS.2.1 q hq (fun h9 => absurd (hA2 q h9) (Nat.not_le.mpr hq))) hT hX⟩ rfl rfl hl.1 rfl (lv_room (Nat.le_of_ble_eq_true rfl)) d_law_596 ⟨by omega, by omega⟩) hS (fun q _ h => hFc q h) hFc (fun r9 u t H1 locs ht hvm hw hB hz1 hk1 hS => ?_)
    rw [hw]
    obtain ⟨hP, hD⟩ := pw_join (wr := (wSy cI cZ cJ sp_a sp ++ wBr cI cZ cJ w_a w_b w ++ wBr cI cZ cJ v_a v_b v ++ wWr cI cZ cJ wr_a (cb_a 0) wr ++ wRd cI cZ cJ rd_a (cb_a 0) rd ++ wCb cI cZ cJ cb_a w_a v_a cb ++ wMo cI cZ cJ mo_a mo)) (w1 := (wSd cI cZ cJ sd_a w_a v_a (wr_a 0) (rd_a 0) (cu_a 0) (sp_a 0) sd ++ wSy cI cZ cJ cu_a cu ++ wOu cI cZ cJ ou_a ou)) hP hD pm9 ht hk1 hFc hB
    generalize H1 = H at hP hS ⊢
    have pm9 : ((wSy cI cZ cJ sp_a sp ++ wBr cI cZ cJ w_a w_b w ++ wBr cI cZ cJ v_a v_b v ++ wWr cI cZ cJ wr_a (cb_a 0) wr ++ wRd cI cZ cJ rd_a (cb_a 0) rd ++ wCb cI cZ cJ cb_a w_a v_a cb ++ wMo cI cZ cJ mo_a mo) ++ (wSd cI cZ cJ sd_a w_a v_a (wr_a 0) (rd_a 0) (cu_a 0) (sp_a 0) sd ++ wSy cI cZ cJ cu_a cu ++ wOu cI cZ cJ ou_a ou) : va_W).Perm (wSd cI cZ cJ sd_a w_a v_a (wr_a 0) (rd_a 0) (cu_a 0) (sp_a 0) sd ++ wSy cI cZ cJ cu_a cu ++ wSy cI cZ cJ sp_a sp ++ wBr cI cZ cJ w_a w_b w ++ wBr cI cZ cJ v_a v_b v ++ wWr cI cZ cJ wr_a (cb_a 0) wr ++ wRd cI cZ cJ rd_a (cb_a 0) rd ++ wCb cI cZ cJ cb_a w_a v_a cb ++ wMo cI cZ cJ mo_a mo ++ wOu cI cZ cJ ou_a ou) := pm_1 _ _ _ _ _ _ _ _ _ _
    have hP : va_P (dC, dI) vwCl (wSd cI cZ cJ sd_a w_a v_a (wr_a 0) (rd_a 0) (cu_a 0) (sp_a 0) sd ++ wSy cI cZ cJ cu_a cu ++ wSy cI cZ cJ sp_a sp ++ wBr cI cZ cJ w_a w_b w ++ wBr cI cZ cJ v_a v_b v ++ wWr cI cZ cJ wr_a (cb_a 0) wr ++ wRd cI cZ cJ rd_a (cb_a 0) rd ++ wCb cI cZ cJ cb_a w_a v_a cb ++ wMo cI cZ cJ mo_a mo ++ wOu cI cZ cJ ou_a ou) H := pw_P hP (fun q hq => pm9.mem_iff.mpr hq)
    have hD : va_D A (wSd cI cZ cJ sd_a w_a v_a (wr_a 0) (rd_a 0) (cu_a 0) (sp_a 0) sd ++ wSy cI cZ cJ cu_a cu ++ wSy cI cZ cJ sp_a sp ++ wBr cI cZ cJ w_a w_b w ++ wBr cI cZ cJ v_a v_b v ++ wWr cI cZ cJ wr_a (cb_a 0) wr ++ wRd cI cZ cJ rd_a (cb_a 0) rd ++ wCb cI cZ cJ cb_a w_a v_a cb ++ wMo cI cZ cJ mo_a mo ++ wOu cI cZ cJ ou_a ou) := pw_Dp hD pm9
    refine lv_istore (lv' := [(5, .int 1), (0, .ref b), (1, .ref (sd_a 0)), (2, .ref (mo_a 0)), (3, .ref (ou_a 0)), (4, .int i)]) hx hb d_law_599 hl (by decide) rfl (fun ls hl => ?_)
    refine lv_aload_n hx hb d_law_601 rfl (lv_at hl 3 rfl) ?_
    refine lv_aload_n hx hb d_law_602 rfl (lv_at hl 1 rfl) ?_
    refine lv_iload hx hb d_law_603 (lv_at hl 5 rfl) ?_
    refine lv_iconst (v := 1) hx hb d_law_605 (by decide) ?_
    refine lv_iadd hx hb d_law_606 ?_
    refine va_sld hx hb hX0 hbl hbA hS (hin 1 (by decide) (by decide)) d_law_607 ?_
    refine lv_aload_n hx hb d_law_608 rfl (lv_at hl 1 rfl) ?_
    refine lv_iload hx hb d_law_609 (lv_at hl 5 rfl) ?_
    refine lv_iconst (v := 2) hx hb d_law_611 (by decide) ?_
    refine lv_iadd hx hb d_law_612 ?_
    refine va_sld hx hb hX0 hbl hbA hS (hin 2 (by decide) (by decide)) d_law_613 ?_
    refine lw_zb hx hb d_law_614 d_law_617 d_law_618 d_law_621 ?_
    have pm9 : ((wSd cI cZ cJ sd_a w_a v_a (wr_a 0) (rd_a 0) (cu_a 0) (sp_a 0) sd ++ wSy cI cZ cJ cu_a cu ++ wSy cI cZ cJ sp_a sp ++ wBr cI cZ cJ w_a w_b w ++ wBr cI cZ cJ v_a v_b v ++ wWr cI cZ cJ wr_a (cb_a 0) wr ++ wRd cI cZ cJ rd_a (cb_a 0) rd ++ wCb cI cZ cJ cb_a w_a v_a cb ++ wMo cI cZ cJ mo_a mo ++ wOu cI cZ cJ ou_a ou) : va_W).Perm ((wMo cI cZ cJ mo_a mo) ++ (wSd cI cZ cJ sd_a w_a v_a (wr_a 0) (rd_a 0) (cu_a 0) (sp_a 0) sd ++ wSy cI cZ cJ cu_a cu ++ wSy cI cZ cJ sp_a sp ++ wBr cI cZ cJ w_a w_b w ++ wBr cI cZ cJ v_a v_b v ++ wWr cI cZ cJ wr_a (cb_a 0) wr ++ wRd cI cZ cJ rd_a (cb_a 0) rd ++ wCb cI cZ cJ cb_a w_a v_a cb ++ wOu cI cZ cJ ou_a ou)) := pm_2 _ _ _ _ _ _ _ _ _ _
    have hPc := pw_P (ws' := (wMo cI cZ cJ mo_a mo)) hP (fun q hq => pm9.mem_iff.mpr (List.mem_append_left _ hq))
    have hDc := pw_D (wc := (wMo cI cZ cJ mo_a mo)) hD pm9
    have hFc := pw_free (wc := (wMo cI cZ cJ mo_a mo)) hD hS hA (fun q hq => pm9.mem_iff.mpr (List.mem_append_left _ hq))
    refine va_calli (va_runV (As := [.int (xs (i + 1).toNatClampNeg), .int (zb (xs (i + 2).toNatClampNeg))]) (rest := []) ⟨hx, hb, hml, hown, hts⟩ (k_Model_export l dC dI cI cZ cJ mo_a H.size hg) (cwV 2 hts (gV t_956 t_957 t_958 t_63 t_959) rfl rfl rfl hd_Model_export ⟨Nat.le_trans (Nat.le_of_ble_eq_true rfl) hRf, Nat.le_trans (Nat.le_of_ble_eq_true rfl) hRl⟩) ⟨kP_blind, va_recv hK hPc (ci := 7) (q0 := 0) rfl rfl, kP_at hPc hK hDc hN⟩ rfl rfl hl.1 rfl (lv_room (Nat.le_of_ble_eq_true rfl)) d_law_622 ⟨by omega, by omega⟩) hS (fun q _ h => hFc q h) hFc (fun r9 u t H1 locs ht hvm hw hB hz1 hk1 hS => ?_)
    rw [hw.1]
    obtain ⟨hP, hD⟩ := pw_join (wr := (wSd cI cZ cJ sd_a w_a v_a (wr_a 0) (rd_a 0) (cu_a 0) (sp_a 0) sd ++ wSy cI cZ cJ cu_a cu ++ wSy cI cZ cJ sp_a sp ++ wBr cI cZ cJ w_a w_b w ++ wBr cI cZ cJ v_a v_b v ++ wWr cI cZ cJ wr_a (cb_a 0) wr ++ wRd cI cZ cJ rd_a (cb_a 0) rd ++ wCb cI cZ cJ cb_a w_a v_a cb ++ wOu cI cZ cJ ou_a ou)) (w1 := (wMo cI cZ cJ mo_a mo')) hP hD pm9 ht hk1 hFc hB
    generalize H1 = H at hP hS ⊢
    have pm9 : ((wSd cI cZ cJ sd_a w_a v_a (wr_a 0) (rd_a 0) (cu_a 0) (sp_a 0) sd ++ wSy cI cZ cJ cu_a cu ++ wSy cI cZ cJ sp_a sp ++ wBr cI cZ cJ w_a w_b w ++ wBr cI cZ cJ v_a v_b v ++ wWr cI cZ cJ wr_a (cb_a 0) wr ++ wRd cI cZ cJ rd_a (cb_a 0) rd ++ wCb cI cZ cJ cb_a w_a v_a cb ++ wOu cI cZ cJ ou_a ou) ++ (wMo cI cZ cJ mo_a mo') : va_W).Perm (wSd cI cZ cJ sd_a w_a v_a (wr_a 0) (rd_a 0) (cu_a 0) (sp_a 0) sd ++ wSy cI cZ cJ cu_a cu ++ wSy cI cZ cJ sp_a sp ++ wBr cI cZ cJ w_a w_b w ++ wBr cI cZ cJ v_a v_b v ++ wWr cI cZ cJ wr_a (cb_a 0) wr ++ wRd cI cZ cJ rd_a (cb_a 0) rd ++ wCb cI cZ cJ cb_a w_a v_a cb ++ wMo cI cZ cJ mo_a mo' ++ wOu cI cZ cJ ou_a ou) := pm_3 _ _ _ _ _ _ _ _ _ _
    have hP : va_P (dC, dI) vwCl (wSd cI cZ cJ sd_a w_a v_a (wr_a 0) (rd_a 0) (cu_a 0) (sp_a 0) sd ++ wSy cI cZ cJ cu_a cu ++ wSy cI cZ cJ sp_a sp ++ wBr cI cZ cJ w_a w_b w ++ wBr cI cZ cJ v_a v_b v ++ wWr cI cZ cJ wr_a (cb_a 0) wr ++ wRd cI cZ cJ rd_a (cb_a 0) rd ++ wCb cI cZ cJ cb_a w_a v_a cb ++ wMo cI cZ cJ mo_a mo' ++ wOu cI cZ cJ ou_a ou) H := pw_P hP (fun q hq => pm9.mem_iff.mpr hq)
    have hD : va_D A (wSd cI cZ cJ sd_a w_a v_a (wr_a 0) (rd_a 0) (cu_a 0) (sp_a 0) sd ++ wSy cI cZ cJ cu_a cu ++ wSy cI cZ cJ sp_a sp ++ wBr cI cZ cJ w_a w_b w ++ wBr cI cZ cJ v_a v_b v ++ wWr cI cZ cJ wr_a (cb_a 0) wr ++ wRd cI cZ cJ rd_a (cb_a 0) rd ++ wCb cI cZ cJ cb_a w_a v_a cb ++ wMo cI cZ cJ mo_a mo' ++ wOu cI cZ cJ ou_a ou) := pw_Dp hD pm9
    refine lv_istore (lv' := [(6, .int q), (5, .int 1), (0, .ref b), (1, .ref (sd_a 0)), (2, .ref (mo_a 0)), (3, .ref (ou_a 0)), (4, .int i)]) hx hb d_law_625 hl (by decide) rfl (fun ls hl => ?_)
    refine lv_aload_n hx hb d_law_627 rfl (lv_at hl 4 rfl) ?_
    have hth : f_Model_thrown mo' = some (Mo_code mo') := rfl
    have pm9 : ((wSd cI cZ cJ sd_a w_a v_a (wr_a 0) (rd_a 0) (cu_a 0) (sp_a 0) sd ++ wSy cI cZ cJ cu_a cu ++ wSy cI cZ cJ sp_a sp ++ wBr cI cZ cJ w_a w_b w ++ wBr cI cZ cJ v_a v_b v ++ wWr cI cZ cJ wr_a (cb_a 0) wr ++ wRd cI cZ cJ rd_a (cb_a 0) rd ++ wCb cI cZ cJ cb_a w_a v_a cb ++ wMo cI cZ cJ mo_a mo' ++ wOu cI cZ cJ ou_a ou) : va_W).Perm ((wMo cI cZ cJ mo_a mo') ++ (wSd cI cZ cJ sd_a w_a v_a (wr_a 0) (rd_a 0) (cu_a 0) (sp_a 0) sd ++ wSy cI cZ cJ cu_a cu ++ wSy cI cZ cJ sp_a sp ++ wBr cI cZ cJ w_a w_b w ++ wBr cI cZ cJ v_a v_b v ++ wWr cI cZ cJ wr_a (cb_a 0) wr ++ wRd cI cZ cJ rd_a (cb_a 0) rd ++ wCb cI cZ cJ cb_a w_a v_a cb ++ wOu cI cZ cJ ou_a ou)) := pm_2 _ _ _ _ _ _ _ _ _ _
    have hPc := pw_P (ws' := (wMo cI cZ cJ mo_a mo')) hP (fun q hq => pm9.mem_iff.mpr (List.mem_append_left _ hq))
    have hDc := pw_D (wc := (wMo cI cZ cJ mo_a mo')) hD pm9
    have hFc := pw_free (wc := (wMo cI cZ cJ mo_a mo')) hD hS hA (fun q hq => pm9.mem_iff.mpr (List.mem_append_left _ hq))
    refine va_calli (va_runV (As := []) (rest := []) ⟨hx, hb, hml, hown, hts⟩ (k_Model_thrown l dC dI cI cZ cJ mo_a H.size hth) (cwV 0 hts (gV t_906 t_907 t_908 t_63 t_909) rfl rfl rfl hd_Model_thrown ⟨Nat.le_trans (Nat.le_of_ble_eq_true rfl) hRf, Nat.le_trans (Nat.le_of_ble_eq_true rfl) hRl⟩) ⟨kP_blind, va_recv hK hPc (ci := 7) (q0 := 0) rfl rfl, kP_at hPc hK hDc hN⟩ rfl rfl hl.1 rfl (lv_room (Nat.le_of_ble_eq_true rfl)) d_law_628 ⟨by omega, by omega⟩) hS (fun q _ h => hFc q h) hFc (fun r9 u t H1 locs ht hvm hw hB hz1 hk1 hS => ?_)
    rw [hw]
    obtain ⟨hP, hD⟩ := pw_join (wr := (wSd cI cZ cJ sd_a w_a v_a (wr_a 0) (rd_a 0) (cu_a 0) (sp_a 0) sd ++ wSy cI cZ cJ cu_a cu ++ wSy cI cZ cJ sp_a sp ++ wBr cI cZ cJ w_a w_b w ++ wBr cI cZ cJ v_a v_b v ++ wWr cI cZ cJ wr_a (cb_a 0) wr ++ wRd cI cZ cJ rd_a (cb_a 0) rd ++ wCb cI cZ cJ cb_a w_a v_a cb ++ wOu cI cZ cJ ou_a ou)) (w1 := (wMo cI cZ cJ mo_a mo')) hP hD pm9 ht hk1 hFc hB
    generalize H1 = H at hP hS ⊢
    have pm9 : ((wSd cI cZ cJ sd_a w_a v_a (wr_a 0) (rd_a 0) (cu_a 0) (sp_a 0) sd ++ wSy cI cZ cJ cu_a cu ++ wSy cI cZ cJ sp_a sp ++ wBr cI cZ cJ w_a w_b w ++ wBr cI cZ cJ v_a v_b v ++ wWr cI cZ cJ wr_a (cb_a 0) wr ++ wRd cI cZ cJ rd_a (cb_a 0) rd ++ wCb cI cZ cJ cb_a w_a v_a cb ++ wOu cI cZ cJ ou_a ou) ++ (wMo cI cZ cJ mo_a mo') : va_W).Perm (wSd cI cZ cJ sd_a w_a v_a (wr_a 0) (rd_a 0) (cu_a 0) (sp_a 0) sd ++ wSy cI cZ cJ cu_a cu ++ wSy cI cZ cJ sp_a sp ++ wBr cI cZ cJ w_a w_b w ++ wBr cI cZ cJ v_a v_b v ++ wWr cI cZ cJ wr_a (cb_a 0) wr ++ wRd cI cZ cJ rd_a (cb_a 0) rd ++ wCb cI cZ cJ cb_a w_a v_a cb ++ wMo cI cZ cJ mo_a mo' ++ wOu cI cZ cJ ou_a ou) := pm_3 _ _ _ _ _ _ _ _ _ _
    have hP : va_P (dC, dI) vwCl (wSd cI cZ cJ sd_a w_a v_a (wr_a 0) (rd_a 0) (cu_a 0) (sp_a 0) sd ++ wSy cI cZ cJ cu_a cu ++ wSy cI cZ cJ sp_a sp ++ wBr cI cZ cJ w_a w_b w ++ wBr cI cZ cJ v_a v_b v ++ wWr cI cZ cJ wr_a (cb_a 0) wr ++ wRd cI cZ cJ rd_a (cb_a 0) rd ++ wCb cI cZ cJ cb_a w_a v_a cb ++ wMo cI cZ cJ mo_a mo' ++ wOu cI cZ cJ ou_a ou) H := pw_P hP (fun q hq => pm9.mem_iff.mpr hq)
    have hD : va_D A (wSd cI cZ cJ sd_a w_a v_a (wr_a 0) (rd_a 0) (cu_a 0) (sp_a 0) sd ++ wSy cI cZ cJ cu_a cu ++ wSy cI cZ cJ sp_a sp ++ wBr cI cZ cJ w_a w_b w ++ wBr cI cZ cJ v_a v_b v ++ wWr cI cZ cJ wr_a (cb_a 0) wr ++ wRd cI cZ cJ rd_a (cb_a 0) rd ++ wCb cI cZ cJ cb_a w_a v_a cb ++ wMo cI cZ cJ mo_a mo' ++ wOu cI cZ cJ ou_a ou) := pw_Dp hD pm9
    refine lv_iload hx hb d_law_631 (lv_at hl 1 rfl) ?_
    refine lv_icmp_eq (tgt := 638) hx hb d_law_633 (by decide) (fun _ => ?_) (fun h9 => absurd hcode h9)
    refine lv_iload hx hb d_law_638 (lv_at hl 1 rfl) ?_
    refine lv_if_ne (tgt := 662) hx hb d_law_640 (by decide) (fun _ => ?_) (fun h9 => absurd h9 (by decide))
    refine lv_goto (tgt := 1131) hx hb d_law_662 (by decide) ?_
    have hl := lv_sub (l' := [(0, .ref b), (1, .ref (sd_a 0)), (2, .ref (mo_a 0)), (3, .ref (ou_a 0)), (4, .int i)]) hl [2, 3, 4, 5, 6] rfl
    refine W.widen (k := j + 1 + Br_byL w + Br_byL v) (n := 6 * (j + 1) + 2 * Br_byL w + 2 * Br_byL v) (by omega) (by omega) ?_
    exact hk _ _ _ cu_a sp_a w_b v_b cu sp w v wr rd cb mo' ou hrel hP hD hS hl
set_option maxHeartbeats 8000000 in
set_option maxRecDepth 100000 in
theorem L_C_write {p : Program} {l : Launch} {e : Env} {R : Room} {s : State} {m : MethodId} {args : Array Value} {below : List Frame} {meth : Method} {c : Code} {Q : State → Prop} {A : Nat → Prop} {dC : Nat → ClassId} {dI : Nat → Nat → Nat} {cI cZ cJ : ClassId} {sd_a cu_a sp_a : Nat → Nat} {w_a w_b v_a v_b : Nat} {wr_a rd_a cb_a mo_a ou_a : Nat → Nat} {sd : Sd} {cu sp : Sy} {w v : Br} {wr : Wr} {rd : Rd} {cb : Cb} {mo : Mo} {ou : Ou} {b L : Nat} {xs : Nat → Int32} {i : Int32} {j : Nat} {Rl : Sd → Sy → Sy → Br → Br → Wr → Rd → Cb → Mo → Prop} (hl9 : l.stackTraces = false) (C0 : lcx p c m s args R (dC, dI) (TYS cI cZ cJ) A b L xs i j) (hRb : ∀ sd cu sp w v wr rd cb mo, Rl sd cu sp w v wr rd cb mo → Br_byL w ≤ 40000 ∧ Br_byL v ≤ 40000) (hR0 : Rl sd cu sp w v wr rd cb mo) (hT0 : T_C_write Rl sd cu sp w v wr rd cb mo)
    (hk : ∀ (H : Heap) (locs : List Loc) (ls : Array Slot) (cu_a sp_a : Nat → Nat) (w_b v_b : Nat) (cu sp : Sy) (w v : Br) (wr : Wr) (rd : Rd) (cb : Cb) (mo : Mo) (ou : Ou), Rl sd cu sp w v wr rd cb mo → va_P (dC, dI) vwCl (wSd cI cZ cJ sd_a w_a v_a (wr_a 0) (rd_a 0) (cu_a 0) (sp_a 0) sd ++ wSy cI cZ cJ cu_a cu ++ wSy cI cZ cJ sp_a sp ++ wBr cI cZ cJ w_a w_b w ++ wBr cI cZ cJ v_a v_b v ++ wWr cI cZ cJ wr_a (cb_a 0) wr ++ wRd cI cZ cJ rd_a (cb_a 0) rd ++ wCb cI cZ cJ cb_a w_a v_a cb ++ wMo cI cZ cJ mo_a mo ++ wOu cI cZ cJ ou_a ou) H → va_D A (wSd cI cZ cJ sd_a w_a v_a (wr_a 0) (rd_a 0) (cu_a 0) (sp_a 0) sd ++ wSy cI cZ cJ cu_a cu ++ wSy cI cZ cJ sp_a sp ++ wBr cI cZ cJ w_a w_b w ++ wBr cI cZ cJ v_a v_b v ++ wWr cI cZ cJ wr_a (cb_a 0) wr ++ wRd cI cZ cJ rd_a (cb_a 0) rd ++ wCb cI cZ cJ cb_a w_a v_a cb ++ wMo cI cZ cJ mo_a mo ++ wOu cI cZ cJ ou_a ou) → va_S A s.heap H locs → lv_has ls 7 [(0, .ref b), (1, .ref (sd_a 0)), (2, .ref (mo_a 0)), (3, .ref (ou_a 0)), (4, .int i)] → W p l e R s m args below meth c H locs (j + 1 + Br_byL w + Br_byL v) (6 * (j + 1) + 2 * Br_byL w + 2 * Br_byL v) Q (F0 m 1131 ls []))
    {H : Heap} {locs : List Loc} {ls : Array Slot} (hP : va_P (dC, dI) vwCl (wSd cI cZ cJ sd_a w_a v_a (wr_a 0) (rd_a 0) (cu_a 0) (sp_a 0) sd ++ wSy cI cZ cJ cu_a cu ++ wSy cI cZ cJ sp_a sp ++ wBr cI cZ cJ w_a w_b w ++ wBr cI cZ cJ v_a v_b v ++ wWr cI cZ cJ wr_a (cb_a 0) wr ++ wRd cI cZ cJ rd_a (cb_a 0) rd ++ wCb cI cZ cJ cb_a w_a v_a cb ++ wMo cI cZ cJ mo_a mo ++ wOu cI cZ cJ ou_a ou) H) (hD : va_D A (wSd cI cZ cJ sd_a w_a v_a (wr_a 0) (rd_a 0) (cu_a 0) (sp_a 0) sd ++ wSy cI cZ cJ cu_a cu ++ wSy cI cZ cJ sp_a sp ++ wBr cI cZ cJ w_a w_b w ++ wBr cI cZ cJ v_a v_b v ++ wWr cI cZ cJ wr_a (cb_a 0) wr ++ wRd cI cZ cJ rd_a (cb_a 0) rd ++ wCb cI cZ cJ cb_a w_a v_a cb ++ wMo cI cZ cJ mo_a mo ++ wOu cI cZ cJ ou_a ou)) (hS : va_S A s.heap H locs) (hl : lv_has ls 7 [(0, .ref b), (1, .ref (sd_a 0)), (2, .ref (mo_a 0)), (3, .ref (ou_a 0)), (4, .int i)]) : W p l e R s m args below meth c H locs (j + Br_byL w + Br_byL v) (6 * j + 2 * Br_byL w + 2 * Br_byL v) Q (F0 m 665 ls []) := by
  obtain ⟨hx, hb, hml, hown, hts, hK, hA, hA2, hRf, hRl, hN, hT, hX, hX0, hbl, hin, hj, hRc, hRs⟩ := C0
  have hbA : ¬ A b := fun h => absurd (hA2 b h) (Nat.not_le.mpr hbl)
  obtain ⟨hw0, hv0⟩ := hRb _ _ _ _ _ _ _ _ _ hR0
  unfold T_C_write at hT0
  obtain ⟨r, wr', cb', w', mo', hf, hg, hrel⟩ := hT0
  have hm0 := mo_C_SD_write _ hf
  try dsimp only at hm0
  have hb9 := (hRb _ _ _ _ _ _ _ _ _ hrel).1
  refine lv_aload_n hx hb d_law_665 rfl (lv_at hl 1 rfl) ?_
  have pm9 : ((wSd cI cZ cJ sd_a w_a v_a (wr_a 0) (rd_a 0) (cu_a 0) (sp_a 0) sd ++ wSy cI cZ cJ cu_a cu ++ wSy cI cZ cJ sp_a sp ++ wBr cI cZ cJ w_a w_b w ++ wBr cI cZ cJ v_a v_b v ++ wWr cI cZ cJ wr_a (cb_a 0) wr ++ wRd cI cZ cJ rd_a (cb_a 0) rd ++ wCb cI cZ cJ cb_a w_a v_a cb ++ wMo cI cZ cJ mo_a mo ++ wOu cI cZ cJ ou_a ou) : va_W).Perm ((wSd cI cZ cJ sd_a w_a v_a (wr_a 0) (rd_a 0) (cu_a 0) (sp_a 0) sd ++ wWr cI cZ cJ wr_a (cb_a 0) wr ++ wCb cI cZ cJ cb_a w_a v_a cb ++ wBr cI cZ cJ w_a w_b w ++ wSy cI cZ cJ cu_a cu) ++ (wSy cI cZ cJ sp_a sp ++ wBr cI cZ cJ v_a v_b v ++ wRd cI cZ cJ rd_a (cb_a 0) rd ++ wMo cI cZ cJ mo_a mo ++ wOu cI cZ cJ ou_a ou)) := pm_4 _ _ _ _ _ _ _ _ _ _
  have hPc := pw_P (ws' := (wSd cI cZ cJ sd_a w_a v_a (wr_a 0) (rd_a 0) (cu_a 0) (sp_a 0) sd ++ wWr cI cZ cJ wr_a (cb_a 0) wr ++ wCb cI cZ cJ cb_a w_a v_a cb ++ wBr cI cZ cJ w_a w_b w ++ wSy cI cZ cJ cu_a cu)) hP (fun q hq => pm9.mem_iff.mpr (List.mem_append_left _ hq))
  have hDc := pw_D (wc := (wSd cI cZ cJ sd_a w_a v_a (wr_a 0) (rd_a 0) (cu_a 0) (sp_a 0) sd ++ wWr cI cZ cJ wr_a (cb_a 0) wr ++ wCb cI cZ cJ cb_a w_a v_a cb ++ wBr cI cZ cJ w_a w_b w ++ wSy cI cZ cJ cu_a cu)) hD pm9
  have hFc := pw_free (wc := (wSd cI cZ cJ sd_a w_a v_a (wr_a 0) (rd_a 0) (cu_a 0) (sp_a 0) sd ++ wWr cI cZ cJ wr_a (cb_a 0) wr ++ wCb cI cZ cJ cb_a w_a v_a cb ++ wBr cI cZ cJ w_a w_b w ++ wSy cI cZ cJ cu_a cu)) hD hS hA (fun q hq => pm9.mem_iff.mpr (List.mem_append_left _ hq))
  refine va_calli (va_runV (As := []) (rest := []) ⟨hx, hb, hml, hown, hts⟩ (k_C_SD_write l dC dI cI cZ cJ sd_a wr_a cb_a w_a w_b cu_a v_a (rd_a 0) (sp_a 0) H.size hf) (cwV 0 hts (gV t_280 t_281 t_282 t_54 t_283) rfl rfl rfl hd_SD_write ⟨Nat.le_trans (Nat.le_of_ble_eq_true rfl) hRf, Nat.le_trans (Nat.le_of_ble_eq_true rfl) hRl⟩) ⟨kP_blind, va_recv hK hPc (ci := 6) (q0 := 0) rfl rfl, kP_at hPc hK hDc hN⟩ rfl rfl hl.1 rfl (lv_room (Nat.le_of_ble_eq_true rfl)) d_law_666 ⟨by omega, by omega⟩) hS (fun q _ h => hFc q h) hFc (fun r9 w_q1 t H1 locs ht hvm hw hB hz1 hk1 hS => ?_)
  rw [hw]
  obtain ⟨hP, hD⟩ := pw_join (wr := (wSy cI cZ cJ sp_a sp ++ wBr cI cZ cJ v_a v_b v ++ wRd cI cZ cJ rd_a (cb_a 0) rd ++ wMo cI cZ cJ mo_a mo ++ wOu cI cZ cJ ou_a ou)) (w1 := (wSd cI cZ cJ sd_a w_a v_a (wr_a 0) (rd_a 0) (cu_a 0) (sp_a 0) sd ++ wWr cI cZ cJ wr_a (cb_a 0) wr' ++ wCb cI cZ cJ cb_a w_a v_a cb' ++ wBr cI cZ cJ w_a w_q1 w' ++ wSy cI cZ cJ cu_a cu)) hP hD pm9 ht hk1 hFc hB
  generalize H1 = H at hP hS ⊢
  have pm9 : ((wSy cI cZ cJ sp_a sp ++ wBr cI cZ cJ v_a v_b v ++ wRd cI cZ cJ rd_a (cb_a 0) rd ++ wMo cI cZ cJ mo_a mo ++ wOu cI cZ cJ ou_a ou) ++ (wSd cI cZ cJ sd_a w_a v_a (wr_a 0) (rd_a 0) (cu_a 0) (sp_a 0) sd ++ wWr cI cZ cJ wr_a (cb_a 0) wr' ++ wCb cI cZ cJ cb_a w_a v_a cb' ++ wBr cI cZ cJ w_a w_q1 w' ++ wSy cI cZ cJ cu_a cu) : va_W).Perm (wSd cI cZ cJ sd_a w_a v_a (wr_a 0) (rd_a 0) (cu_a 0) (sp_a 0) sd ++ wSy cI cZ cJ cu_a cu ++ wSy cI cZ cJ sp_a sp ++ wBr cI cZ cJ w_a w_q1 w' ++ wBr cI cZ cJ v_a v_b v ++ wWr cI cZ cJ wr_a (cb_a 0) wr' ++ wRd cI cZ cJ rd_a (cb_a 0) rd ++ wCb cI cZ cJ cb_a w_a v_a cb' ++ wMo cI cZ cJ mo_a mo ++ wOu cI cZ cJ ou_a ou) := pm_5 _ _ _ _ _ _ _ _ _ _
  have hP : va_P (dC, dI) vwCl (wSd cI cZ cJ sd_a w_a v_a (wr_a 0) (rd_a 0) (cu_a 0) (sp_a 0) sd ++ wSy cI cZ cJ cu_a cu ++ wSy cI cZ cJ sp_a sp ++ wBr cI cZ cJ w_a w_q1 w' ++ wBr cI cZ cJ v_a v_b v ++ wWr cI cZ cJ wr_a (cb_a 0) wr' ++ wRd cI cZ cJ rd_a (cb_a 0) rd ++ wCb cI cZ cJ cb_a w_a v_a cb' ++ wMo cI cZ cJ mo_a mo ++ wOu cI cZ cJ ou_a ou) H := pw_P hP (fun q hq => pm9.mem_iff.mpr hq)
  have hD : va_D A (wSd cI cZ cJ sd_a w_a v_a (wr_a 0) (rd_a 0) (cu_a 0) (sp_a 0) sd ++ wSy cI cZ cJ cu_a cu ++ wSy cI cZ cJ sp_a sp ++ wBr cI cZ cJ w_a w_q1 w' ++ wBr cI cZ cJ v_a v_b v ++ wWr cI cZ cJ wr_a (cb_a 0) wr' ++ wRd cI cZ cJ rd_a (cb_a 0) rd ++ wCb cI cZ cJ cb_a w_a v_a cb' ++ wMo cI cZ cJ mo_a mo ++ wOu cI cZ cJ ou_a ou) := pw_Dp hD pm9
  refine lv_aload_n hx hb d_law_669 rfl (lv_at hl 2 rfl) ?_
  have pm9 : ((wSd cI cZ cJ sd_a w_a v_a (wr_a 0) (rd_a 0) (cu_a 0) (sp_a 0) sd ++ wSy cI cZ cJ cu_a cu ++ wSy cI cZ cJ sp_a sp ++ wBr cI cZ cJ w_a w_q1 w' ++ wBr cI cZ cJ v_a v_b v ++ wWr cI cZ cJ wr_a (cb_a 0) wr' ++ wRd cI cZ cJ rd_a (cb_a 0) rd ++ wCb cI cZ cJ cb_a w_a v_a cb' ++ wMo cI cZ cJ mo_a mo ++ wOu cI cZ cJ ou_a ou) : va_W).Perm ((wMo cI cZ cJ mo_a mo) ++ (wSd cI cZ cJ sd_a w_a v_a (wr_a 0) (rd_a 0) (cu_a 0) (sp_a 0) sd ++ wSy cI cZ cJ cu_a cu ++ wSy cI cZ cJ sp_a sp ++ wBr cI cZ cJ w_a w_q1 w' ++ wBr cI cZ cJ v_a v_b v ++ wWr cI cZ cJ wr_a (cb_a 0) wr' ++ wRd cI cZ cJ rd_a (cb_a 0) rd ++ wCb cI cZ cJ cb_a w_a v_a cb' ++ wOu cI cZ cJ ou_a ou)) := pm_2 _ _ _ _ _ _ _ _ _ _
  have hPc := pw_P (ws' := (wMo cI cZ cJ mo_a mo)) hP (fun q hq => pm9.mem_iff.mpr (List.mem_append_left _ hq))
  have hDc := pw_D (wc := (wMo cI cZ cJ mo_a mo)) hD pm9
  have hFc := pw_free (wc := (wMo cI cZ cJ mo_a mo)) hD hS hA (fun q hq => pm9.mem_iff.mpr (List.mem_append_left _ hq))
  refine va_calli (va_runV (As := []) (rest := [.int r]) ⟨hx, hb, hml, hown, hts⟩ (k_Model_write l dC dI cI cZ cJ mo_a H.size hg) (cwV 0 hts (gV t_960 t_961 t_962 t_63 t_963) rfl rfl rfl hd_Model_write ⟨Nat.le_trans (Nat.le_of_ble_eq_true rfl) hRf, Nat.le_trans (Nat.le_of_ble_eq_true rfl) hRl⟩) ⟨kP_blind, va_recv hK hPc (ci := 7) (q0 := 0) rfl rfl, kP_at hPc hK hDc hN⟩ rfl rfl hl.1 rfl (lv_room (Nat.le_of_ble_eq_true rfl)) d_law_670 ⟨by omega, by omega⟩) hS (fun q _ h => hFc q h) hFc (fun r9 u t H1 locs ht hvm hw hB hz1 hk1 hS => ?_)
  rw [hw]
  obtain ⟨hP, hD⟩ := pw_join (wr := (wSd cI cZ cJ sd_a w_a v_a (wr_a 0) (rd_a 0) (cu_a 0) (sp_a 0) sd ++ wSy cI cZ cJ cu_a cu ++ wSy cI cZ cJ sp_a sp ++ wBr cI cZ cJ w_a w_q1 w' ++ wBr cI cZ cJ v_a v_b v ++ wWr cI cZ cJ wr_a (cb_a 0) wr' ++ wRd cI cZ cJ rd_a (cb_a 0) rd ++ wCb cI cZ cJ cb_a w_a v_a cb' ++ wOu cI cZ cJ ou_a ou)) (w1 := (wMo cI cZ cJ mo_a mo')) hP hD pm9 ht hk1 hFc hB
  generalize H1 = H at hP hS ⊢
  have pm9 : ((wSd cI cZ cJ sd_a w_a v_a (wr_a 0) (rd_a 0) (cu_a 0) (sp_a 0) sd ++ wSy cI cZ cJ cu_a cu ++ wSy cI cZ cJ sp_a sp ++ wBr cI cZ cJ w_a w_q1 w' ++ wBr cI cZ cJ v_a v_b v ++ wWr cI cZ cJ wr_a (cb_a 0) wr' ++ wRd cI cZ cJ rd_a (cb_a 0) rd ++ wCb cI cZ cJ cb_a w_a v_a cb' ++ wOu cI cZ cJ ou_a ou) ++ (wMo cI cZ cJ mo_a mo') : va_W).Perm (wSd cI cZ cJ sd_a w_a v_a (wr_a 0) (rd_a 0) (cu_a 0) (sp_a 0) sd ++ wSy cI cZ cJ cu_a cu ++ wSy cI cZ cJ sp_a sp ++ wBr cI cZ cJ w_a w_q1 w' ++ wBr cI cZ cJ v_a v_b v ++ wWr cI cZ cJ wr_a (cb_a 0) wr' ++ wRd cI cZ cJ rd_a (cb_a 0) rd ++ wCb cI cZ cJ cb_a w_a v_a cb' ++ wMo cI cZ cJ mo_a mo' ++ wOu cI cZ cJ ou_a ou) := pm_3 _ _ _ _ _ _ _ _ _ _
  have hP : va_P (dC, dI) vwCl (wSd cI cZ cJ sd_a w_a v_a (wr_a 0) (rd_a 0) (cu_a 0) (sp_a 0) sd ++ wSy cI cZ cJ cu_a cu ++ wSy cI cZ cJ sp_a sp ++ wBr cI cZ cJ w_a w_q1 w' ++ wBr cI cZ cJ v_a v_b v ++ wWr cI cZ cJ wr_a (cb_a 0) wr' ++ wRd cI cZ cJ rd_a (cb_a 0) rd ++ wCb cI cZ cJ cb_a w_a v_a cb' ++ wMo cI cZ cJ mo_a mo' ++ wOu cI cZ cJ ou_a ou) H := pw_P hP (fun q hq => pm9.mem_iff.mpr hq)
  have hD : va_D A (wSd cI cZ cJ sd_a w_a v_a (wr_a 0) (rd_a 0) (cu_a 0) (sp_a 0) sd ++ wSy cI cZ cJ cu_a cu ++ wSy cI cZ cJ sp_a sp ++ wBr cI cZ cJ w_a w_q1 w' ++ wBr cI cZ cJ v_a v_b v ++ wWr cI cZ cJ wr_a (cb_a 0) wr' ++ wRd cI cZ cJ rd_a (cb_a 0) rd ++ wCb cI cZ cJ cb_a w_a v_a cb' ++ wMo cI cZ cJ mo_a mo' ++ wOu cI cZ cJ ou_a ou) := pw_Dp hD pm9
  refine lv_icmp_eq (tgt := 1131) hx hb d_law_673 (by decide) (fun _ => ?_) (fun h9 => absurd rfl h9)
  have hl := lv_sub (l' := [(0, .ref b), (1, .ref (sd_a 0)), (2, .ref (mo_a 0)), (3, .ref (ou_a 0)), (4, .int i)]) hl [0, 1, 2, 3, 4] rfl
  refine W.widen (k := j + 1 + Br_byL w' + Br_byL v) (n := 6 * (j + 1) + 2 * Br_byL w' + 2 * Br_byL v) (by omega) (by omega) ?_
  exact hk _ _ _ cu_a sp_a w_q1 v_b cu sp w' v wr' rd cb' mo' ou hrel hP hD hS hl
set_option maxHeartbeats 8000000 in
set_option maxRecDepth 100000 in
theorem L_C_byteAt {p : Program} {l : Launch} {e : Env} {R : Room} {s : State} {m : MethodId} {args : Array Value} {below : List Frame} {meth : Method} {c : Code} {Q : State → Prop} {A : Nat → Prop} {dC : Nat → ClassId} {dI : Nat → Nat → Nat} {cI cZ cJ : ClassId} {sd_a cu_a sp_a : Nat → Nat} {w_a w_b v_a v_b : Nat} {wr_a rd_a cb_a mo_a ou_a : Nat → Nat} {sd : Sd} {cu sp : Sy} {w v : Br} {wr : Wr} {rd : Rd} {cb : Cb} {mo : Mo} {ou : Ou} {b L : Nat} {xs : Nat → Int32} {i : Int32} {j : Nat} {Rl : Sd → Sy → Sy → Br → Br → Wr → Rd → Cb → Mo → Prop} (hl9 : l.stackTraces = false) (C0 : lcx p c m s args R (dC, dI) (TYS cI cZ cJ) A b L xs i j) (hRb : ∀ sd cu sp w v wr rd cb mo, Rl sd cu sp w v wr rd cb mo → Br_byL w ≤ 40000 ∧ Br_byL v ≤ 40000) (hR0 : Rl sd cu sp w v wr rd cb mo) (hT0 : T_C_byteAt Rl sd cu sp w v wr rd cb mo (xs (i + 1).toNatClampNeg))
    (hk : ∀ (H : Heap) (locs : List Loc) (ls : Array Slot) (cu_a sp_a : Nat → Nat) (w_b v_b : Nat) (cu sp : Sy) (w v : Br) (wr : Wr) (rd : Rd) (cb : Cb) (mo : Mo) (ou : Ou), Rl sd cu sp w v wr rd cb mo → va_P (dC, dI) vwCl (wSd cI cZ cJ sd_a w_a v_a (wr_a 0) (rd_a 0) (cu_a 0) (sp_a 0) sd ++ wSy cI cZ cJ cu_a cu ++ wSy cI cZ cJ sp_a sp ++ wBr cI cZ cJ w_a w_b w ++ wBr cI cZ cJ v_a v_b v ++ wWr cI cZ cJ wr_a (cb_a 0) wr ++ wRd cI cZ cJ rd_a (cb_a 0) rd ++ wCb cI cZ cJ cb_a w_a v_a cb ++ wMo cI cZ cJ mo_a mo ++ wOu cI cZ cJ ou_a ou) H → va_D A (wSd cI cZ cJ sd_a w_a v_a (wr_a 0) (rd_a 0) (cu_a 0) (sp_a 0) sd ++ wSy cI cZ cJ cu_a cu ++ wSy cI cZ cJ sp_a sp ++ wBr cI cZ cJ w_a w_b w ++ wBr cI cZ cJ v_a v_b v ++ wWr cI cZ cJ wr_a (cb_a 0) wr ++ wRd cI cZ cJ rd_a (cb_a 0) rd ++ wCb cI cZ cJ cb_a w_a v_a cb ++ wMo cI cZ cJ mo_a mo ++ wOu cI cZ cJ ou_a ou) → va_S A s.heap H locs → lv_has ls 7 [(0, .ref b), (1, .ref (sd_a 0)), (2, .ref (mo_a 0)), (3, .ref (ou_a 0)), (4, .int i)] → W p l e R s m args below meth c H locs (j + 1 + Br_byL w + Br_byL v) (6 * (j + 1) + 2 * Br_byL w + 2 * Br_byL v) Q (F0 m 1131 ls []))
    {H : Heap} {locs : List Loc} {ls : Array Slot} (hP : va_P (dC, dI) vwCl (wSd cI cZ cJ sd_a w_a v_a (wr_a 0) (rd_a 0) (cu_a 0) (sp_a 0) sd ++ wSy cI cZ cJ cu_a cu ++ wSy cI cZ cJ sp_a sp ++ wBr cI cZ cJ w_a w_b w ++ wBr cI cZ cJ v_a v_b v ++ wWr cI cZ cJ wr_a (cb_a 0) wr ++ wRd cI cZ cJ rd_a (cb_a 0) rd ++ wCb cI cZ cJ cb_a w_a v_a cb ++ wMo cI cZ cJ mo_a mo ++ wOu cI cZ cJ ou_a ou) H) (hD : va_D A (wSd cI cZ cJ sd_a w_a v_a (wr_a 0) (rd_a 0) (cu_a 0) (sp_a 0) sd ++ wSy cI cZ cJ cu_a cu ++ wSy cI cZ cJ sp_a sp ++ wBr cI cZ cJ w_a w_b w ++ wBr cI cZ cJ v_a v_b v ++ wWr cI cZ cJ wr_a (cb_a 0) wr ++ wRd cI cZ cJ rd_a (cb_a 0) rd ++ wCb cI cZ cJ cb_a w_a v_a cb ++ wMo cI cZ cJ mo_a mo ++ wOu cI cZ cJ ou_a ou)) (hS : va_S A s.heap H locs) (hl : lv_has ls 7 [(0, .ref b), (1, .ref (sd_a 0)), (2, .ref (mo_a 0)), (3, .ref (ou_a 0)), (4, .int i)]) : W p l e R s m args below meth c H locs (j + Br_byL w + Br_byL v) (6 * j + 2 * Br_byL w + 2 * Br_byL v) Q (F0 m 678 ls []) := by
  obtain ⟨hx, hb, hml, hown, hts, hK, hA, hA2, hRf, hRl, hN, hT, hX, hX0, hbl, hin, hj, hRc, hRs⟩ := C0
  have hbA : ¬ A b := fun h => absurd (hA2 b h) (Nat.not_le.mpr hbl)
  obtain ⟨hw0, hv0⟩ := hRb _ _ _ _ _ _ _ _ _ hR0
  unfold T_C_byteAt at hT0
  rcases hT0 with ⟨r, mo', hf, hg, hcode, hrel⟩ | ⟨hf, q, mo', hg, hcode, hrel⟩
  · obtain ⟨ou', heou⟩ : ∃ z : Ou, z = (vp_updL (Ou_f ou) 0 r.toInt64) := ⟨_, rfl⟩
    have hf1 : f_Law_byteAt sd w ou (xs (i + 1).toNatClampNeg) = some (0, ou') := by
      rw [f_Law_byteAt, hf, bd_s, heou]
      rfl
    have hou : Ou_f ou' (0 : Int32).toNatClampNeg = r.toInt64 := by rw [heou]; exact updL_at _ _ _
    refine lv_aload_n hx hb d_law_678 rfl (lv_at hl 1 rfl) ?_
    refine lv_aload_n hx hb d_law_679 rfl (lv_at hl 0 rfl) ?_
    refine lv_iload hx hb d_law_680 (lv_at hl 4 rfl) ?_
    refine lv_iconst (v := 1) hx hb d_law_682 (by decide) ?_
    refine lv_iadd hx hb d_law_683 ?_
    refine va_sld hx hb hX0 hbl hbA hS (hin 1 (by decide) (by decide)) d_law_684 ?_
    refine lv_aload_n hx hb d_law_685 rfl (lv_at hl 3 rfl) ?_
    have pm9 : ((wSd cI cZ cJ sd_a w_a v_a (wr_a 0) (rd_a 0) (cu_a 0) (sp_a 0) sd ++ wSy cI cZ cJ cu_a cu ++ wSy cI cZ cJ sp_a sp ++ wBr cI cZ cJ w_a w_b w ++ wBr cI cZ cJ v_a v_b v ++ wWr cI cZ cJ wr_a (cb_a 0) wr ++ wRd cI cZ cJ rd_a (cb_a 0) rd ++ wCb cI cZ cJ cb_a w_a v_a cb ++ wMo cI cZ cJ mo_a mo ++ wOu cI cZ cJ ou_a ou) : va_W).Perm ((wSd cI cZ cJ sd_a w_a v_a (wr_a 0) (rd_a 0) (cu_a 0) (sp_a 0) sd ++ wBr cI cZ cJ w_a w_b w ++ wOu cI cZ cJ ou_a ou) ++ (wSy cI cZ cJ cu_a cu ++ wSy cI cZ cJ sp_a sp ++ wBr cI cZ cJ v_a v_b v ++ wWr cI cZ cJ wr_a (cb_a 0) wr ++ wRd cI cZ cJ rd_a (cb_a 0) rd ++ wCb cI cZ cJ cb_a w_a v_a cb ++ wMo cI cZ cJ mo_a mo)) := pm_6 _ _ _ _ _ _ _ _ _ _
    have hPc := pw_P (ws' := (wSd cI cZ cJ sd_a w_a v_a (wr_a 0) (rd_a 0) (cu_a 0) (sp_a 0) sd ++ wBr cI cZ cJ w_a w_b w ++ wOu cI cZ cJ ou_a ou)) hP (fun q hq => pm9.mem_iff.mpr (List.mem_append_left _ hq))
    have hDc := pw_D (wc := (wSd cI cZ cJ sd_a w_a v_a (wr_a 0) (rd_a 0) (cu_a 0) (sp_a 0) sd ++ wBr cI cZ cJ w_a w_b w ++ wOu cI cZ cJ ou_a ou)) hD pm9
    have hFc := pw_free (wc := (wSd cI cZ cJ sd_a w_a v_a (wr_a 0) (rd_a 0) (cu_a 0) (sp_a 0) sd ++ wBr cI cZ cJ w_a w_b w ++ wOu cI cZ cJ ou_a ou)) hD hS hA (fun q hq => pm9.mem_iff.mpr (List.mem_append_left _ hq))
    refine va_calli (w_runS (As := [.ref (sd_a 0), .int (xs (i + 1).toNatClampNeg), .ref (ou_a 0)]) (rest := []) ⟨hx, hb, hml, hown, hts⟩ (k_Law_byteAt l dC dI cI cZ cJ sd_a w_a w_b ou_a v_a (wr_a 0) (rd_a 0) (cu_a 0) (sp_a 0) H.size hf1) (cwH_of 3 hts t_741 rfl rfl t_53 t_739 t_740 hd_Law_byteAt.2 ⟨Nat.le_trans (Nat.le_of_ble_eq_true rfl) hRf, Nat.le_trans (Nat.le_of_ble_eq_true rfl) hRl⟩) ⟨kP_blind, kP_at hPc hK hDc hN⟩ rfl rfl hl.1 rfl (lv_room (Nat.le_of_ble_eq_true rfl)) d_law_686 ⟨by omega, by omega⟩) hS (fun q _ h => hFc q h) hFc (fun r9 u t H1 locs ht hvm hw hB hz1 hk1 hS => ?_)
    rw [hw]
    obtain ⟨hP, hD⟩ := pw_join (wr := (wSy cI cZ cJ cu_a cu ++ wSy cI cZ cJ sp_a sp ++ wBr cI cZ cJ v_a v_b v ++ wWr cI cZ cJ wr_a (cb_a 0) wr ++ wRd cI cZ cJ rd_a (cb_a 0) rd ++ wCb cI cZ cJ cb_a w_a v_a cb ++ wMo cI cZ cJ mo_a mo)) (w1 := (wSd cI cZ cJ sd_a w_a v_a (wr_a 0) (rd_a 0) (cu_a 0) (sp_a 0) sd ++ wBr cI cZ cJ w_a w_b w ++ wOu cI cZ cJ ou_a ou')) hP hD pm9 ht hk1 hFc hB
    generalize H1 = H at hP hS ⊢
    have pm9 : ((wSy cI cZ cJ cu_a cu ++ wSy cI cZ cJ sp_a sp ++ wBr cI cZ cJ v_a v_b v ++ wWr cI cZ cJ wr_a (cb_a 0) wr ++ wRd cI cZ cJ rd_a (cb_a 0) rd ++ wCb cI cZ cJ cb_a w_a v_a cb ++ wMo cI cZ cJ mo_a mo) ++ (wSd cI cZ cJ sd_a w_a v_a (wr_a 0) (rd_a 0) (cu_a 0) (sp_a 0) sd ++ wBr cI cZ cJ w_a w_b w ++ wOu cI cZ cJ ou_a ou') : va_W).Perm (wSd cI cZ cJ sd_a w_a v_a (wr_a 0) (rd_a 0) (cu_a 0) (sp_a 0) sd ++ wSy cI cZ cJ cu_a cu ++ wSy cI cZ cJ sp_a sp ++ wBr cI cZ cJ w_a w_b w ++ wBr cI cZ cJ v_a v_b v ++ wWr cI cZ cJ wr_a (cb_a 0) wr ++ wRd cI cZ cJ rd_a (cb_a 0) rd ++ wCb cI cZ cJ cb_a w_a v_a cb ++ wMo cI cZ cJ mo_a mo ++ wOu cI cZ cJ ou_a ou') := pm_7 _ _ _ _ _ _ _ _ _ _
    have hP : va_P (dC, dI) vwCl (wSd cI cZ cJ sd_a w_a v_a (wr_a 0) (rd_a 0) (cu_a 0) (sp_a 0) sd ++ wSy cI cZ cJ cu_a cu ++ wSy cI cZ cJ sp_a sp ++ wBr cI cZ cJ w_a w_b w ++ wBr cI cZ cJ v_a v_b v ++ wWr cI cZ cJ wr_a (cb_a 0) wr ++ wRd cI cZ cJ rd_a (cb_a 0) rd ++ wCb cI cZ cJ cb_a w_a v_a cb ++ wMo cI cZ cJ mo_a mo ++ wOu cI cZ cJ ou_a ou') H := pw_P hP (fun q hq => pm9.mem_iff.mpr hq)
    have hD : va_D A (wSd cI cZ cJ sd_a w_a v_a (wr_a 0) (rd_a 0) (cu_a 0) (sp_a 0) sd ++ wSy cI cZ cJ cu_a cu ++ wSy cI cZ cJ sp_a sp ++ wBr cI cZ cJ w_a w_b w ++ wBr cI cZ cJ v_a v_b v ++ wWr cI cZ cJ wr_a (cb_a 0) wr ++ wRd cI cZ cJ rd_a (cb_a 0) rd ++ wCb cI cZ cJ cb_a w_a v_a cb ++ wMo cI cZ cJ mo_a mo ++ wOu cI cZ cJ ou_a ou') := pw_Dp hD pm9
    refine lv_istore (lv' := [(5, .int 0), (0, .ref b), (1, .ref (sd_a 0)), (2, .ref (mo_a 0)), (3, .ref (ou_a 0)), (4, .int i)]) hx hb d_law_689 hl (by decide) rfl (fun ls hl => ?_)
    refine lv_aload_n hx hb d_law_691 rfl (lv_at hl 3 rfl) ?_
    refine lv_aload_n hx hb d_law_692 rfl (lv_at hl 1 rfl) ?_
    refine lv_iload hx hb d_law_693 (lv_at hl 5 rfl) ?_
    refine lv_iconst (v := 1) hx hb d_law_695 (by decide) ?_
    refine lv_iadd hx hb d_law_696 ?_
    refine va_sld hx hb hX0 hbl hbA hS (hin 1 (by decide) (by decide)) d_law_697 ?_
    have pm9 : ((wSd cI cZ cJ sd_a w_a v_a (wr_a 0) (rd_a 0) (cu_a 0) (sp_a 0) sd ++ wSy cI cZ cJ cu_a cu ++ wSy cI cZ cJ sp_a sp ++ wBr cI cZ cJ w_a w_b w ++ wBr cI cZ cJ v_a v_b v ++ wWr cI cZ cJ wr_a (cb_a 0) wr ++ wRd cI cZ cJ rd_a (cb_a 0) rd ++ wCb cI cZ cJ cb_a w_a v_a cb ++ wMo cI cZ cJ mo_a mo ++ wOu cI cZ cJ ou_a ou') : va_W).Perm ((wMo cI cZ cJ mo_a mo) ++ (wSd cI cZ cJ sd_a w_a v_a (wr_a 0) (rd_a 0) (cu_a 0) (sp_a 0) sd ++ wSy cI cZ cJ cu_a cu ++ wSy cI cZ cJ sp_a sp ++ wBr cI cZ cJ w_a w_b w ++ wBr cI cZ cJ v_a v_b v ++ wWr cI cZ cJ wr_a (cb_a 0) wr ++ wRd cI cZ cJ rd_a (cb_a 0) rd ++ wCb cI cZ cJ cb_a w_a v_a cb ++ wOu cI cZ cJ ou_a ou')) := pm_2 _ _ _ _ _ _ _ _ _ _
    have hPc := pw_P (ws' := (wMo cI cZ cJ mo_a mo)) hP (fun q hq => pm9.mem_iff.mpr (List.mem_append_left _ hq))
    have hDc := pw_D (wc := (wMo cI cZ cJ mo_a mo)) hD pm9
    have hFc := pw_free (wc := (wMo cI cZ cJ mo_a mo)) hD hS hA (fun q hq => pm9.mem_iff.mpr (List.mem_append_left _ hq))
    refine va_calli (va_runV (As := [.int (xs (i + 1).toNatClampNeg)]) (rest := []) ⟨hx, hb, hml, hown, hts⟩ (k_Model_byteAt l dC dI cI cZ cJ mo_a H.size hg) (cwV 1 hts (gV t_1035 t_1036 t_1037 t_63 t_1038) rfl rfl rfl hd_Model_byteAt ⟨Nat.le_trans (Nat.le_of_ble_eq_true rfl) hRf, Nat.le_trans (Nat.le_of_ble_eq_true rfl) hRl⟩) ⟨kP_blind, va_recv hK hPc (ci := 7) (q0 := 0) rfl rfl, kP_at hPc hK hDc hN⟩ rfl rfl hl.1 rfl (lv_room (Nat.le_of_ble_eq_true rfl)) d_law_698 ⟨by omega, by omega⟩) hS (fun q _ h => hFc q h) hFc (fun r9 u t H1 locs ht hvm hw hB hz1 hk1 hS => ?_)
    rw [hw]
    obtain ⟨hP, hD⟩ := pw_join (wr := (wSd cI cZ cJ sd_a w_a v_a (wr_a 0) (rd_a 0) (cu_a 0) (sp_a 0) sd ++ wSy cI cZ cJ cu_a cu ++ wSy cI cZ cJ sp_a sp ++ wBr cI cZ cJ w_a w_b w ++ wBr cI cZ cJ v_a v_b v ++ wWr cI cZ cJ wr_a (cb_a 0) wr ++ wRd cI cZ cJ rd_a (cb_a 0) rd ++ wCb cI cZ cJ cb_a w_a v_a cb ++ wOu cI cZ cJ ou_a ou')) (w1 := (wMo cI cZ cJ mo_a mo')) hP hD pm9 ht hk1 hFc hB
    generalize H1 = H at hP hS ⊢
    have pm9 : ((wSd cI cZ cJ sd_a w_a v_a (wr_a 0) (rd_a 0) (cu_a 0) (sp_a 0) sd ++ wSy cI cZ cJ cu_a cu ++ wSy cI cZ cJ sp_a sp ++ wBr cI cZ cJ w_a w_b w ++ wBr cI cZ cJ v_a v_b v ++ wWr cI cZ cJ wr_a (cb_a 0) wr ++ wRd cI cZ cJ rd_a (cb_a 0) rd ++ wCb cI cZ cJ cb_a w_a v_a cb ++ wOu cI cZ cJ ou_a ou') ++ (wMo cI cZ cJ mo_a mo') : va_W).Perm (wSd cI cZ cJ sd_a w_a v_a (wr_a 0) (rd_a 0) (cu_a 0) (sp_a 0) sd ++ wSy cI cZ cJ cu_a cu ++ wSy cI cZ cJ sp_a sp ++ wBr cI cZ cJ w_a w_b w ++ wBr cI cZ cJ v_a v_b v ++ wWr cI cZ cJ wr_a (cb_a 0) wr ++ wRd cI cZ cJ rd_a (cb_a 0) rd ++ wCb cI cZ cJ cb_a w_a v_a cb ++ wMo cI cZ cJ mo_a mo' ++ wOu cI cZ cJ ou_a ou') := pm_3 _ _ _ _ _ _ _ _ _ _
    have hP : va_P (dC, dI) vwCl (wSd cI cZ cJ sd_a w_a v_a (wr_a 0) (rd_a 0) (cu_a 0) (sp_a 0) sd ++ wSy cI cZ cJ cu_a cu ++ wSy cI cZ cJ sp_a sp ++ wBr cI cZ cJ w_a w_b w ++ wBr cI cZ cJ v_a v_b v ++ wWr cI cZ cJ wr_a (cb_a 0) wr ++ wRd cI cZ cJ rd_a (cb_a 0) rd ++ wCb cI cZ cJ cb_a w_a v_a cb ++ wMo cI cZ cJ mo_a mo' ++ wOu cI cZ cJ ou_a ou') H := pw_P hP (fun q hq => pm9.mem_iff.mpr hq)
    have hD : va_D A (wSd cI cZ cJ sd_a w_a v_a (wr_a 0) (rd_a 0) (cu_a 0) (sp_a 0) sd ++ wSy cI cZ cJ cu_a cu ++ wSy cI cZ cJ sp_a sp ++ wBr cI cZ cJ w_a w_b w ++ wBr cI cZ cJ v_a v_b v ++ wWr cI cZ cJ wr_a (cb_a 0) wr ++ wRd cI cZ cJ rd_a (cb_a 0) rd ++ wCb cI cZ cJ cb_a w_a v_a cb ++ wMo cI cZ cJ mo_a mo' ++ wOu cI cZ cJ ou_a ou') := pw_Dp hD pm9
    refine lv_istore (lv' := [(6, .int r), (5, .int 0), (0, .ref b), (1, .ref (sd_a 0)), (2, .ref (mo_a 0)), (3, .ref (ou_a 0)), (4, .int i)]) hx hb d_law_701 hl (by decide) rfl (fun ls hl => ?_)
    refine lv_aload_n hx hb d_law_703 rfl (lv_at hl 4 rfl) ?_
    have hth : f_Model_thrown mo' = some (Mo_code mo') := rfl
    have pm9 : ((wSd cI cZ cJ sd_a w_a v_a (wr_a 0) (rd_a 0) (cu_a 0) (sp_a 0) sd ++ wSy cI cZ cJ cu_a cu ++ wSy cI cZ cJ sp_a sp ++ wBr cI cZ cJ w_a w_b w ++ wBr cI cZ cJ v_a v_b v ++ wWr cI cZ cJ wr_a (cb_a 0) wr ++ wRd cI cZ cJ rd_a (cb_a 0) rd ++ wCb cI cZ cJ cb_a w_a v_a cb ++ wMo cI cZ cJ mo_a mo' ++ wOu cI cZ cJ ou_a ou') : va_W).Perm ((wMo cI cZ cJ mo_a mo') ++ (wSd cI cZ cJ sd_a w_a v_a (wr_a 0) (rd_a 0) (cu_a 0) (sp_a 0) sd ++ wSy cI cZ cJ cu_a cu ++ wSy cI cZ cJ sp_a sp ++ wBr cI cZ cJ w_a w_b w ++ wBr cI cZ cJ v_a v_b v ++ wWr cI cZ cJ wr_a (cb_a 0) wr ++ wRd cI cZ cJ rd_a (cb_a 0) rd ++ wCb cI cZ cJ cb_a w_a v_a cb ++ wOu cI cZ cJ ou_a ou')) := pm_2 _ _ _ _ _ _ _ _ _ _
    have hPc := pw_P (ws' := (wMo cI cZ cJ mo_a mo')) hP (fun q hq => pm9.mem_iff.mpr (List.mem_append_left _ hq))
    have hDc := pw_D (wc := (wMo cI cZ cJ mo_a mo')) hD pm9
    have hFc := pw_free (wc := (wMo cI cZ cJ mo_a mo')) hD hS hA (fun q hq => pm9.mem_iff.mpr (List.mem_append_left _ hq))
    refine va_calli (va_runV (As := []) (rest := []) ⟨hx, hb, hml, hown, hts⟩ (k_Model_thrown l dC dI cI cZ cJ mo_a H.size hth) (cwV 0 hts (gV t_906 t_907 t_908 t_63 t_909) rfl rfl rfl hd_Model_thrown ⟨Nat.le_trans (Nat.le_of_ble_eq_true rfl) hRf, Nat.le_trans (Nat.le_of_ble_eq_true rfl) hRl⟩) ⟨kP_blind, va_recv hK hPc (ci := 7) (q0 := 0) rfl rfl, kP_at hPc hK hDc hN⟩ rfl rfl hl.1 rfl (lv_room (Nat.le_of_ble_eq_true rfl)) d_law_704 ⟨by omega, by omega⟩) hS (fun q _ h => hFc q h) hFc (fun r9 u t H1 locs ht hvm hw hB hz1 hk1 hS => ?_)
    rw [hw]
    obtain ⟨hP, hD⟩ := pw_join (wr := (wSd cI cZ cJ sd_a w_a v_a (wr_a 0) (rd_a 0) (cu_a 0) (sp_a 0) sd ++ wSy cI cZ cJ cu_a cu ++ wSy cI cZ cJ sp_a sp ++ wBr cI cZ cJ w_a w_b w ++ wBr cI cZ cJ v_a v_b v ++ wWr cI cZ cJ wr_a (cb_a 0) wr ++ wRd cI cZ cJ rd_a (cb_a 0) rd ++ wCb cI cZ cJ cb_a w_a v_a cb ++ wOu cI cZ cJ ou_a ou')) (w1 := (wMo cI cZ cJ mo_a mo')) hP hD pm9 ht hk1 hFc hB
    generalize H1 = H at hP hS ⊢
    have pm9 : ((wSd cI cZ cJ sd_a w_a v_a (wr_a 0) (rd_a 0) (cu_a 0) (sp_a 0) sd ++ wSy cI cZ cJ cu_a cu ++ wSy cI cZ cJ sp_a sp ++ wBr cI cZ cJ w_a w_b w ++ wBr cI cZ cJ v_a v_b v ++ wWr cI cZ cJ wr_a (cb_a 0) wr ++ wRd cI cZ cJ rd_a (cb_a 0) rd ++ wCb cI cZ cJ cb_a w_a v_a cb ++ wOu cI cZ cJ ou_a ou') ++ (wMo cI cZ cJ mo_a mo') : va_W).Perm (wSd cI cZ cJ sd_a w_a v_a (wr_a 0) (rd_a 0) (cu_a 0) (sp_a 0) sd ++ wSy cI cZ cJ cu_a cu ++ wSy cI cZ cJ sp_a sp ++ wBr cI cZ cJ w_a w_b w ++ wBr cI cZ cJ v_a v_b v ++ wWr cI cZ cJ wr_a (cb_a 0) wr ++ wRd cI cZ cJ rd_a (cb_a 0) rd ++ wCb cI cZ cJ cb_a w_a v_a cb ++ wMo cI cZ cJ mo_a mo' ++ wOu cI cZ cJ ou_a ou') := pm_3 _ _ _ _ _ _ _ _ _ _
    have hP : va_P (dC, dI) vwCl (wSd cI cZ cJ sd_a w_a v_a (wr_a 0) (rd_a 0) (cu_a 0) (sp_a 0) sd ++ wSy cI cZ cJ cu_a cu ++ wSy cI cZ cJ sp_a sp ++ wBr cI cZ cJ w_a w_b w ++ wBr cI cZ cJ v_a v_b v ++ wWr cI cZ cJ wr_a (cb_a 0) wr ++ wRd cI cZ cJ rd_a (cb_a 0) rd ++ wCb cI cZ cJ cb_a w_a v_a cb ++ wMo cI cZ cJ mo_a mo' ++ wOu cI cZ cJ ou_a ou') H := pw_P hP (fun q hq => pm9.mem_iff.mpr hq)
    have hD : va_D A (wSd cI cZ cJ sd_a w_a v_a (wr_a 0) (rd_a 0) (cu_a 0) (sp_a 0) sd ++ wSy cI cZ cJ cu_a cu ++ wSy cI cZ cJ sp_a sp ++ wBr cI cZ cJ w_a w_b w ++ wBr cI cZ cJ v_a v_b v ++ wWr cI cZ cJ wr_a (cb_a 0) wr ++ wRd cI cZ cJ rd_a (cb_a 0) rd ++ wCb cI cZ cJ cb_a w_a v_a cb ++ wMo cI cZ cJ mo_a mo' ++ wOu cI cZ cJ ou_a ou') := pw_Dp hD pm9
    refine lv_iload hx hb d_law_707 (lv_at hl 1 rfl) ?_
    refine lv_icmp_eq (tgt := 714) hx hb d_law_709 (by decide) (fun _ => ?_) (fun h9 => absurd hcode h9)
    refine lv_iload hx hb d_law_714 (lv_at hl 1 rfl) ?_
    refine lv_if_ne (tgt := 731) hx hb d_law_716 (by decide) (fun h9 => absurd rfl h9) (fun _ => ?_)
    refine lv_aload_n hx hb d_law_719 rfl (lv_at hl 5 rfl) ?_
    refine lv_iconst (v := 0) hx hb d_law_720 (by decide) ?_
    refine va_lald (f := Ou_f ou') hx hb hK hP 47 2 rfl rfl (inb_in (by decide)) d_law_721 ?_
    refine lv_iload hx hb d_law_722 (lv_at hl 0 rfl) ?_
    refine lv_i2l (v := r.toInt64) hx hb d_law_724 rfl ?_
    refine W.lcmp hx hb d_law_725 ?_
    refine lv_if_eq (tgt := 731) hx hb d_law_726 (by decide) (fun _ => ?_) (fun h9 => absurd (by rw [hou]; exact cmp_self _) h9)
    refine lv_goto (tgt := 1131) hx hb d_law_731 (by decide) ?_
    have hl := lv_sub (l' := [(0, .ref b), (1, .ref (sd_a 0)), (2, .ref (mo_a 0)), (3, .ref (ou_a 0)), (4, .int i)]) hl [2, 3, 4, 5, 6] rfl
    refine W.widen (k := j + 1 + Br_byL w + Br_byL v) (n := 6 * (j + 1) + 2 * Br_byL w + 2 * Br_byL v) (by omega) (by omega) ?_
    exact hk _ _ _ cu_a sp_a w_b v_b cu sp w v wr rd cb mo' ou' hrel hP hD hS hl
  · refine lv_aload_n hx hb d_law_678 rfl (lv_at hl 1 rfl) ?_
    refine lv_aload_n hx hb d_law_679 rfl (lv_at hl 0 rfl) ?_
    refine lv_iload hx hb d_law_680 (lv_at hl 4 rfl) ?_
    refine lv_iconst (v := 1) hx hb d_law_682 (by decide) ?_
    refine lv_iadd hx hb d_law_683 ?_
    refine va_sld hx hb hX0 hbl hbA hS (hin 1 (by decide) (by decide)) d_law_684 ?_
    refine lv_aload_n hx hb d_law_685 rfl (lv_at hl 3 rfl) ?_
    have pm9 : ((wSd cI cZ cJ sd_a w_a v_a (wr_a 0) (rd_a 0) (cu_a 0) (sp_a 0) sd ++ wSy cI cZ cJ cu_a cu ++ wSy cI cZ cJ sp_a sp ++ wBr cI cZ cJ w_a w_b w ++ wBr cI cZ cJ v_a v_b v ++ wWr cI cZ cJ wr_a (cb_a 0) wr ++ wRd cI cZ cJ rd_a (cb_a 0) rd ++ wCb cI cZ cJ cb_a w_a v_a cb ++ wMo cI cZ cJ mo_a mo ++ wOu cI cZ cJ ou_a ou) : va_W).Perm ((wSd cI cZ cJ sd_a w_a v_a (wr_a 0) (rd_a 0) (cu_a 0) (sp_a 0) sd ++ wBr cI cZ cJ w_a w_b w ++ wOu cI cZ cJ ou_a ou) ++ (wSy cI cZ cJ cu_a cu ++ wSy cI cZ cJ sp_a sp ++ wBr cI cZ cJ v_a v_b v ++ wWr cI cZ cJ wr_a (cb_a 0) wr ++ wRd cI cZ cJ rd_a (cb_a 0) rd ++ wCb cI cZ cJ cb_a w_a v_a cb ++ wMo cI cZ cJ mo_a mo)) := pm_6 _ _ _ _ _ _ _ _ _ _
    have hPc := pw_P (ws' := (wSd cI cZ cJ sd_a w_a v_a (wr_a 0) (rd_a 0) (cu_a 0) (sp_a 0) sd ++ wBr cI cZ cJ w_a w_b w ++ wOu cI cZ cJ ou_a ou)) hP (fun q hq => pm9.mem_iff.mpr (List.mem_append_left _ hq))
    have hDc := pw_D (wc := (wSd cI cZ cJ sd_a w_a v_a (wr_a 0) (rd_a 0) (cu_a 0) (sp_a 0) sd ++ wBr cI cZ cJ w_a w_b w ++ wOu cI cZ cJ ou_a ou)) hD pm9
    have hFc := pw_free (wc := (wSd cI cZ cJ sd_a w_a v_a (wr_a 0) (rd_a 0) (cu_a 0) (sp_a 0) sd ++ wBr cI cZ cJ w_a w_b w ++ wOu cI cZ cJ ou_a ou)) hD hS hA (fun q hq => pm9.mem_iff.mpr (List.mem_append_left _ hq))
    refine va_calli (w_runS (As := [.ref (sd_a 0), .int (xs (i + 1).toNatClampNeg), .ref (ou_a 0)]) (rest := []) ⟨hx, hb, hml, hown, hts⟩ (kx_Law_byteAt_3 l hl9 dC dI cI cZ cJ sd_a w_a w_b ou_a v_a (wr_a 0) (rd_a 0) (cu_a 0) (sp_a 0) H.size hf) (cwH_of 3 hts t_741 rfl rfl t_53 t_739 t_740 hd_Law_byteAt.2 ⟨Nat.le_trans (Nat.le_of_ble_eq_true rfl) hRf, Nat.le_trans (Nat.le_of_ble_eq_true rfl) hRl⟩) ⟨kPX_blind, kPX_at hPc hK hDc hN (fun q hq => hS.2.1 q hq (fun h9 => absurd (hA2 q h9) (Nat.not_le.mpr hq))) hT hX⟩ rfl rfl hl.1 rfl (lv_room (Nat.le_of_ble_eq_true rfl)) d_law_686 ⟨by omega, by omega⟩) hS (fun q _ h => hFc q h) hFc (fun r9 u t H1 locs ht hvm hw hB hz1 hk1 hS => ?_)
    rw [hw]
    obtain ⟨hP, hD⟩ := pw_join (wr := (wSy cI cZ cJ cu_a cu ++ wSy cI cZ cJ sp_a sp ++ wBr cI cZ cJ v_a v_b v ++ wWr cI cZ cJ wr_a (cb_a 0) wr ++ wRd cI cZ cJ rd_a (cb_a 0) rd ++ wCb cI cZ cJ cb_a w_a v_a cb ++ wMo cI cZ cJ mo_a mo)) (w1 := (wSd cI cZ cJ sd_a w_a v_a (wr_a 0) (rd_a 0) (cu_a 0) (sp_a 0) sd ++ wBr cI cZ cJ w_a w_b w ++ wOu cI cZ cJ ou_a ou)) hP hD pm9 ht hk1 hFc hB
    generalize H1 = H at hP hS ⊢
    have pm9 : ((wSy cI cZ cJ cu_a cu ++ wSy cI cZ cJ sp_a sp ++ wBr cI cZ cJ v_a v_b v ++ wWr cI cZ cJ wr_a (cb_a 0) wr ++ wRd cI cZ cJ rd_a (cb_a 0) rd ++ wCb cI cZ cJ cb_a w_a v_a cb ++ wMo cI cZ cJ mo_a mo) ++ (wSd cI cZ cJ sd_a w_a v_a (wr_a 0) (rd_a 0) (cu_a 0) (sp_a 0) sd ++ wBr cI cZ cJ w_a w_b w ++ wOu cI cZ cJ ou_a ou) : va_W).Perm (wSd cI cZ cJ sd_a w_a v_a (wr_a 0) (rd_a 0) (cu_a 0) (sp_a 0) sd ++ wSy cI cZ cJ cu_a cu ++ wSy cI cZ cJ sp_a sp ++ wBr cI cZ cJ w_a w_b w ++ wBr cI cZ cJ v_a v_b v ++ wWr cI cZ cJ wr_a (cb_a 0) wr ++ wRd cI cZ cJ rd_a (cb_a 0) rd ++ wCb cI cZ cJ cb_a w_a v_a cb ++ wMo cI cZ cJ mo_a mo ++ wOu cI cZ cJ ou_a ou) := pm_7 _ _ _ _ _ _ _ _ _ _
    have hP : va_P (dC, dI) vwCl (wSd cI cZ cJ sd_a w_a v_a (wr_a 0) (rd_a 0) (cu_a 0) (sp_a 0) sd ++ wSy cI cZ cJ cu_a cu ++ wSy cI cZ cJ sp_a sp ++ wBr cI cZ cJ w_a w_b w ++ wBr cI cZ cJ v_a v_b v ++ wWr cI cZ cJ wr_a (cb_a 0) wr ++ wRd cI cZ cJ rd_a (cb_a 0) rd ++ wCb cI cZ cJ cb_a w_a v_a cb ++ wMo cI cZ cJ mo_a mo ++ wOu cI cZ cJ ou_a ou) H := pw_P hP (fun q hq => pm9.mem_iff.mpr hq)
    have hD : va_D A (wSd cI cZ cJ sd_a w_a v_a (wr_a 0) (rd_a 0) (cu_a 0) (sp_a 0) sd ++ wSy cI cZ cJ cu_a cu ++ wSy cI cZ cJ sp_a sp ++ wBr cI cZ cJ w_a w_b w ++ wBr cI cZ cJ v_a v_b v ++ wWr cI cZ cJ wr_a (cb_a 0) wr ++ wRd cI cZ cJ rd_a (cb_a 0) rd ++ wCb cI cZ cJ cb_a w_a v_a cb ++ wMo cI cZ cJ mo_a mo ++ wOu cI cZ cJ ou_a ou) := pw_Dp hD pm9
    refine lv_istore (lv' := [(5, .int 1), (0, .ref b), (1, .ref (sd_a 0)), (2, .ref (mo_a 0)), (3, .ref (ou_a 0)), (4, .int i)]) hx hb d_law_689 hl (by decide) rfl (fun ls hl => ?_)
    refine lv_aload_n hx hb d_law_691 rfl (lv_at hl 3 rfl) ?_
    refine lv_aload_n hx hb d_law_692 rfl (lv_at hl 1 rfl) ?_
    refine lv_iload hx hb d_law_693 (lv_at hl 5 rfl) ?_
    refine lv_iconst (v := 1) hx hb d_law_695 (by decide) ?_
    refine lv_iadd hx hb d_law_696 ?_
    refine va_sld hx hb hX0 hbl hbA hS (hin 1 (by decide) (by decide)) d_law_697 ?_
    have pm9 : ((wSd cI cZ cJ sd_a w_a v_a (wr_a 0) (rd_a 0) (cu_a 0) (sp_a 0) sd ++ wSy cI cZ cJ cu_a cu ++ wSy cI cZ cJ sp_a sp ++ wBr cI cZ cJ w_a w_b w ++ wBr cI cZ cJ v_a v_b v ++ wWr cI cZ cJ wr_a (cb_a 0) wr ++ wRd cI cZ cJ rd_a (cb_a 0) rd ++ wCb cI cZ cJ cb_a w_a v_a cb ++ wMo cI cZ cJ mo_a mo ++ wOu cI cZ cJ ou_a ou) : va_W).Perm ((wMo cI cZ cJ mo_a mo) ++ (wSd cI cZ cJ sd_a w_a v_a (wr_a 0) (rd_a 0) (cu_a 0) (sp_a 0) sd ++ wSy cI cZ cJ cu_a cu ++ wSy cI cZ cJ sp_a sp ++ wBr cI cZ cJ w_a w_b w ++ wBr cI cZ cJ v_a v_b v ++ wWr cI cZ cJ wr_a (cb_a 0) wr ++ wRd cI cZ cJ rd_a (cb_a 0) rd ++ wCb cI cZ cJ cb_a w_a v_a cb ++ wOu cI cZ cJ ou_a ou)) := pm_2 _ _ _ _ _ _ _ _ _ _
    have hPc := pw_P (ws' := (wMo cI cZ cJ mo_a mo)) hP (fun q hq => pm9.mem_iff.mpr (List.mem_append_left _ hq))
    have hDc := pw_D (wc := (wMo cI cZ cJ mo_a mo)) hD pm9
    have hFc := pw_free (wc := (wMo cI cZ cJ mo_a mo)) hD hS hA (fun q hq => pm9.mem_iff.mpr (List.mem_append_left _ hq))
    refine va_calli (va_runV (As := [.int (xs (i + 1).toNatClampNeg)]) (rest := []) ⟨hx, hb, hml, hown, hts⟩ (k_Model_byteAt l dC dI cI cZ cJ mo_a H.size hg) (cwV 1 hts (gV t_1035 t_1036 t_1037 t_63 t_1038) rfl rfl rfl hd_Model_byteAt ⟨Nat.le_trans (Nat.le_of_ble_eq_true rfl) hRf, Nat.le_trans (Nat.le_of_ble_eq_true rfl) hRl⟩) ⟨kP_blind, va_recv hK hPc (ci := 7) (q0 := 0) rfl rfl, kP_at hPc hK hDc hN⟩ rfl rfl hl.1 rfl (lv_room (Nat.le_of_ble_eq_true rfl)) d_law_698 ⟨by omega, by omega⟩) hS (fun q _ h => hFc q h) hFc (fun r9 u t H1 locs ht hvm hw hB hz1 hk1 hS => ?_)
    rw [hw]
    obtain ⟨hP, hD⟩ := pw_join (wr := (wSd cI cZ cJ sd_a w_a v_a (wr_a 0) (rd_a 0) (cu_a 0) (sp_a 0) sd ++ wSy cI cZ cJ cu_a cu ++ wSy cI cZ cJ sp_a sp ++ wBr cI cZ cJ w_a w_b w ++ wBr cI cZ cJ v_a v_b v ++ wWr cI cZ cJ wr_a (cb_a 0) wr ++ wRd cI cZ cJ rd_a (cb_a 0) rd ++ wCb cI cZ cJ cb_a w_a v_a cb ++ wOu cI cZ cJ ou_a ou)) (w1 := (wMo cI cZ cJ mo_a mo')) hP hD pm9 ht hk1 hFc hB
    generalize H1 = H at hP hS ⊢
    have pm9 : ((wSd cI cZ cJ sd_a w_a v_a (wr_a 0) (rd_a 0) (cu_a 0) (sp_a 0) sd ++ wSy cI cZ cJ cu_a cu ++ wSy cI cZ cJ sp_a sp ++ wBr cI cZ cJ w_a w_b w ++ wBr cI cZ cJ v_a v_b v ++ wWr cI cZ cJ wr_a (cb_a 0) wr ++ wRd cI cZ cJ rd_a (cb_a 0) rd ++ wCb cI cZ cJ cb_a w_a v_a cb ++ wOu cI cZ cJ ou_a ou) ++ (wMo cI cZ cJ mo_a mo') : va_W).Perm (wSd cI cZ cJ sd_a w_a v_a (wr_a 0) (rd_a 0) (cu_a 0) (sp_a 0) sd ++ wSy cI cZ cJ cu_a cu ++ wSy cI cZ cJ sp_a sp ++ wBr cI cZ cJ w_a w_b w ++ wBr cI cZ cJ v_a v_b v ++ wWr cI cZ cJ wr_a (cb_a 0) wr ++ wRd cI cZ cJ rd_a (cb_a 0) rd ++ wCb cI cZ cJ cb_a w_a v_a cb ++ wMo cI cZ cJ mo_a mo' ++ wOu cI cZ cJ ou_a ou) := pm_3 _ _ _ _ _ _ _ _ _ _
    have hP : va_P (dC, dI) vwCl (wSd cI cZ cJ sd_a w_a v_a (wr_a 0) (rd_a 0) (cu_a 0) (sp_a 0) sd ++ wSy cI cZ cJ cu_a cu ++ wSy cI cZ cJ sp_a sp ++ wBr cI cZ cJ w_a w_b w ++ wBr cI cZ cJ v_a v_b v ++ wWr cI cZ cJ wr_a (cb_a 0) wr ++ wRd cI cZ cJ rd_a (cb_a 0) rd ++ wCb cI cZ cJ cb_a w_a v_a cb ++ wMo cI cZ cJ mo_a mo' ++ wOu cI cZ cJ ou_a ou) H := pw_P hP (fun q hq => pm9.mem_iff.mpr hq)
    have hD : va_D A (wSd cI cZ cJ sd_a w_a v_a (wr_a 0) (rd_a 0) (cu_a 0) (sp_a 0) sd ++ wSy cI cZ cJ cu_a cu ++ wSy cI cZ cJ sp_a sp ++ wBr cI cZ cJ w_a w_b w ++ wBr cI cZ cJ v_a v_b v ++ wWr cI cZ cJ wr_a (cb_a 0) wr ++ wRd cI cZ cJ rd_a (cb_a 0) rd ++ wCb cI cZ cJ cb_a w_a v_a cb ++ wMo cI cZ cJ mo_a mo' ++ wOu cI cZ cJ ou_a ou) := pw_Dp hD pm9
    refine lv_istore (lv' := [(6, .int q), (5, .int 1), (0, .ref b), (1, .ref (sd_a 0)), (2, .ref (mo_a 0)), (3, .ref (ou_a 0)), (4, .int i)]) hx hb d_law_701 hl (by decide) rfl (fun ls hl => ?_)
    refine lv_aload_n hx hb d_law_703 rfl (lv_at hl 4 rfl) ?_
    have hth : f_Model_thrown mo' = some (Mo_code mo') := rfl
    have pm9 : ((wSd cI cZ cJ sd_a w_a v_a (wr_a 0) (rd_a 0) (cu_a 0) (sp_a 0) sd ++ wSy cI cZ cJ cu_a cu ++ wSy cI cZ cJ sp_a sp ++ wBr cI cZ cJ w_a w_b w ++ wBr cI cZ cJ v_a v_b v ++ wWr cI cZ cJ wr_a (cb_a 0) wr ++ wRd cI cZ cJ rd_a (cb_a 0) rd ++ wCb cI cZ cJ cb_a w_a v_a cb ++ wMo cI cZ cJ mo_a mo' ++ wOu cI cZ cJ ou_a ou) : va_W).Perm ((wMo cI cZ cJ mo_a mo') ++ (wSd cI cZ cJ sd_a w_a v_a (wr_a 0) (rd_a 0) (cu_a 0) (sp_a 0) sd ++ wSy cI cZ cJ cu_a cu ++ wSy cI cZ cJ sp_a sp ++ wBr cI cZ cJ w_a w_b w ++ wBr cI cZ cJ v_a v_b v ++ wWr cI cZ cJ wr_a (cb_a 0) wr ++ wRd cI cZ cJ rd_a (cb_a 0) rd ++ wCb cI cZ cJ cb_a w_a v_a cb ++ wOu cI cZ cJ ou_a ou)) := pm_2 _ _ _ _ _ _ _ _ _ _
    have hPc := pw_P (ws' := (wMo cI cZ cJ mo_a mo')) hP (fun q hq => pm9.mem_iff.mpr (List.mem_append_left _ hq))
    have hDc := pw_D (wc := (wMo cI cZ cJ mo_a mo')) hD pm9
    have hFc := pw_free (wc := (wMo cI cZ cJ mo_a mo')) hD hS hA (fun q hq => pm9.mem_iff.mpr (List.mem_append_left _ hq))
    refine va_calli (va_runV (As := []) (rest := []) ⟨hx, hb, hml, hown, hts⟩ (k_Model_thrown l dC dI cI cZ cJ mo_a H.size hth) (cwV 0 hts (gV t_906 t_907 t_908 t_63 t_909) rfl rfl rfl hd_Model_thrown ⟨Nat.le_trans (Nat.le_of_ble_eq_true rfl) hRf, Nat.le_trans (Nat.le_of_ble_eq_true rfl) hRl⟩) ⟨kP_blind, va_recv hK hPc (ci := 7) (q0 := 0) rfl rfl, kP_at hPc hK hDc hN⟩ rfl rfl hl.1 rfl (lv_room (Nat.le_of_ble_eq_true rfl)) d_law_704 ⟨by omega, by omega⟩) hS (fun q _ h => hFc q h) hFc (fun r9 u t H1 locs ht hvm hw hB hz1 hk1 hS => ?_)
    rw [hw]
    obtain ⟨hP, hD⟩ := pw_join (wr := (wSd cI cZ cJ sd_a w_a v_a (wr_a 0) (rd_a 0) (cu_a 0) (sp_a 0) sd ++ wSy cI cZ cJ cu_a cu ++ wSy cI cZ cJ sp_a sp ++ wBr cI cZ cJ w_a w_b w ++ wBr cI cZ cJ v_a v_b v ++ wWr cI cZ cJ wr_a (cb_a 0) wr ++ wRd cI cZ cJ rd_a (cb_a 0) rd ++ wCb cI cZ cJ cb_a w_a v_a cb ++ wOu cI cZ cJ ou_a ou)) (w1 := (wMo cI cZ cJ mo_a mo')) hP hD pm9 ht hk1 hFc hB
    generalize H1 = H at hP hS ⊢
    have pm9 : ((wSd cI cZ cJ sd_a w_a v_a (wr_a 0) (rd_a 0) (cu_a 0) (sp_a 0) sd ++ wSy cI cZ cJ cu_a cu ++ wSy cI cZ cJ sp_a sp ++ wBr cI cZ cJ w_a w_b w ++ wBr cI cZ cJ v_a v_b v ++ wWr cI cZ cJ wr_a (cb_a 0) wr ++ wRd cI cZ cJ rd_a (cb_a 0) rd ++ wCb cI cZ cJ cb_a w_a v_a cb ++ wOu cI cZ cJ ou_a ou) ++ (wMo cI cZ cJ mo_a mo') : va_W).Perm (wSd cI cZ cJ sd_a w_a v_a (wr_a 0) (rd_a 0) (cu_a 0) (sp_a 0) sd ++ wSy cI cZ cJ cu_a cu ++ wSy cI cZ cJ sp_a sp ++ wBr cI cZ cJ w_a w_b w ++ wBr cI cZ cJ v_a v_b v ++ wWr cI cZ cJ wr_a (cb_a 0) wr ++ wRd cI cZ cJ rd_a (cb_a 0) rd ++ wCb cI cZ cJ cb_a w_a v_a cb ++ wMo cI cZ cJ mo_a mo' ++ wOu cI cZ cJ ou_a ou) := pm_3 _ _ _ _ _ _ _ _ _ _
    have hP : va_P (dC, dI) vwCl (wSd cI cZ cJ sd_a w_a v_a (wr_a 0) (rd_a 0) (cu_a 0) (sp_a 0) sd ++ wSy cI cZ cJ cu_a cu ++ wSy cI cZ cJ sp_a sp ++ wBr cI cZ cJ w_a w_b w ++ wBr cI cZ cJ v_a v_b v ++ wWr cI cZ cJ wr_a (cb_a 0) wr ++ wRd cI cZ cJ rd_a (cb_a 0) rd ++ wCb cI cZ cJ cb_a w_a v_a cb ++ wMo cI cZ cJ mo_a mo' ++ wOu cI cZ cJ ou_a ou) H := pw_P hP (fun q hq => pm9.mem_iff.mpr hq)
    have hD : va_D A (wSd cI cZ cJ sd_a w_a v_a (wr_a 0) (rd_a 0) (cu_a 0) (sp_a 0) sd ++ wSy cI cZ cJ cu_a cu ++ wSy cI cZ cJ sp_a sp ++ wBr cI cZ cJ w_a w_b w ++ wBr cI cZ cJ v_a v_b v ++ wWr cI cZ cJ wr_a (cb_a 0) wr ++ wRd cI cZ cJ rd_a (cb_a 0) rd ++ wCb cI cZ cJ cb_a w_a v_a cb ++ wMo cI cZ cJ mo_a mo' ++ wOu cI cZ cJ ou_a ou) := pw_Dp hD pm9
    refine lv_iload hx hb d_law_707 (lv_at hl 1 rfl) ?_
    refine lv_icmp_eq (tgt := 714) hx hb d_law_709 (by decide) (fun _ => ?_) (fun h9 => absurd hcode h9)
    refine lv_iload hx hb d_law_714 (lv_at hl 1 rfl) ?_
    refine lv_if_ne (tgt := 731) hx hb d_law_716 (by decide) (fun _ => ?_) (fun h9 => absurd h9 (by decide))
    refine lv_goto (tgt := 1131) hx hb d_law_731 (by decide) ?_
    have hl := lv_sub (l' := [(0, .ref b), (1, .ref (sd_a 0)), (2, .ref (mo_a 0)), (3, .ref (ou_a 0)), (4, .int i)]) hl [2, 3, 4, 5, 6] rfl
    refine W.widen (k := j + 1 + Br_byL w + Br_byL v) (n := 6 * (j + 1) + 2 * Br_byL w + 2 * Br_byL v) (by omega) (by omega) ?_
    exact hk _ _ _ cu_a sp_a w_b v_b cu sp w v wr rd cb mo' ou hrel hP hD hS hl
set_option maxHeartbeats 8000000 in
set_option maxRecDepth 100000 in
theorem L_C_feed {p : Program} {l : Launch} {e : Env} {R : Room} {s : State} {m : MethodId} {args : Array Value} {below : List Frame} {meth : Method} {c : Code} {Q : State → Prop} {A : Nat → Prop} {dC : Nat → ClassId} {dI : Nat → Nat → Nat} {cI cZ cJ : ClassId} {sd_a cu_a sp_a : Nat → Nat} {w_a w_b v_a v_b : Nat} {wr_a rd_a cb_a mo_a ou_a : Nat → Nat} {sd : Sd} {cu sp : Sy} {w v : Br} {wr : Wr} {rd : Rd} {cb : Cb} {mo : Mo} {ou : Ou} {b L : Nat} {xs : Nat → Int32} {i : Int32} {j : Nat} {Rl : Sd → Sy → Sy → Br → Br → Wr → Rd → Cb → Mo → Prop} (hl9 : l.stackTraces = false) (C0 : lcx p c m s args R (dC, dI) (TYS cI cZ cJ) A b L xs i j) (hRb : ∀ sd cu sp w v wr rd cb mo, Rl sd cu sp w v wr rd cb mo → Br_byL w ≤ 40000 ∧ Br_byL v ≤ 40000) (hR0 : Rl sd cu sp w v wr rd cb mo) (hT0 : T_C_feed Rl sd cu sp w v wr rd cb mo (xs (i + 1).toNatClampNeg))
    (hk : ∀ (H : Heap) (locs : List Loc) (ls : Array Slot) (cu_a sp_a : Nat → Nat) (w_b v_b : Nat) (cu sp : Sy) (w v : Br) (wr : Wr) (rd : Rd) (cb : Cb) (mo : Mo) (ou : Ou), Rl sd cu sp w v wr rd cb mo → va_P (dC, dI) vwCl (wSd cI cZ cJ sd_a w_a v_a (wr_a 0) (rd_a 0) (cu_a 0) (sp_a 0) sd ++ wSy cI cZ cJ cu_a cu ++ wSy cI cZ cJ sp_a sp ++ wBr cI cZ cJ w_a w_b w ++ wBr cI cZ cJ v_a v_b v ++ wWr cI cZ cJ wr_a (cb_a 0) wr ++ wRd cI cZ cJ rd_a (cb_a 0) rd ++ wCb cI cZ cJ cb_a w_a v_a cb ++ wMo cI cZ cJ mo_a mo ++ wOu cI cZ cJ ou_a ou) H → va_D A (wSd cI cZ cJ sd_a w_a v_a (wr_a 0) (rd_a 0) (cu_a 0) (sp_a 0) sd ++ wSy cI cZ cJ cu_a cu ++ wSy cI cZ cJ sp_a sp ++ wBr cI cZ cJ w_a w_b w ++ wBr cI cZ cJ v_a v_b v ++ wWr cI cZ cJ wr_a (cb_a 0) wr ++ wRd cI cZ cJ rd_a (cb_a 0) rd ++ wCb cI cZ cJ cb_a w_a v_a cb ++ wMo cI cZ cJ mo_a mo ++ wOu cI cZ cJ ou_a ou) → va_S A s.heap H locs → lv_has ls 7 [(0, .ref b), (1, .ref (sd_a 0)), (2, .ref (mo_a 0)), (3, .ref (ou_a 0)), (4, .int i)] → W p l e R s m args below meth c H locs (j + 1 + Br_byL w + Br_byL v) (6 * (j + 1) + 2 * Br_byL w + 2 * Br_byL v) Q (F0 m 1131 ls []))
    {H : Heap} {locs : List Loc} {ls : Array Slot} (hP : va_P (dC, dI) vwCl (wSd cI cZ cJ sd_a w_a v_a (wr_a 0) (rd_a 0) (cu_a 0) (sp_a 0) sd ++ wSy cI cZ cJ cu_a cu ++ wSy cI cZ cJ sp_a sp ++ wBr cI cZ cJ w_a w_b w ++ wBr cI cZ cJ v_a v_b v ++ wWr cI cZ cJ wr_a (cb_a 0) wr ++ wRd cI cZ cJ rd_a (cb_a 0) rd ++ wCb cI cZ cJ cb_a w_a v_a cb ++ wMo cI cZ cJ mo_a mo ++ wOu cI cZ cJ ou_a ou) H) (hD : va_D A (wSd cI cZ cJ sd_a w_a v_a (wr_a 0) (rd_a 0) (cu_a 0) (sp_a 0) sd ++ wSy cI cZ cJ cu_a cu ++ wSy cI cZ cJ sp_a sp ++ wBr cI cZ cJ w_a w_b w ++ wBr cI cZ cJ v_a v_b v ++ wWr cI cZ cJ wr_a (cb_a 0) wr ++ wRd cI cZ cJ rd_a (cb_a 0) rd ++ wCb cI cZ cJ cb_a w_a v_a cb ++ wMo cI cZ cJ mo_a mo ++ wOu cI cZ cJ ou_a ou)) (hS : va_S A s.heap H locs) (hl : lv_has ls 7 [(0, .ref b), (1, .ref (sd_a 0)), (2, .ref (mo_a 0)), (3, .ref (ou_a 0)), (4, .int i)]) : W p l e R s m args below meth c H locs (j + Br_byL w + Br_byL v) (6 * j + 2 * Br_byL w + 2 * Br_byL v) Q (F0 m 734 ls []) := by
  obtain ⟨hx, hb, hml, hown, hts, hK, hA, hA2, hRf, hRl, hN, hT, hX, hX0, hbl, hin, hj, hRc, hRs⟩ := C0
  have hbA : ¬ A b := fun h => absurd (hA2 b h) (Nat.not_le.mpr hbl)
  obtain ⟨hw0, hv0⟩ := hRb _ _ _ _ _ _ _ _ _ hR0
  unfold T_C_feed at hT0
  rcases hT0 with ⟨r, v', mo', hf, hg, hcode, hrel⟩ | ⟨hf, q, mo', hg, hcode, hrel⟩ | ⟨hf, q, mo', hg, hcode, hrel⟩
  · obtain ⟨ou', heou⟩ : ∃ z : Ou, z = (vp_updL (Ou_f ou) 0 r.toInt64) := ⟨_, rfl⟩
    have hf1 : f_Law_feed sd v ou (xs (i + 1).toNatClampNeg) = some (0, v', ou') := by
      rw [f_Law_feed, hf, bd_s, heou]
      rfl
    have hou : Ou_f ou' (0 : Int32).toNatClampNeg = r.toInt64 := by rw [heou]; exact updL_at _ _ _
    refine lv_aload_n hx hb d_law_734 rfl (lv_at hl 1 rfl) ?_
    refine lv_aload_n hx hb d_law_735 rfl (lv_at hl 0 rfl) ?_
    refine lv_iload hx hb d_law_736 (lv_at hl 4 rfl) ?_
    refine lv_iconst (v := 1) hx hb d_law_738 (by decide) ?_
    refine lv_iadd hx hb d_law_739 ?_
    refine va_sld hx hb hX0 hbl hbA hS (hin 1 (by decide) (by decide)) d_law_740 ?_
    refine lv_aload_n hx hb d_law_741 rfl (lv_at hl 3 rfl) ?_
    have hm0 := mo_Law_feed _ hf1
    try dsimp only at hm0
    have hb9 := (hRb _ _ _ _ _ _ _ _ _ hrel).2
    have pm9 : ((wSd cI cZ cJ sd_a w_a v_a (wr_a 0) (rd_a 0) (cu_a 0) (sp_a 0) sd ++ wSy cI cZ cJ cu_a cu ++ wSy cI cZ cJ sp_a sp ++ wBr cI cZ cJ w_a w_b w ++ wBr cI cZ cJ v_a v_b v ++ wWr cI cZ cJ wr_a (cb_a 0) wr ++ wRd cI cZ cJ rd_a (cb_a 0) rd ++ wCb cI cZ cJ cb_a w_a v_a cb ++ wMo cI cZ cJ mo_a mo ++ wOu cI cZ cJ ou_a ou) : va_W).Perm ((wSd cI cZ cJ sd_a w_a v_a (wr_a 0) (rd_a 0) (cu_a 0) (sp_a 0) sd ++ wBr cI cZ cJ v_a v_b v ++ wOu cI cZ cJ ou_a ou) ++ (wSy cI cZ cJ cu_a cu ++ wSy cI cZ cJ sp_a sp ++ wBr cI cZ cJ w_a w_b w ++ wWr cI cZ cJ wr_a (cb_a 0) wr ++ wRd cI cZ cJ rd_a (cb_a 0) rd ++ wCb cI cZ cJ cb_a w_a v_a cb ++ wMo cI cZ cJ mo_a mo)) := pm_8 _ _ _ _ _ _ _ _ _ _
    have hPc := pw_P (ws' := (wSd cI cZ cJ sd_a w_a v_a (wr_a 0) (rd_a 0) (cu_a 0) (sp_a 0) sd ++ wBr cI cZ cJ v_a v_b v ++ wOu cI cZ cJ ou_a ou)) hP (fun q hq => pm9.mem_iff.mpr (List.mem_append_left _ hq))
    have hDc := pw_D (wc := (wSd cI cZ cJ sd_a w_a v_a (wr_a 0) (rd_a 0) (cu_a 0) (sp_a 0) sd ++ wBr cI cZ cJ v_a v_b v ++ wOu cI cZ cJ ou_a ou)) hD pm9
    have hFc := pw_free (wc := (wSd cI cZ cJ sd_a w_a v_a (wr_a 0) (rd_a 0) (cu_a 0) (sp_a 0) sd ++ wBr cI cZ cJ v_a v_b v ++ wOu cI cZ cJ ou_a ou)) hD hS hA (fun q hq => pm9.mem_iff.mpr (List.mem_append_left _ hq))
    refine va_calli (w_runS (As := [.ref (sd_a 0), .int (xs (i + 1).toNatClampNeg), .ref (ou_a 0)]) (rest := []) ⟨hx, hb, hml, hown, hts⟩ (k_Law_feed l dC dI cI cZ cJ sd_a v_a v_b ou_a w_a (wr_a 0) (rd_a 0) (cu_a 0) (sp_a 0) H.size hf1) (cwH_of 3 hts t_749 rfl rfl t_53 t_747 t_748 hd_Law_feed.2 ⟨Nat.le_trans (Nat.le_of_ble_eq_true rfl) hRf, Nat.le_trans (Nat.le_of_ble_eq_true rfl) hRl⟩) ⟨kP_blind, kP_at hPc hK hDc hN⟩ rfl rfl hl.1 rfl (lv_room (Nat.le_of_ble_eq_true rfl)) d_law_742 ⟨by omega, by omega⟩) hS (fun q _ h => hFc q h) hFc (fun r9 v_q1 t H1 locs ht hvm hw hB hz1 hk1 hS => ?_)
    rw [hw]
    obtain ⟨hP, hD⟩ := pw_join (wr := (wSy cI cZ cJ cu_a cu ++ wSy cI cZ cJ sp_a sp ++ wBr cI cZ cJ w_a w_b w ++ wWr cI cZ cJ wr_a (cb_a 0) wr ++ wRd cI cZ cJ rd_a (cb_a 0) rd ++ wCb cI cZ cJ cb_a w_a v_a cb ++ wMo cI cZ cJ mo_a mo)) (w1 := (wSd cI cZ cJ sd_a w_a v_a (wr_a 0) (rd_a 0) (cu_a 0) (sp_a 0) sd ++ wBr cI cZ cJ v_a v_q1 v' ++ wOu cI cZ cJ ou_a ou')) hP hD pm9 ht hk1 hFc hB
    generalize H1 = H at hP hS ⊢
    have pm9 : ((wSy cI cZ cJ cu_a cu ++ wSy cI cZ cJ sp_a sp ++ wBr cI cZ cJ w_a w_b w ++ wWr cI cZ cJ wr_a (cb_a 0) wr ++ wRd cI cZ cJ rd_a (cb_a 0) rd ++ wCb cI cZ cJ cb_a w_a v_a cb ++ wMo cI cZ cJ mo_a mo) ++ (wSd cI cZ cJ sd_a w_a v_a (wr_a 0) (rd_a 0) (cu_a 0) (sp_a 0) sd ++ wBr cI cZ cJ v_a v_q1 v' ++ wOu cI cZ cJ ou_a ou') : va_W).Perm (wSd cI cZ cJ sd_a w_a v_a (wr_a 0) (rd_a 0) (cu_a 0) (sp_a 0) sd ++ wSy cI cZ cJ cu_a cu ++ wSy cI cZ cJ sp_a sp ++ wBr cI cZ cJ w_a w_b w ++ wBr cI cZ cJ v_a v_q1 v' ++ wWr cI cZ cJ wr_a (cb_a 0) wr ++ wRd cI cZ cJ rd_a (cb_a 0) rd ++ wCb cI cZ cJ cb_a w_a v_a cb ++ wMo cI cZ cJ mo_a mo ++ wOu cI cZ cJ ou_a ou') := pm_9 _ _ _ _ _ _ _ _ _ _
    have hP : va_P (dC, dI) vwCl (wSd cI cZ cJ sd_a w_a v_a (wr_a 0) (rd_a 0) (cu_a 0) (sp_a 0) sd ++ wSy cI cZ cJ cu_a cu ++ wSy cI cZ cJ sp_a sp ++ wBr cI cZ cJ w_a w_b w ++ wBr cI cZ cJ v_a v_q1 v' ++ wWr cI cZ cJ wr_a (cb_a 0) wr ++ wRd cI cZ cJ rd_a (cb_a 0) rd ++ wCb cI cZ cJ cb_a w_a v_a cb ++ wMo cI cZ cJ mo_a mo ++ wOu cI cZ cJ ou_a ou') H := pw_P hP (fun q hq => pm9.mem_iff.mpr hq)
    have hD : va_D A (wSd cI cZ cJ sd_a w_a v_a (wr_a 0) (rd_a 0) (cu_a 0) (sp_a 0) sd ++ wSy cI cZ cJ cu_a cu ++ wSy cI cZ cJ sp_a sp ++ wBr cI cZ cJ w_a w_b w ++ wBr cI cZ cJ v_a v_q1 v' ++ wWr cI cZ cJ wr_a (cb_a 0) wr ++ wRd cI cZ cJ rd_a (cb_a 0) rd ++ wCb cI cZ cJ cb_a w_a v_a cb ++ wMo cI cZ cJ mo_a mo ++ wOu cI cZ cJ ou_a ou') := pw_Dp hD pm9
    refine lv_istore (lv' := [(5, .int 0), (0, .ref b), (1, .ref (sd_a 0)), (2, .ref (mo_a 0)), (3, .ref (ou_a 0)), (4, .int i)]) hx hb d_law_745 hl (by decide) rfl (fun ls hl => ?_)
    refine lv_aload_n hx hb d_law_747 rfl (lv_at hl 3 rfl) ?_
    refine lv_aload_n hx hb d_law_748 rfl (lv_at hl 1 rfl) ?_
    refine lv_iload hx hb d_law_749 (lv_at hl 5 rfl) ?_
    refine lv_iconst (v := 1) hx hb d_law_751 (by decide) ?_
    refine lv_iadd hx hb d_law_752 ?_
    refine va_sld hx hb hX0 hbl hbA hS (hin 1 (by decide) (by decide)) d_law_753 ?_
    have pm9 : ((wSd cI cZ cJ sd_a w_a v_a (wr_a 0) (rd_a 0) (cu_a 0) (sp_a 0) sd ++ wSy cI cZ cJ cu_a cu ++ wSy cI cZ cJ sp_a sp ++ wBr cI cZ cJ w_a w_b w ++ wBr cI cZ cJ v_a v_q1 v' ++ wWr cI cZ cJ wr_a (cb_a 0) wr ++ wRd cI cZ cJ rd_a (cb_a 0) rd ++ wCb cI cZ cJ cb_a w_a v_a cb ++ wMo cI cZ cJ mo_a mo ++ wOu cI cZ cJ ou_a ou') : va_W).Perm ((wMo cI cZ cJ mo_a mo) ++ (wSd cI cZ cJ sd_a w_a v_a (wr_a 0) (rd_a 0) (cu_a 0) (sp_a 0) sd ++ wSy cI cZ cJ cu_a cu ++ wSy cI cZ cJ sp_a sp ++ wBr cI cZ cJ w_a w_b w ++ wBr cI cZ cJ v_a v_q1 v' ++ wWr cI cZ cJ wr_a (cb_a 0) wr ++ wRd cI cZ cJ rd_a (cb_a 0) rd ++ wCb cI cZ cJ cb_a w_a v_a cb ++ wOu cI cZ cJ ou_a ou')) := pm_2 _ _ _ _ _ _ _ _ _ _
    have hPc := pw_P (ws' := (wMo cI cZ cJ mo_a mo)) hP (fun q hq => pm9.mem_iff.mpr (List.mem_append_left _ hq))
    have hDc := pw_D (wc := (wMo cI cZ cJ mo_a mo)) hD pm9
    have hFc := pw_free (wc := (wMo cI cZ cJ mo_a mo)) hD hS hA (fun q hq => pm9.mem_iff.mpr (List.mem_append_left _ hq))
    refine va_calli (va_runV (As := [.int (xs (i + 1).toNatClampNeg)]) (rest := []) ⟨hx, hb, hml, hown, hts⟩ (k_Model_feed l dC dI cI cZ cJ mo_a H.size hg) (cwV 1 hts (gV t_1039 t_1040 t_1041 t_63 t_1042) rfl rfl rfl hd_Model_feed ⟨Nat.le_trans (Nat.le_of_ble_eq_true rfl) hRf, Nat.le_trans (Nat.le_of_ble_eq_true rfl) hRl⟩) ⟨kP_blind, va_recv hK hPc (ci := 7) (q0 := 0) rfl rfl, kP_at hPc hK hDc hN⟩ rfl rfl hl.1 rfl (lv_room (Nat.le_of_ble_eq_true rfl)) d_law_754 ⟨by omega, by omega⟩) hS (fun q _ h => hFc q h) hFc (fun r9 u t H1 locs ht hvm hw hB hz1 hk1 hS => ?_)
    rw [hw]
    obtain ⟨hP, hD⟩ := pw_join (wr := (wSd cI cZ cJ sd_a w_a v_a (wr_a 0) (rd_a 0) (cu_a 0) (sp_a 0) sd ++ wSy cI cZ cJ cu_a cu ++ wSy cI cZ cJ sp_a sp ++ wBr cI cZ cJ w_a w_b w ++ wBr cI cZ cJ v_a v_q1 v' ++ wWr cI cZ cJ wr_a (cb_a 0) wr ++ wRd cI cZ cJ rd_a (cb_a 0) rd ++ wCb cI cZ cJ cb_a w_a v_a cb ++ wOu cI cZ cJ ou_a ou')) (w1 := (wMo cI cZ cJ mo_a mo')) hP hD pm9 ht hk1 hFc hB
    generalize H1 = H at hP hS ⊢
    have pm9 : ((wSd cI cZ cJ sd_a w_a v_a (wr_a 0) (rd_a 0) (cu_a 0) (sp_a 0) sd ++ wSy cI cZ cJ cu_a cu ++ wSy cI cZ cJ sp_a sp ++ wBr cI cZ cJ w_a w_b w ++ wBr cI cZ cJ v_a v_q1 v' ++ wWr cI cZ cJ wr_a (cb_a 0) wr ++ wRd cI cZ cJ rd_a (cb_a 0) rd ++ wCb cI cZ cJ cb_a w_a v_a cb ++ wOu cI cZ cJ ou_a ou') ++ (wMo cI cZ cJ mo_a mo') : va_W).Perm (wSd cI cZ cJ sd_a w_a v_a (wr_a 0) (rd_a 0) (cu_a 0) (sp_a 0) sd ++ wSy cI cZ cJ cu_a cu ++ wSy cI cZ cJ sp_a sp ++ wBr cI cZ cJ w_a w_b w ++ wBr cI cZ cJ v_a v_q1 v' ++ wWr cI cZ cJ wr_a (cb_a 0) wr ++ wRd cI cZ cJ rd_a (cb_a 0) rd ++ wCb cI cZ cJ cb_a w_a v_a cb ++ wMo cI cZ cJ mo_a mo' ++ wOu cI cZ cJ ou_a ou') := pm_3 _ _ _ _ _ _ _ _ _ _
    have hP : va_P (dC, dI) vwCl (wSd cI cZ cJ sd_a w_a v_a (wr_a 0) (rd_a 0) (cu_a 0) (sp_a 0) sd ++ wSy cI cZ cJ cu_a cu ++ wSy cI cZ cJ sp_a sp ++ wBr cI cZ cJ w_a w_b w ++ wBr cI cZ cJ v_a v_q1 v' ++ wWr cI cZ cJ wr_a (cb_a 0) wr ++ wRd cI cZ cJ rd_a (cb_a 0) rd ++ wCb cI cZ cJ cb_a w_a v_a cb ++ wMo cI cZ cJ mo_a mo' ++ wOu cI cZ cJ ou_a ou') H := pw_P hP (fun q hq => pm9.mem_iff.mpr hq)
    have hD : va_D A (wSd cI cZ cJ sd_a w_a v_a (wr_a 0) (rd_a 0) (cu_a 0) (sp_a 0) sd ++ wSy cI cZ cJ cu_a cu ++ wSy cI cZ cJ sp_a sp ++ wBr cI cZ cJ w_a w_b w ++ wBr cI cZ cJ v_a v_q1 v' ++ wWr cI cZ cJ wr_a (cb_a 0) wr ++ wRd cI cZ cJ rd_a (cb_a 0) rd ++ wCb cI cZ cJ cb_a w_a v_a cb ++ wMo cI cZ cJ mo_a mo' ++ wOu cI cZ cJ ou_a ou') := pw_Dp hD pm9
    refine lv_istore (lv' := [(6, .int r), (5, .int 0), (0, .ref b), (1, .ref (sd_a 0)), (2, .ref (mo_a 0)), (3, .ref (ou_a 0)), (4, .int i)]) hx hb d_law_757 hl (by decide) rfl (fun ls hl => ?_)
    refine lv_aload_n hx hb d_law_759 rfl (lv_at hl 4 rfl) ?_
    have hth : f_Model_thrown mo' = some (Mo_code mo') := rfl
    have pm9 : ((wSd cI cZ cJ sd_a w_a v_a (wr_a 0) (rd_a 0) (cu_a 0) (sp_a 0) sd ++ wSy cI cZ cJ cu_a cu ++ wSy cI cZ cJ sp_a sp ++ wBr cI cZ cJ w_a w_b w ++ wBr cI cZ cJ v_a v_q1 v' ++ wWr cI cZ cJ wr_a (cb_a 0) wr ++ wRd cI cZ cJ rd_a (cb_a 0) rd ++ wCb cI cZ cJ cb_a w_a v_a cb ++ wMo cI cZ cJ mo_a mo' ++ wOu cI cZ cJ ou_a ou') : va_W).Perm ((wMo cI cZ cJ mo_a mo') ++ (wSd cI cZ cJ sd_a w_a v_a (wr_a 0) (rd_a 0) (cu_a 0) (sp_a 0) sd ++ wSy cI cZ cJ cu_a cu ++ wSy cI cZ cJ sp_a sp ++ wBr cI cZ cJ w_a w_b w ++ wBr cI cZ cJ v_a v_q1 v' ++ wWr cI cZ cJ wr_a (cb_a 0) wr ++ wRd cI cZ cJ rd_a (cb_a 0) rd ++ wCb cI cZ cJ cb_a w_a v_a cb ++ wOu cI cZ cJ ou_a ou')) := pm_2 _ _ _ _ _ _ _ _ _ _
    have hPc := pw_P (ws' := (wMo cI cZ cJ mo_a mo')) hP (fun q hq => pm9.mem_iff.mpr (List.mem_append_left _ hq))
    have hDc := pw_D (wc := (wMo cI cZ cJ mo_a mo')) hD pm9
    have hFc := pw_free (wc := (wMo cI cZ cJ mo_a mo')) hD hS hA (fun q hq => pm9.mem_iff.mpr (List.mem_append_left _ hq))
    refine va_calli (va_runV (As := []) (rest := []) ⟨hx, hb, hml, hown, hts⟩ (k_Model_thrown l dC dI cI cZ cJ mo_a H.size hth) (cwV 0 hts (gV t_906 t_907 t_908 t_63 t_909) rfl rfl rfl hd_Model_thrown ⟨Nat.le_trans (Nat.le_of_ble_eq_true rfl) hRf, Nat.le_trans (Nat.le_of_ble_eq_true rfl) hRl⟩) ⟨kP_blind, va_recv hK hPc (ci := 7) (q0 := 0) rfl rfl, kP_at hPc hK hDc hN⟩ rfl rfl hl.1 rfl (lv_room (Nat.le_of_ble_eq_true rfl)) d_law_760 ⟨by omega, by omega⟩) hS (fun q _ h => hFc q h) hFc (fun r9 u t H1 locs ht hvm hw hB hz1 hk1 hS => ?_)
    rw [hw]
    obtain ⟨hP, hD⟩ := pw_join (wr := (wSd cI cZ cJ sd_a w_a v_a (wr_a 0) (rd_a 0) (cu_a 0) (sp_a 0) sd ++ wSy cI cZ cJ cu_a cu ++ wSy cI cZ cJ sp_a sp ++ wBr cI cZ cJ w_a w_b w ++ wBr cI cZ cJ v_a v_q1 v' ++ wWr cI cZ cJ wr_a (cb_a 0) wr ++ wRd cI cZ cJ rd_a (cb_a 0) rd ++ wCb cI cZ cJ cb_a w_a v_a cb ++ wOu cI cZ cJ ou_a ou')) (w1 := (wMo cI cZ cJ mo_a mo')) hP hD pm9 ht hk1 hFc hB
    generalize H1 = H at hP hS ⊢
    have pm9 : ((wSd cI cZ cJ sd_a w_a v_a (wr_a 0) (rd_a 0) (cu_a 0) (sp_a 0) sd ++ wSy cI cZ cJ cu_a cu ++ wSy cI cZ cJ sp_a sp ++ wBr cI cZ cJ w_a w_b w ++ wBr cI cZ cJ v_a v_q1 v' ++ wWr cI cZ cJ wr_a (cb_a 0) wr ++ wRd cI cZ cJ rd_a (cb_a 0) rd ++ wCb cI cZ cJ cb_a w_a v_a cb ++ wOu cI cZ cJ ou_a ou') ++ (wMo cI cZ cJ mo_a mo') : va_W).Perm (wSd cI cZ cJ sd_a w_a v_a (wr_a 0) (rd_a 0) (cu_a 0) (sp_a 0) sd ++ wSy cI cZ cJ cu_a cu ++ wSy cI cZ cJ sp_a sp ++ wBr cI cZ cJ w_a w_b w ++ wBr cI cZ cJ v_a v_q1 v' ++ wWr cI cZ cJ wr_a (cb_a 0) wr ++ wRd cI cZ cJ rd_a (cb_a 0) rd ++ wCb cI cZ cJ cb_a w_a v_a cb ++ wMo cI cZ cJ mo_a mo' ++ wOu cI cZ cJ ou_a ou') := pm_3 _ _ _ _ _ _ _ _ _ _
    have hP : va_P (dC, dI) vwCl (wSd cI cZ cJ sd_a w_a v_a (wr_a 0) (rd_a 0) (cu_a 0) (sp_a 0) sd ++ wSy cI cZ cJ cu_a cu ++ wSy cI cZ cJ sp_a sp ++ wBr cI cZ cJ w_a w_b w ++ wBr cI cZ cJ v_a v_q1 v' ++ wWr cI cZ cJ wr_a (cb_a 0) wr ++ wRd cI cZ cJ rd_a (cb_a 0) rd ++ wCb cI cZ cJ cb_a w_a v_a cb ++ wMo cI cZ cJ mo_a mo' ++ wOu cI cZ cJ ou_a ou') H := pw_P hP (fun q hq => pm9.mem_iff.mpr hq)
    have hD : va_D A (wSd cI cZ cJ sd_a w_a v_a (wr_a 0) (rd_a 0) (cu_a 0) (sp_a 0) sd ++ wSy cI cZ cJ cu_a cu ++ wSy cI cZ cJ sp_a sp ++ wBr cI cZ cJ w_a w_b w ++ wBr cI cZ cJ v_a v_q1 v' ++ wWr cI cZ cJ wr_a (cb_a 0) wr ++ wRd cI cZ cJ rd_a (cb_a 0) rd ++ wCb cI cZ cJ cb_a w_a v_a cb ++ wMo cI cZ cJ mo_a mo' ++ wOu cI cZ cJ ou_a ou') := pw_Dp hD pm9
    refine lv_iload hx hb d_law_763 (lv_at hl 1 rfl) ?_
    refine lv_icmp_eq (tgt := 770) hx hb d_law_765 (by decide) (fun _ => ?_) (fun h9 => absurd hcode h9)
    refine lv_iload hx hb d_law_770 (lv_at hl 1 rfl) ?_
    refine lv_if_ne (tgt := 787) hx hb d_law_772 (by decide) (fun h9 => absurd rfl h9) (fun _ => ?_)
    refine lv_aload_n hx hb d_law_775 rfl (lv_at hl 5 rfl) ?_
    refine lv_iconst (v := 0) hx hb d_law_776 (by decide) ?_
    refine va_lald (f := Ou_f ou') hx hb hK hP 47 2 rfl rfl (inb_in (by decide)) d_law_777 ?_
    refine lv_iload hx hb d_law_778 (lv_at hl 0 rfl) ?_
    refine lv_i2l (v := r.toInt64) hx hb d_law_780 rfl ?_
    refine W.lcmp hx hb d_law_781 ?_
    refine lv_if_eq (tgt := 787) hx hb d_law_782 (by decide) (fun _ => ?_) (fun h9 => absurd (by rw [hou]; exact cmp_self _) h9)
    refine lv_goto (tgt := 1131) hx hb d_law_787 (by decide) ?_
    have hl := lv_sub (l' := [(0, .ref b), (1, .ref (sd_a 0)), (2, .ref (mo_a 0)), (3, .ref (ou_a 0)), (4, .int i)]) hl [2, 3, 4, 5, 6] rfl
    refine W.widen (k := j + 1 + Br_byL w + Br_byL v') (n := 6 * (j + 1) + 2 * Br_byL w + 2 * Br_byL v') (by omega) (by omega) ?_
    exact hk _ _ _ cu_a sp_a w_b v_q1 cu sp w v' wr rd cb mo' ou' hrel hP hD hS hl
  · refine lv_aload_n hx hb d_law_734 rfl (lv_at hl 1 rfl) ?_
    refine lv_aload_n hx hb d_law_735 rfl (lv_at hl 0 rfl) ?_
    refine lv_iload hx hb d_law_736 (lv_at hl 4 rfl) ?_
    refine lv_iconst (v := 1) hx hb d_law_738 (by decide) ?_
    refine lv_iadd hx hb d_law_739 ?_
    refine va_sld hx hb hX0 hbl hbA hS (hin 1 (by decide) (by decide)) d_law_740 ?_
    refine lv_aload_n hx hb d_law_741 rfl (lv_at hl 3 rfl) ?_
    have pm9 : ((wSd cI cZ cJ sd_a w_a v_a (wr_a 0) (rd_a 0) (cu_a 0) (sp_a 0) sd ++ wSy cI cZ cJ cu_a cu ++ wSy cI cZ cJ sp_a sp ++ wBr cI cZ cJ w_a w_b w ++ wBr cI cZ cJ v_a v_b v ++ wWr cI cZ cJ wr_a (cb_a 0) wr ++ wRd cI cZ cJ rd_a (cb_a 0) rd ++ wCb cI cZ cJ cb_a w_a v_a cb ++ wMo cI cZ cJ mo_a mo ++ wOu cI cZ cJ ou_a ou) : va_W).Perm ((wSd cI cZ cJ sd_a w_a v_a (wr_a 0) (rd_a 0) (cu_a 0) (sp_a 0) sd ++ wBr cI cZ cJ v_a v_b v ++ wOu cI cZ cJ ou_a ou) ++ (wSy cI cZ cJ cu_a cu ++ wSy cI cZ cJ sp_a sp ++ wBr cI cZ cJ w_a w_b w ++ wWr cI cZ cJ wr_a (cb_a 0) wr ++ wRd cI cZ cJ rd_a (cb_a 0) rd ++ wCb cI cZ cJ cb_a w_a v_a cb ++ wMo cI cZ cJ mo_a mo)) := pm_8 _ _ _ _ _ _ _ _ _ _
    have hPc := pw_P (ws' := (wSd cI cZ cJ sd_a w_a v_a (wr_a 0) (rd_a 0) (cu_a 0) (sp_a 0) sd ++ wBr cI cZ cJ v_a v_b v ++ wOu cI cZ cJ ou_a ou)) hP (fun q hq => pm9.mem_iff.mpr (List.mem_append_left _ hq))
    have hDc := pw_D (wc := (wSd cI cZ cJ sd_a w_a v_a (wr_a 0) (rd_a 0) (cu_a 0) (sp_a 0) sd ++ wBr cI cZ cJ v_a v_b v ++ wOu cI cZ cJ ou_a ou)) hD pm9
    have hFc := pw_free (wc := (wSd cI cZ cJ sd_a w_a v_a (wr_a 0) (rd_a 0) (cu_a 0) (sp_a 0) sd ++ wBr cI cZ cJ v_a v_b v ++ wOu cI cZ cJ ou_a ou)) hD hS hA (fun q hq => pm9.mem_iff.mpr (List.mem_append_left _ hq))
    refine va_calli (w_runS (As := [.ref (sd_a 0), .int (xs (i + 1).toNatClampNeg), .ref (ou_a 0)]) (rest := []) ⟨hx, hb, hml, hown, hts⟩ (kx_Law_feed_1 l hl9 dC dI cI cZ cJ sd_a v_a v_b ou_a w_a (wr_a 0) (rd_a 0) (cu_a 0) (sp_a 0) H.size hf) (cwH_of 3 hts t_749 rfl rfl t_53 t_747 t_748 hd_Law_feed.2 ⟨Nat.le_trans (Nat.le_of_ble_eq_true rfl) hRf, Nat.le_trans (Nat.le_of_ble_eq_true rfl) hRl⟩) ⟨kPX_blind, kPX_at hPc hK hDc hN (fun q hq => hS.2.1 q hq (fun h9 => absurd (hA2 q h9) (Nat.not_le.mpr hq))) hT hX⟩ rfl rfl hl.1 rfl (lv_room (Nat.le_of_ble_eq_true rfl)) d_law_742 ⟨by omega, by omega⟩) hS (fun q _ h => hFc q h) hFc (fun r9 u t H1 locs ht hvm hw hB hz1 hk1 hS => ?_)
    rw [hw]
    obtain ⟨hP, hD⟩ := pw_join (wr := (wSy cI cZ cJ cu_a cu ++ wSy cI cZ cJ sp_a sp ++ wBr cI cZ cJ w_a w_b w ++ wWr cI cZ cJ wr_a (cb_a 0) wr ++ wRd cI cZ cJ rd_a (cb_a 0) rd ++ wCb cI cZ cJ cb_a w_a v_a cb ++ wMo cI cZ cJ mo_a mo)) (w1 := (wSd cI cZ cJ sd_a w_a v_a (wr_a 0) (rd_a 0) (cu_a 0) (sp_a 0) sd ++ wBr cI cZ cJ v_a v_b v ++ wOu cI cZ cJ ou_a ou)) hP hD pm9 ht hk1 hFc hB
    generalize H1 = H at hP hS ⊢
    have pm9 : ((wSy cI cZ cJ cu_a cu ++ wSy cI cZ cJ sp_a sp ++ wBr cI cZ cJ w_a w_b w ++ wWr cI cZ cJ wr_a (cb_a 0) wr ++ wRd cI cZ cJ rd_a (cb_a 0) rd ++ wCb cI cZ cJ cb_a w_a v_a cb ++ wMo cI cZ cJ mo_a mo) ++ (wSd cI cZ cJ sd_a w_a v_a (wr_a 0) (rd_a 0) (cu_a 0) (sp_a 0) sd ++ wBr cI cZ cJ v_a v_b v ++ wOu cI cZ cJ ou_a ou) : va_W).Perm (wSd cI cZ cJ sd_a w_a v_a (wr_a 0) (rd_a 0) (cu_a 0) (sp_a 0) sd ++ wSy cI cZ cJ cu_a cu ++ wSy cI cZ cJ sp_a sp ++ wBr cI cZ cJ w_a w_b w ++ wBr cI cZ cJ v_a v_b v ++ wWr cI cZ cJ wr_a (cb_a 0) wr ++ wRd cI cZ cJ rd_a (cb_a 0) rd ++ wCb cI cZ cJ cb_a w_a v_a cb ++ wMo cI cZ cJ mo_a mo ++ wOu cI cZ cJ ou_a ou) := pm_9 _ _ _ _ _ _ _ _ _ _
    have hP : va_P (dC, dI) vwCl (wSd cI cZ cJ sd_a w_a v_a (wr_a 0) (rd_a 0) (cu_a 0) (sp_a 0) sd ++ wSy cI cZ cJ cu_a cu ++ wSy cI cZ cJ sp_a sp ++ wBr cI cZ cJ w_a w_b w ++ wBr cI cZ cJ v_a v_b v ++ wWr cI cZ cJ wr_a (cb_a 0) wr ++ wRd cI cZ cJ rd_a (cb_a 0) rd ++ wCb cI cZ cJ cb_a w_a v_a cb ++ wMo cI cZ cJ mo_a mo ++ wOu cI cZ cJ ou_a ou) H := pw_P hP (fun q hq => pm9.mem_iff.mpr hq)
    have hD : va_D A (wSd cI cZ cJ sd_a w_a v_a (wr_a 0) (rd_a 0) (cu_a 0) (sp_a 0) sd ++ wSy cI cZ cJ cu_a cu ++ wSy cI cZ cJ sp_a sp ++ wBr cI cZ cJ w_a w_b w ++ wBr cI cZ cJ v_a v_b v ++ wWr cI cZ cJ wr_a (cb_a 0) wr ++ wRd cI cZ cJ rd_a (cb_a 0) rd ++ wCb cI cZ cJ cb_a w_a v_a cb ++ wMo cI cZ cJ mo_a mo ++ wOu cI cZ cJ ou_a ou) := pw_Dp hD pm9
    refine lv_istore (lv' := [(5, .int 1), (0, .ref b), (1, .ref (sd_a 0)), (2, .ref (mo_a 0)), (3, .ref (ou_a 0)), (4, .int i)]) hx hb d_law_745 hl (by decide) rfl (fun ls hl => ?_)
    refine lv_aload_n hx hb d_law_747 rfl (lv_at hl 3 rfl) ?_
    refine lv_aload_n hx hb d_law_748 rfl (lv_at hl 1 rfl) ?_
    refine lv_iload hx hb d_law_749 (lv_at hl 5 rfl) ?_
    refine lv_iconst (v := 1) hx hb d_law_751 (by decide) ?_
    refine lv_iadd hx hb d_law_752 ?_
    refine va_sld hx hb hX0 hbl hbA hS (hin 1 (by decide) (by decide)) d_law_753 ?_
    have pm9 : ((wSd cI cZ cJ sd_a w_a v_a (wr_a 0) (rd_a 0) (cu_a 0) (sp_a 0) sd ++ wSy cI cZ cJ cu_a cu ++ wSy cI cZ cJ sp_a sp ++ wBr cI cZ cJ w_a w_b w ++ wBr cI cZ cJ v_a v_b v ++ wWr cI cZ cJ wr_a (cb_a 0) wr ++ wRd cI cZ cJ rd_a (cb_a 0) rd ++ wCb cI cZ cJ cb_a w_a v_a cb ++ wMo cI cZ cJ mo_a mo ++ wOu cI cZ cJ ou_a ou) : va_W).Perm ((wMo cI cZ cJ mo_a mo) ++ (wSd cI cZ cJ sd_a w_a v_a (wr_a 0) (rd_a 0) (cu_a 0) (sp_a 0) sd ++ wSy cI cZ cJ cu_a cu ++ wSy cI cZ cJ sp_a sp ++ wBr cI cZ cJ w_a w_b w ++ wBr cI cZ cJ v_a v_b v ++ wWr cI cZ cJ wr_a (cb_a 0) wr ++ wRd cI cZ cJ rd_a (cb_a 0) rd ++ wCb cI cZ cJ cb_a w_a v_a cb ++ wOu cI cZ cJ ou_a ou)) := pm_2 _ _ _ _ _ _ _ _ _ _
    have hPc := pw_P (ws' := (wMo cI cZ cJ mo_a mo)) hP (fun q hq => pm9.mem_iff.mpr (List.mem_append_left _ hq))
    have hDc := pw_D (wc := (wMo cI cZ cJ mo_a mo)) hD pm9
    have hFc := pw_free (wc := (wMo cI cZ cJ mo_a mo)) hD hS hA (fun q hq => pm9.mem_iff.mpr (List.mem_append_left _ hq))
    refine va_calli (va_runV (As := [.int (xs (i + 1).toNatClampNeg)]) (rest := []) ⟨hx, hb, hml, hown, hts⟩ (k_Model_feed l dC dI cI cZ cJ mo_a H.size hg) (cwV 1 hts (gV t_1039 t_1040 t_1041 t_63 t_1042) rfl rfl rfl hd_Model_feed ⟨Nat.le_trans (Nat.le_of_ble_eq_true rfl) hRf, Nat.le_trans (Nat.le_of_ble_eq_true rfl) hRl⟩) ⟨kP_blind, va_recv hK hPc (ci := 7) (q0 := 0) rfl rfl, kP_at hPc hK hDc hN⟩ rfl rfl hl.1 rfl (lv_room (Nat.le_of_ble_eq_true rfl)) d_law_754 ⟨by omega, by omega⟩) hS (fun q _ h => hFc q h) hFc (fun r9 u t H1 locs ht hvm hw hB hz1 hk1 hS => ?_)
    rw [hw]
    obtain ⟨hP, hD⟩ := pw_join (wr := (wSd cI cZ cJ sd_a w_a v_a (wr_a 0) (rd_a 0) (cu_a 0) (sp_a 0) sd ++ wSy cI cZ cJ cu_a cu ++ wSy cI cZ cJ sp_a sp ++ wBr cI cZ cJ w_a w_b w ++ wBr cI cZ cJ v_a v_b v ++ wWr cI cZ cJ wr_a (cb_a 0) wr ++ wRd cI cZ cJ rd_a (cb_a 0) rd ++ wCb cI cZ cJ cb_a w_a v_a cb ++ wOu cI cZ cJ ou_a ou)) (w1 := (wMo cI cZ cJ mo_a mo')) hP hD pm9 ht hk1 hFc hB
    generalize H1 = H at hP hS ⊢
    have pm9 : ((wSd cI cZ cJ sd_a w_a v_a (wr_a 0) (rd_a 0) (cu_a 0) (sp_a 0) sd ++ wSy cI cZ cJ cu_a cu ++ wSy cI cZ cJ sp_a sp ++ wBr cI cZ cJ w_a w_b w ++ wBr cI cZ cJ v_a v_b v ++ wWr cI cZ cJ wr_a (cb_a 0) wr ++ wRd cI cZ cJ rd_a (cb_a 0) rd ++ wCb cI cZ cJ cb_a w_a v_a cb ++ wOu cI cZ cJ ou_a ou) ++ (wMo cI cZ cJ mo_a mo') : va_W).Perm (wSd cI cZ cJ sd_a w_a v_a (wr_a 0) (rd_a 0) (cu_a 0) (sp_a 0) sd ++ wSy cI cZ cJ cu_a cu ++ wSy cI cZ cJ sp_a sp ++ wBr cI cZ cJ w_a w_b w ++ wBr cI cZ cJ v_a v_b v ++ wWr cI cZ cJ wr_a (cb_a 0) wr ++ wRd cI cZ cJ rd_a (cb_a 0) rd ++ wCb cI cZ cJ cb_a w_a v_a cb ++ wMo cI cZ cJ mo_a mo' ++ wOu cI cZ cJ ou_a ou) := pm_3 _ _ _ _ _ _ _ _ _ _
    have hP : va_P (dC, dI) vwCl (wSd cI cZ cJ sd_a w_a v_a (wr_a 0) (rd_a 0) (cu_a 0) (sp_a 0) sd ++ wSy cI cZ cJ cu_a cu ++ wSy cI cZ cJ sp_a sp ++ wBr cI cZ cJ w_a w_b w ++ wBr cI cZ cJ v_a v_b v ++ wWr cI cZ cJ wr_a (cb_a 0) wr ++ wRd cI cZ cJ rd_a (cb_a 0) rd ++ wCb cI cZ cJ cb_a w_a v_a cb ++ wMo cI cZ cJ mo_a mo' ++ wOu cI cZ cJ ou_a ou) H := pw_P hP (fun q hq => pm9.mem_iff.mpr hq)
    have hD : va_D A (wSd cI cZ cJ sd_a w_a v_a (wr_a 0) (rd_a 0) (cu_a 0) (sp_a 0) sd ++ wSy cI cZ cJ cu_a cu ++ wSy cI cZ cJ sp_a sp ++ wBr cI cZ cJ w_a w_b w ++ wBr cI cZ cJ v_a v_b v ++ wWr cI cZ cJ wr_a (cb_a 0) wr ++ wRd cI cZ cJ rd_a (cb_a 0) rd ++ wCb cI cZ cJ cb_a w_a v_a cb ++ wMo cI cZ cJ mo_a mo' ++ wOu cI cZ cJ ou_a ou) := pw_Dp hD pm9
    refine lv_istore (lv' := [(6, .int q), (5, .int 1), (0, .ref b), (1, .ref (sd_a 0)), (2, .ref (mo_a 0)), (3, .ref (ou_a 0)), (4, .int i)]) hx hb d_law_757 hl (by decide) rfl (fun ls hl => ?_)
    refine lv_aload_n hx hb d_law_759 rfl (lv_at hl 4 rfl) ?_
    have hth : f_Model_thrown mo' = some (Mo_code mo') := rfl
    have pm9 : ((wSd cI cZ cJ sd_a w_a v_a (wr_a 0) (rd_a 0) (cu_a 0) (sp_a 0) sd ++ wSy cI cZ cJ cu_a cu ++ wSy cI cZ cJ sp_a sp ++ wBr cI cZ cJ w_a w_b w ++ wBr cI cZ cJ v_a v_b v ++ wWr cI cZ cJ wr_a (cb_a 0) wr ++ wRd cI cZ cJ rd_a (cb_a 0) rd ++ wCb cI cZ cJ cb_a w_a v_a cb ++ wMo cI cZ cJ mo_a mo' ++ wOu cI cZ cJ ou_a ou) : va_W).Perm ((wMo cI cZ cJ mo_a mo') ++ (wSd cI cZ cJ sd_a w_a v_a (wr_a 0) (rd_a 0) (cu_a 0) (sp_a 0) sd ++ wSy cI cZ cJ cu_a cu ++ wSy cI cZ cJ sp_a sp ++ wBr cI cZ cJ w_a w_b w ++ wBr cI cZ cJ v_a v_b v ++ wWr cI cZ cJ wr_a (cb_a 0) wr ++ wRd cI cZ cJ rd_a (cb_a 0) rd ++ wCb cI cZ cJ cb_a w_a v_a cb ++ wOu cI cZ cJ ou_a ou)) := pm_2 _ _ _ _ _ _ _ _ _ _
    have hPc := pw_P (ws' := (wMo cI cZ cJ mo_a mo')) hP (fun q hq => pm9.mem_iff.mpr (List.mem_append_left _ hq))
    have hDc := pw_D (wc := (wMo cI cZ cJ mo_a mo')) hD pm9
    have hFc := pw_free (wc := (wMo cI cZ cJ mo_a mo')) hD hS hA (fun q hq => pm9.mem_iff.mpr (List.mem_append_left _ hq))
    refine va_calli (va_runV (As := []) (rest := []) ⟨hx, hb, hml, hown, hts⟩ (k_Model_thrown l dC dI cI cZ cJ mo_a H.size hth) (cwV 0 hts (gV t_906 t_907 t_908 t_63 t_909) rfl rfl rfl hd_Model_thrown ⟨Nat.le_trans (Nat.le_of_ble_eq_true rfl) hRf, Nat.le_trans (Nat.le_of_ble_eq_true rfl) hRl⟩) ⟨kP_blind, va_recv hK hPc (ci := 7) (q0 := 0) rfl rfl, kP_at hPc hK hDc hN⟩ rfl rfl hl.1 rfl (lv_room (Nat.le_of_ble_eq_true rfl)) d_law_760 ⟨by omega, by omega⟩) hS (fun q _ h => hFc q h) hFc (fun r9 u t H1 locs ht hvm hw hB hz1 hk1 hS => ?_)
    rw [hw]
    obtain ⟨hP, hD⟩ := pw_join (wr := (wSd cI cZ cJ sd_a w_a v_a (wr_a 0) (rd_a 0) (cu_a 0) (sp_a 0) sd ++ wSy cI cZ cJ cu_a cu ++ wSy cI cZ cJ sp_a sp ++ wBr cI cZ cJ w_a w_b w ++ wBr cI cZ cJ v_a v_b v ++ wWr cI cZ cJ wr_a (cb_a 0) wr ++ wRd cI cZ cJ rd_a (cb_a 0) rd ++ wCb cI cZ cJ cb_a w_a v_a cb ++ wOu cI cZ cJ ou_a ou)) (w1 := (wMo cI cZ cJ mo_a mo')) hP hD pm9 ht hk1 hFc hB
    generalize H1 = H at hP hS ⊢
    have pm9 : ((wSd cI cZ cJ sd_a w_a v_a (wr_a 0) (rd_a 0) (cu_a 0) (sp_a 0) sd ++ wSy cI cZ cJ cu_a cu ++ wSy cI cZ cJ sp_a sp ++ wBr cI cZ cJ w_a w_b w ++ wBr cI cZ cJ v_a v_b v ++ wWr cI cZ cJ wr_a (cb_a 0) wr ++ wRd cI cZ cJ rd_a (cb_a 0) rd ++ wCb cI cZ cJ cb_a w_a v_a cb ++ wOu cI cZ cJ ou_a ou) ++ (wMo cI cZ cJ mo_a mo') : va_W).Perm (wSd cI cZ cJ sd_a w_a v_a (wr_a 0) (rd_a 0) (cu_a 0) (sp_a 0) sd ++ wSy cI cZ cJ cu_a cu ++ wSy cI cZ cJ sp_a sp ++ wBr cI cZ cJ w_a w_b w ++ wBr cI cZ cJ v_a v_b v ++ wWr cI cZ cJ wr_a (cb_a 0) wr ++ wRd cI cZ cJ rd_a (cb_a 0) rd ++ wCb cI cZ cJ cb_a w_a v_a cb ++ wMo cI cZ cJ mo_a mo' ++ wOu cI cZ cJ ou_a ou) := pm_3 _ _ _ _ _ _ _ _ _ _
    have hP : va_P (dC, dI) vwCl (wSd cI cZ cJ sd_a w_a v_a (wr_a 0) (rd_a 0) (cu_a 0) (sp_a 0) sd ++ wSy cI cZ cJ cu_a cu ++ wSy cI cZ cJ sp_a sp ++ wBr cI cZ cJ w_a w_b w ++ wBr cI cZ cJ v_a v_b v ++ wWr cI cZ cJ wr_a (cb_a 0) wr ++ wRd cI cZ cJ rd_a (cb_a 0) rd ++ wCb cI cZ cJ cb_a w_a v_a cb ++ wMo cI cZ cJ mo_a mo' ++ wOu cI cZ cJ ou_a ou) H := pw_P hP (fun q hq => pm9.mem_iff.mpr hq)
    have hD : va_D A (wSd cI cZ cJ sd_a w_a v_a (wr_a 0) (rd_a 0) (cu_a 0) (sp_a 0) sd ++ wSy cI cZ cJ cu_a cu ++ wSy cI cZ cJ sp_a sp ++ wBr cI cZ cJ w_a w_b w ++ wBr cI cZ cJ v_a v_b v ++ wWr cI cZ cJ wr_a (cb_a 0) wr ++ wRd cI cZ cJ rd_a (cb_a 0) rd ++ wCb cI cZ cJ cb_a w_a v_a cb ++ wMo cI cZ cJ mo_a mo' ++ wOu cI cZ cJ ou_a ou) := pw_Dp hD pm9
    refine lv_iload hx hb d_law_763 (lv_at hl 1 rfl) ?_
    refine lv_icmp_eq (tgt := 770) hx hb d_law_765 (by decide) (fun _ => ?_) (fun h9 => absurd hcode h9)
    refine lv_iload hx hb d_law_770 (lv_at hl 1 rfl) ?_
    refine lv_if_ne (tgt := 787) hx hb d_law_772 (by decide) (fun _ => ?_) (fun h9 => absurd h9 (by decide))
    refine lv_goto (tgt := 1131) hx hb d_law_787 (by decide) ?_
    have hl := lv_sub (l' := [(0, .ref b), (1, .ref (sd_a 0)), (2, .ref (mo_a 0)), (3, .ref (ou_a 0)), (4, .int i)]) hl [2, 3, 4, 5, 6] rfl
    refine W.widen (k := j + 1 + Br_byL w + Br_byL v) (n := 6 * (j + 1) + 2 * Br_byL w + 2 * Br_byL v) (by omega) (by omega) ?_
    exact hk _ _ _ cu_a sp_a w_b v_b cu sp w v wr rd cb mo' ou hrel hP hD hS hl
  · refine lv_aload_n hx hb d_law_734 rfl (lv_at hl 1 rfl) ?_
    refine lv_aload_n hx hb d_law_735 rfl (lv_at hl 0 rfl) ?_
    refine lv_iload hx hb d_law_736 (lv_at hl 4 rfl) ?_
    refine lv_iconst (v := 1) hx hb d_law_738 (by decide) ?_
    refine lv_iadd hx hb d_law_739 ?_
    refine va_sld hx hb hX0 hbl hbA hS (hin 1 (by decide) (by decide)) d_law_740 ?_
    refine lv_aload_n hx hb d_law_741 rfl (lv_at hl 3 rfl) ?_
    have pm9 : ((wSd cI cZ cJ sd_a w_a v_a (wr_a 0) (rd_a 0) (cu_a 0) (sp_a 0) sd ++ wSy cI cZ cJ cu_a cu ++ wSy cI cZ cJ sp_a sp ++ wBr cI cZ cJ w_a w_b w ++ wBr cI cZ cJ v_a v_b v ++ wWr cI cZ cJ wr_a (cb_a 0) wr ++ wRd cI cZ cJ rd_a (cb_a 0) rd ++ wCb cI cZ cJ cb_a w_a v_a cb ++ wMo cI cZ cJ mo_a mo ++ wOu cI cZ cJ ou_a ou) : va_W).Perm ((wSd cI cZ cJ sd_a w_a v_a (wr_a 0) (rd_a 0) (cu_a 0) (sp_a 0) sd ++ wBr cI cZ cJ v_a v_b v ++ wOu cI cZ cJ ou_a ou) ++ (wSy cI cZ cJ cu_a cu ++ wSy cI cZ cJ sp_a sp ++ wBr cI cZ cJ w_a w_b w ++ wWr cI cZ cJ wr_a (cb_a 0) wr ++ wRd cI cZ cJ rd_a (cb_a 0) rd ++ wCb cI cZ cJ cb_a w_a v_a cb ++ wMo cI cZ cJ mo_a mo)) := pm_8 _ _ _ _ _ _ _ _ _ _
    have hPc := pw_P (ws' := (wSd cI cZ cJ sd_a w_a v_a (wr_a 0) (rd_a 0) (cu_a 0) (sp_a 0) sd ++ wBr cI cZ cJ v_a v_b v ++ wOu cI cZ cJ ou_a ou)) hP (fun q hq => pm9.mem_iff.mpr (List.mem_append_left _ hq))
    have hDc := pw_D (wc := (wSd cI cZ cJ sd_a w_a v_a (wr_a 0) (rd_a 0) (cu_a 0) (sp_a 0) sd ++ wBr cI cZ cJ v_a v_b v ++ wOu cI cZ cJ ou_a ou)) hD pm9
    have hFc := pw_free (wc := (wSd cI cZ cJ sd_a w_a v_a (wr_a 0) (rd_a 0) (cu_a 0) (sp_a 0) sd ++ wBr cI cZ cJ v_a v_b v ++ wOu cI cZ cJ ou_a ou)) hD hS hA (fun q hq => pm9.mem_iff.mpr (List.mem_append_left _ hq))
    refine va_calli (w_runS (As := [.ref (sd_a 0), .int (xs (i + 1).toNatClampNeg), .ref (ou_a 0)]) (rest := []) ⟨hx, hb, hml, hown, hts⟩ (kx_Law_feed_4 l hl9 dC dI cI cZ cJ sd_a v_a v_b ou_a w_a (wr_a 0) (rd_a 0) (cu_a 0) (sp_a 0) H.size hf) (cwH_of 3 hts t_749 rfl rfl t_53 t_747 t_748 hd_Law_feed.2 ⟨Nat.le_trans (Nat.le_of_ble_eq_true rfl) hRf, Nat.le_trans (Nat.le_of_ble_eq_true rfl) hRl⟩) ⟨kPX_blind, kPX_at hPc hK hDc hN (fun q hq => hS.2.1 q hq (fun h9 => absurd (hA2 q h9) (Nat.not_le.mpr hq))) hT hX⟩ rfl rfl hl.1 rfl (lv_room (Nat.le_of_ble_eq_true rfl)) d_law_742 ⟨by omega, by omega⟩) hS (fun q _ h => hFc q h) hFc (fun r9 u t H1 locs ht hvm hw hB hz1 hk1 hS => ?_)
    rw [hw]
    obtain ⟨hP, hD⟩ := pw_join (wr := (wSy cI cZ cJ cu_a cu ++ wSy cI cZ cJ sp_a sp ++ wBr cI cZ cJ w_a w_b w ++ wWr cI cZ cJ wr_a (cb_a 0) wr ++ wRd cI cZ cJ rd_a (cb_a 0) rd ++ wCb cI cZ cJ cb_a w_a v_a cb ++ wMo cI cZ cJ mo_a mo)) (w1 := (wSd cI cZ cJ sd_a w_a v_a (wr_a 0) (rd_a 0) (cu_a 0) (sp_a 0) sd ++ wBr cI cZ cJ v_a v_b v ++ wOu cI cZ cJ ou_a ou)) hP hD pm9 ht hk1 hFc hB
    generalize H1 = H at hP hS ⊢
    have pm9 : ((wSy cI cZ cJ cu_a cu ++ wSy cI cZ cJ sp_a sp ++ wBr cI cZ cJ w_a w_b w ++ wWr cI cZ cJ wr_a (cb_a 0) wr ++ wRd cI cZ cJ rd_a (cb_a 0) rd ++ wCb cI cZ cJ cb_a w_a v_a cb ++ wMo cI cZ cJ mo_a mo) ++ (wSd cI cZ cJ sd_a w_a v_a (wr_a 0) (rd_a 0) (cu_a 0) (sp_a 0) sd ++ wBr cI cZ cJ v_a v_b v ++ wOu cI cZ cJ ou_a ou) : va_W).Perm (wSd cI cZ cJ sd_a w_a v_a (wr_a 0) (rd_a 0) (cu_a 0) (sp_a 0) sd ++ wSy cI cZ cJ cu_a cu ++ wSy cI cZ cJ sp_a sp ++ wBr cI cZ cJ w_a w_b w ++ wBr cI cZ cJ v_a v_b v ++ wWr cI cZ cJ wr_a (cb_a 0) wr ++ wRd cI cZ cJ rd_a (cb_a 0) rd ++ wCb cI cZ cJ cb_a w_a v_a cb ++ wMo cI cZ cJ mo_a mo ++ wOu cI cZ cJ ou_a ou) := pm_9 _ _ _ _ _ _ _ _ _ _
    have hP : va_P (dC, dI) vwCl (wSd cI cZ cJ sd_a w_a v_a (wr_a 0) (rd_a 0) (cu_a 0) (sp_a 0) sd ++ wSy cI cZ cJ cu_a cu ++ wSy cI cZ cJ sp_a sp ++ wBr cI cZ cJ w_a w_b w ++ wBr cI cZ cJ v_a v_b v ++ wWr cI cZ cJ wr_a (cb_a 0) wr ++ wRd cI cZ cJ rd_a (cb_a 0) rd ++ wCb cI cZ cJ cb_a w_a v_a cb ++ wMo cI cZ cJ mo_a mo ++ wOu cI cZ cJ ou_a ou) H := pw_P hP (fun q hq => pm9.mem_iff.mpr hq)
    have hD : va_D A (wSd cI cZ cJ sd_a w_a v_a (wr_a 0) (rd_a 0) (cu_a 0) (sp_a 0) sd ++ wSy cI cZ cJ cu_a cu ++ wSy cI cZ cJ sp_a sp ++ wBr cI cZ cJ w_a w_b w ++ wBr cI cZ cJ v_a v_b v ++ wWr cI cZ cJ wr_a (cb_a 0) wr ++ wRd cI cZ cJ rd_a (cb_a 0) rd ++ wCb cI cZ cJ cb_a w_a v_a cb ++ wMo cI cZ cJ mo_a mo ++ wOu cI cZ cJ ou_a ou) := pw_Dp hD pm9
    refine lv_istore (lv' := [(5, .int 2), (0, .ref b), (1, .ref (sd_a 0)), (2, .ref (mo_a 0)), (3, .ref (ou_a 0)), (4, .int i)]) hx hb d_law_745 hl (by decide) rfl (fun ls hl => ?_)
    refine lv_aload_n hx hb d_law_747 rfl (lv_at hl 3 rfl) ?_
    refine lv_aload_n hx hb d_law_748 rfl (lv_at hl 1 rfl) ?_
    refine lv_iload hx hb d_law_749 (lv_at hl 5 rfl) ?_
    refine lv_iconst (v := 1) hx hb d_law_751 (by decide) ?_
    refine lv_iadd hx hb d_law_752 ?_
    refine va_sld hx hb hX0 hbl hbA hS (hin 1 (by decide) (by decide)) d_law_753 ?_
    have pm9 : ((wSd cI cZ cJ sd_a w_a v_a (wr_a 0) (rd_a 0) (cu_a 0) (sp_a 0) sd ++ wSy cI cZ cJ cu_a cu ++ wSy cI cZ cJ sp_a sp ++ wBr cI cZ cJ w_a w_b w ++ wBr cI cZ cJ v_a v_b v ++ wWr cI cZ cJ wr_a (cb_a 0) wr ++ wRd cI cZ cJ rd_a (cb_a 0) rd ++ wCb cI cZ cJ cb_a w_a v_a cb ++ wMo cI cZ cJ mo_a mo ++ wOu cI cZ cJ ou_a ou) : va_W).Perm ((wMo cI cZ cJ mo_a mo) ++ (wSd cI cZ cJ sd_a w_a v_a (wr_a 0) (rd_a 0) (cu_a 0) (sp_a 0) sd ++ wSy cI cZ cJ cu_a cu ++ wSy cI cZ cJ sp_a sp ++ wBr cI cZ cJ w_a w_b w ++ wBr cI cZ cJ v_a v_b v ++ wWr cI cZ cJ wr_a (cb_a 0) wr ++ wRd cI cZ cJ rd_a (cb_a 0) rd ++ wCb cI cZ cJ cb_a w_a v_a cb ++ wOu cI cZ cJ ou_a ou)) := pm_2 _ _ _ _ _ _ _ _ _ _
    have hPc := pw_P (ws' := (wMo cI cZ cJ mo_a mo)) hP (fun q hq => pm9.mem_iff.mpr (List.mem_append_left _ hq))
    have hDc := pw_D (wc := (wMo cI cZ cJ mo_a mo)) hD pm9
    have hFc := pw_free (wc := (wMo cI cZ cJ mo_a mo)) hD hS hA (fun q hq => pm9.mem_iff.mpr (List.mem_append_left _ hq))
    refine va_calli (va_runV (As := [.int (xs (i + 1).toNatClampNeg)]) (rest := []) ⟨hx, hb, hml, hown, hts⟩ (k_Model_feed l dC dI cI cZ cJ mo_a H.size hg) (cwV 1 hts (gV t_1039 t_1040 t_1041 t_63 t_1042) rfl rfl rfl hd_Model_feed ⟨Nat.le_trans (Nat.le_of_ble_eq_true rfl) hRf, Nat.le_trans (Nat.le_of_ble_eq_true rfl) hRl⟩) ⟨kP_blind, va_recv hK hPc (ci := 7) (q0 := 0) rfl rfl, kP_at hPc hK hDc hN⟩ rfl rfl hl.1 rfl (lv_room (Nat.le_of_ble_eq_true rfl)) d_law_754 ⟨by omega, by omega⟩) hS (fun q _ h => hFc q h) hFc (fun r9 u t H1 locs ht hvm hw hB hz1 hk1 hS => ?_)
    rw [hw]
    obtain ⟨hP, hD⟩ := pw_join (wr := (wSd cI cZ cJ sd_a w_a v_a (wr_a 0) (rd_a 0) (cu_a 0) (sp_a 0) sd ++ wSy cI cZ cJ cu_a cu ++ wSy cI cZ cJ sp_a sp ++ wBr cI cZ cJ w_a w_b w ++ wBr cI cZ cJ v_a v_b v ++ wWr cI cZ cJ wr_a (cb_a 0) wr ++ wRd cI cZ cJ rd_a (cb_a 0) rd ++ wCb cI cZ cJ cb_a w_a v_a cb ++ wOu cI cZ cJ ou_a ou)) (w1 := (wMo cI cZ cJ mo_a mo')) hP hD pm9 ht hk1 hFc hB
    generalize H1 = H at hP hS ⊢
    have pm9 : ((wSd cI cZ cJ sd_a w_a v_a (wr_a 0) (rd_a 0) (cu_a 0) (sp_a 0) sd ++ wSy cI cZ cJ cu_a cu ++ wSy cI cZ cJ sp_a sp ++ wBr cI cZ cJ w_a w_b w ++ wBr cI cZ cJ v_a v_b v ++ wWr cI cZ cJ wr_a (cb_a 0) wr ++ wRd cI cZ cJ rd_a (cb_a 0) rd ++ wCb cI cZ cJ cb_a w_a v_a cb ++ wOu cI cZ cJ ou_a ou) ++ (wMo cI cZ cJ mo_a mo') : va_W).Perm (wSd cI cZ cJ sd_a w_a v_a (wr_a 0) (rd_a 0) (cu_a 0) (sp_a 0) sd ++ wSy cI cZ cJ cu_a cu ++ wSy cI cZ cJ sp_a sp ++ wBr cI cZ cJ w_a w_b w ++ wBr cI cZ cJ v_a v_b v ++ wWr cI cZ cJ wr_a (cb_a 0) wr ++ wRd cI cZ cJ rd_a (cb_a 0) rd ++ wCb cI cZ cJ cb_a w_a v_a cb ++ wMo cI cZ cJ mo_a mo' ++ wOu cI cZ cJ ou_a ou) := pm_3 _ _ _ _ _ _ _ _ _ _
    have hP : va_P (dC, dI) vwCl (wSd cI cZ cJ sd_a w_a v_a (wr_a 0) (rd_a 0) (cu_a 0) (sp_a 0) sd ++ wSy cI cZ cJ cu_a cu ++ wSy cI cZ cJ sp_a sp ++ wBr cI cZ cJ w_a w_b w ++ wBr cI cZ cJ v_a v_b v ++ wWr cI cZ cJ wr_a (cb_a 0) wr ++ wRd cI cZ cJ rd_a (cb_a 0) rd ++ wCb cI cZ cJ cb_a w_a v_a cb ++ wMo cI cZ cJ mo_a mo' ++ wOu cI cZ cJ ou_a ou) H := pw_P hP (fun q hq => pm9.mem_iff.mpr hq)
    have hD : va_D A (wSd cI cZ cJ sd_a w_a v_a (wr_a 0) (rd_a 0) (cu_a 0) (sp_a 0) sd ++ wSy cI cZ cJ cu_a cu ++ wSy cI cZ cJ sp_a sp ++ wBr cI cZ cJ w_a w_b w ++ wBr cI cZ cJ v_a v_b v ++ wWr cI cZ cJ wr_a (cb_a 0) wr ++ wRd cI cZ cJ rd_a (cb_a 0) rd ++ wCb cI cZ cJ cb_a w_a v_a cb ++ wMo cI cZ cJ mo_a mo' ++ wOu cI cZ cJ ou_a ou) := pw_Dp hD pm9
    refine lv_istore (lv' := [(6, .int q), (5, .int 2), (0, .ref b), (1, .ref (sd_a 0)), (2, .ref (mo_a 0)), (3, .ref (ou_a 0)), (4, .int i)]) hx hb d_law_757 hl (by decide) rfl (fun ls hl => ?_)
    refine lv_aload_n hx hb d_law_759 rfl (lv_at hl 4 rfl) ?_
    have hth : f_Model_thrown mo' = some (Mo_code mo') := rfl
    have pm9 : ((wSd cI cZ cJ sd_a w_a v_a (wr_a 0) (rd_a 0) (cu_a 0) (sp_a 0) sd ++ wSy cI cZ cJ cu_a cu ++ wSy cI cZ cJ sp_a sp ++ wBr cI cZ cJ w_a w_b w ++ wBr cI cZ cJ v_a v_b v ++ wWr cI cZ cJ wr_a (cb_a 0) wr ++ wRd cI cZ cJ rd_a (cb_a 0) rd ++ wCb cI cZ cJ cb_a w_a v_a cb ++ wMo cI cZ cJ mo_a mo' ++ wOu cI cZ cJ ou_a ou) : va_W).Perm ((wMo cI cZ cJ mo_a mo') ++ (wSd cI cZ cJ sd_a w_a v_a (wr_a 0) (rd_a 0) (cu_a 0) (sp_a 0) sd ++ wSy cI cZ cJ cu_a cu ++ wSy cI cZ cJ sp_a sp ++ wBr cI cZ cJ w_a w_b w ++ wBr cI cZ cJ v_a v_b v ++ wWr cI cZ cJ wr_a (cb_a 0) wr ++ wRd cI cZ cJ rd_a (cb_a 0) rd ++ wCb cI cZ cJ cb_a w_a v_a cb ++ wOu cI cZ cJ ou_a ou)) := pm_2 _ _ _ _ _ _ _ _ _ _
    have hPc := pw_P (ws' := (wMo cI cZ cJ mo_a mo')) hP (fun q hq => pm9.mem_iff.mpr (List.mem_append_left _ hq))
    have hDc := pw_D (wc := (wMo cI cZ cJ mo_a mo')) hD pm9
    have hFc := pw_free (wc := (wMo cI cZ cJ mo_a mo')) hD hS hA (fun q hq => pm9.mem_iff.mpr (List.mem_append_left _ hq))
    refine va_calli (va_runV (As := []) (rest := []) ⟨hx, hb, hml, hown, hts⟩ (k_Model_thrown l dC dI cI cZ cJ mo_a H.size hth) (cwV 0 hts (gV t_906 t_907 t_908 t_63 t_909) rfl rfl rfl hd_Model_thrown ⟨Nat.le_trans (Nat.le_of_ble_eq_true rfl) hRf, Nat.le_trans (Nat.le_of_ble_eq_true rfl) hRl⟩) ⟨kP_blind, va_recv hK hPc (ci := 7) (q0 := 0) rfl rfl, kP_at hPc hK hDc hN⟩ rfl rfl hl.1 rfl (lv_room (Nat.le_of_ble_eq_true rfl)) d_law_760 ⟨by omega, by omega⟩) hS (fun q _ h => hFc q h) hFc (fun r9 u t H1 locs ht hvm hw hB hz1 hk1 hS => ?_)
    rw [hw]
    obtain ⟨hP, hD⟩ := pw_join (wr := (wSd cI cZ cJ sd_a w_a v_a (wr_a 0) (rd_a 0) (cu_a 0) (sp_a 0) sd ++ wSy cI cZ cJ cu_a cu ++ wSy cI cZ cJ sp_a sp ++ wBr cI cZ cJ w_a w_b w ++ wBr cI cZ cJ v_a v_b v ++ wWr cI cZ cJ wr_a (cb_a 0) wr ++ wRd cI cZ cJ rd_a (cb_a 0) rd ++ wCb cI cZ cJ cb_a w_a v_a cb ++ wOu cI cZ cJ ou_a ou)) (w1 := (wMo cI cZ cJ mo_a mo')) hP hD pm9 ht hk1 hFc hB
    generalize H1 = H at hP hS ⊢
    have pm9 : ((wSd cI cZ cJ sd_a w_a v_a (wr_a 0) (rd_a 0) (cu_a 0) (sp_a 0) sd ++ wSy cI cZ cJ cu_a cu ++ wSy cI cZ cJ sp_a sp ++ wBr cI cZ cJ w_a w_b w ++ wBr cI cZ cJ v_a v_b v ++ wWr cI cZ cJ wr_a (cb_a 0) wr ++ wRd cI cZ cJ rd_a (cb_a 0) rd ++ wCb cI cZ cJ cb_a w_a v_a cb ++ wOu cI cZ cJ ou_a ou) ++ (wMo cI cZ cJ mo_a mo') : va_W).Perm (wSd cI cZ cJ sd_a w_a v_a (wr_a 0) (rd_a 0) (cu_a 0) (sp_a 0) sd ++ wSy cI cZ cJ cu_a cu ++ wSy cI cZ cJ sp_a sp ++ wBr cI cZ cJ w_a w_b w ++ wBr cI cZ cJ v_a v_b v ++ wWr cI cZ cJ wr_a (cb_a 0) wr ++ wRd cI cZ cJ rd_a (cb_a 0) rd ++ wCb cI cZ cJ cb_a w_a v_a cb ++ wMo cI cZ cJ mo_a mo' ++ wOu cI cZ cJ ou_a ou) := pm_3 _ _ _ _ _ _ _ _ _ _
    have hP : va_P (dC, dI) vwCl (wSd cI cZ cJ sd_a w_a v_a (wr_a 0) (rd_a 0) (cu_a 0) (sp_a 0) sd ++ wSy cI cZ cJ cu_a cu ++ wSy cI cZ cJ sp_a sp ++ wBr cI cZ cJ w_a w_b w ++ wBr cI cZ cJ v_a v_b v ++ wWr cI cZ cJ wr_a (cb_a 0) wr ++ wRd cI cZ cJ rd_a (cb_a 0) rd ++ wCb cI cZ cJ cb_a w_a v_a cb ++ wMo cI cZ cJ mo_a mo' ++ wOu cI cZ cJ ou_a ou) H := pw_P hP (fun q hq => pm9.mem_iff.mpr hq)
    have hD : va_D A (wSd cI cZ cJ sd_a w_a v_a (wr_a 0) (rd_a 0) (cu_a 0) (sp_a 0) sd ++ wSy cI cZ cJ cu_a cu ++ wSy cI cZ cJ sp_a sp ++ wBr cI cZ cJ w_a w_b w ++ wBr cI cZ cJ v_a v_b v ++ wWr cI cZ cJ wr_a (cb_a 0) wr ++ wRd cI cZ cJ rd_a (cb_a 0) rd ++ wCb cI cZ cJ cb_a w_a v_a cb ++ wMo cI cZ cJ mo_a mo' ++ wOu cI cZ cJ ou_a ou) := pw_Dp hD pm9
    refine lv_iload hx hb d_law_763 (lv_at hl 1 rfl) ?_
    refine lv_icmp_eq (tgt := 770) hx hb d_law_765 (by decide) (fun _ => ?_) (fun h9 => absurd hcode h9)
    refine lv_iload hx hb d_law_770 (lv_at hl 1 rfl) ?_
    refine lv_if_ne (tgt := 787) hx hb d_law_772 (by decide) (fun _ => ?_) (fun h9 => absurd h9 (by decide))
    refine lv_goto (tgt := 1131) hx hb d_law_787 (by decide) ?_
    have hl := lv_sub (l' := [(0, .ref b), (1, .ref (sd_a 0)), (2, .ref (mo_a 0)), (3, .ref (ou_a 0)), (4, .int i)]) hl [2, 3, 4, 5, 6] rfl
    refine W.widen (k := j + 1 + Br_byL w + Br_byL v) (n := 6 * (j + 1) + 2 * Br_byL w + 2 * Br_byL v) (by omega) (by omega) ?_
    exact hk _ _ _ cu_a sp_a w_b v_b cu sp w v wr rd cb mo' ou hrel hP hD hS hl
set_option maxHeartbeats 8000000 in
set_option maxRecDepth 100000 in
theorem L_C_pass {p : Program} {l : Launch} {e : Env} {R : Room} {s : State} {m : MethodId} {args : Array Value} {below : List Frame} {meth : Method} {c : Code} {Q : State → Prop} {A : Nat → Prop} {dC : Nat → ClassId} {dI : Nat → Nat → Nat} {cI cZ cJ : ClassId} {sd_a cu_a sp_a : Nat → Nat} {w_a w_b v_a v_b : Nat} {wr_a rd_a cb_a mo_a ou_a : Nat → Nat} {sd : Sd} {cu sp : Sy} {w v : Br} {wr : Wr} {rd : Rd} {cb : Cb} {mo : Mo} {ou : Ou} {b L : Nat} {xs : Nat → Int32} {i : Int32} {j : Nat} {Rl : Sd → Sy → Sy → Br → Br → Wr → Rd → Cb → Mo → Prop} (hl9 : l.stackTraces = false) (C0 : lcx p c m s args R (dC, dI) (TYS cI cZ cJ) A b L xs i j) (hRb : ∀ sd cu sp w v wr rd cb mo, Rl sd cu sp w v wr rd cb mo → Br_byL w ≤ 40000 ∧ Br_byL v ≤ 40000) (hR0 : Rl sd cu sp w v wr rd cb mo) (hT0 : T_C_pass Rl sd cu sp w v wr rd cb mo)
    (hk : ∀ (H : Heap) (locs : List Loc) (ls : Array Slot) (cu_a sp_a : Nat → Nat) (w_b v_b : Nat) (cu sp : Sy) (w v : Br) (wr : Wr) (rd : Rd) (cb : Cb) (mo : Mo) (ou : Ou), Rl sd cu sp w v wr rd cb mo → va_P (dC, dI) vwCl (wSd cI cZ cJ sd_a w_a v_a (wr_a 0) (rd_a 0) (cu_a 0) (sp_a 0) sd ++ wSy cI cZ cJ cu_a cu ++ wSy cI cZ cJ sp_a sp ++ wBr cI cZ cJ w_a w_b w ++ wBr cI cZ cJ v_a v_b v ++ wWr cI cZ cJ wr_a (cb_a 0) wr ++ wRd cI cZ cJ rd_a (cb_a 0) rd ++ wCb cI cZ cJ cb_a w_a v_a cb ++ wMo cI cZ cJ mo_a mo ++ wOu cI cZ cJ ou_a ou) H → va_D A (wSd cI cZ cJ sd_a w_a v_a (wr_a 0) (rd_a 0) (cu_a 0) (sp_a 0) sd ++ wSy cI cZ cJ cu_a cu ++ wSy cI cZ cJ sp_a sp ++ wBr cI cZ cJ w_a w_b w ++ wBr cI cZ cJ v_a v_b v ++ wWr cI cZ cJ wr_a (cb_a 0) wr ++ wRd cI cZ cJ rd_a (cb_a 0) rd ++ wCb cI cZ cJ cb_a w_a v_a cb ++ wMo cI cZ cJ mo_a mo ++ wOu cI cZ cJ ou_a ou) → va_S A s.heap H locs → lv_has ls 7 [(0, .ref b), (1, .ref (sd_a 0)), (2, .ref (mo_a 0)), (3, .ref (ou_a 0)), (4, .int i)] → W p l e R s m args below meth c H locs (j + 1 + Br_byL w + Br_byL v) (6 * (j + 1) + 2 * Br_byL w + 2 * Br_byL v) Q (F0 m 1131 ls []))
    {H : Heap} {locs : List Loc} {ls : Array Slot} (hP : va_P (dC, dI) vwCl (wSd cI cZ cJ sd_a w_a v_a (wr_a 0) (rd_a 0) (cu_a 0) (sp_a 0) sd ++ wSy cI cZ cJ cu_a cu ++ wSy cI cZ cJ sp_a sp ++ wBr cI cZ cJ w_a w_b w ++ wBr cI cZ cJ v_a v_b v ++ wWr cI cZ cJ wr_a (cb_a 0) wr ++ wRd cI cZ cJ rd_a (cb_a 0) rd ++ wCb cI cZ cJ cb_a w_a v_a cb ++ wMo cI cZ cJ mo_a mo ++ wOu cI cZ cJ ou_a ou) H) (hD : va_D A (wSd cI cZ cJ sd_a w_a v_a (wr_a 0) (rd_a 0) (cu_a 0) (sp_a 0) sd ++ wSy cI cZ cJ cu_a cu ++ wSy cI cZ cJ sp_a sp ++ wBr cI cZ cJ w_a w_b w ++ wBr cI cZ cJ v_a v_b v ++ wWr cI cZ cJ wr_a (cb_a 0) wr ++ wRd cI cZ cJ rd_a (cb_a 0) rd ++ wCb cI cZ cJ cb_a w_a v_a cb ++ wMo cI cZ cJ mo_a mo ++ wOu cI cZ cJ ou_a ou)) (hS : va_S A s.heap H locs) (hl : lv_has ls 7 [(0, .ref b), (1, .ref (sd_a 0)), (2, .ref (mo_a 0)), (3, .ref (ou_a 0)), (4, .int i)]) : W p l e R s m args below meth c H locs (j + Br_byL w + Br_byL v) (6 * j + 2 * Br_byL w + 2 * Br_byL v) Q (F0 m 790 ls []) := by
  obtain ⟨hx, hb, hml, hown, hts, hK, hA, hA2, hRf, hRl, hN, hT, hX, hX0, hbl, hin, hj, hRc, hRs⟩ := C0
  have hbA : ¬ A b := fun h => absurd (hA2 b h) (Nat.not_le.mpr hbl)
  obtain ⟨hw0, hv0⟩ := hRb _ _ _ _ _ _ _ _ _ hR0
  unfold T_C_pass at hT0
  rcases hT0 with ⟨r, v', mo', hf, hg, hcode, hrel⟩ | ⟨hf, q, mo', hg, hcode, hrel⟩
  · obtain ⟨ou', heou⟩ : ∃ z : Ou, z = (vp_updL (Ou_f ou) 0 r.toInt64) := ⟨_, rfl⟩
    have hf1 : f_Law_pass sd w v ou = some (0, v', ou') := by
      rw [f_Law_pass, hf, bd_s, heou]
      rfl
    have hou : Ou_f ou' (0 : Int32).toNatClampNeg = r.toInt64 := by rw [heou]; exact updL_at _ _ _
    refine lv_aload_n hx hb d_law_790 rfl (lv_at hl 1 rfl) ?_
    refine lv_aload_n hx hb d_law_791 rfl (lv_at hl 3 rfl) ?_
    have hm0 := mo_Law_pass _ hf1
    try dsimp only at hm0
    have hb9 := (hRb _ _ _ _ _ _ _ _ _ hrel).2
    have pm9 : ((wSd cI cZ cJ sd_a w_a v_a (wr_a 0) (rd_a 0) (cu_a 0) (sp_a 0) sd ++ wSy cI cZ cJ cu_a cu ++ wSy cI cZ cJ sp_a sp ++ wBr cI cZ cJ w_a w_b w ++ wBr cI cZ cJ v_a v_b v ++ wWr cI cZ cJ wr_a (cb_a 0) wr ++ wRd cI cZ cJ rd_a (cb_a 0) rd ++ wCb cI cZ cJ cb_a w_a v_a cb ++ wMo cI cZ cJ mo_a mo ++ wOu cI cZ cJ ou_a ou) : va_W).Perm ((wSd cI cZ cJ sd_a w_a v_a (wr_a 0) (rd_a 0) (cu_a 0) (sp_a 0) sd ++ wBr cI cZ cJ w_a w_b w ++ wBr cI cZ cJ v_a v_b v ++ wOu cI cZ cJ ou_a ou) ++ (wSy cI cZ cJ cu_a cu ++ wSy cI cZ cJ sp_a sp ++ wWr cI cZ cJ wr_a (cb_a 0) wr ++ wRd cI cZ cJ rd_a (cb_a 0) rd ++ wCb cI cZ cJ cb_a w_a v_a cb ++ wMo cI cZ cJ mo_a mo)) := pm_10 _ _ _ _ _ _ _ _ _ _
    have hPc := pw_P (ws' := (wSd cI cZ cJ sd_a w_a v_a (wr_a 0) (rd_a 0) (cu_a 0) (sp_a 0) sd ++ wBr cI cZ cJ w_a w_b w ++ wBr cI cZ cJ v_a v_b v ++ wOu cI cZ cJ ou_a ou)) hP (fun q hq => pm9.mem_iff.mpr (List.mem_append_left _ hq))
    have hDc := pw_D (wc := (wSd cI cZ cJ sd_a w_a v_a (wr_a 0) (rd_a 0) (cu_a 0) (sp_a 0) sd ++ wBr cI cZ cJ w_a w_b w ++ wBr cI cZ cJ v_a v_b v ++ wOu cI cZ cJ ou_a ou)) hD pm9
    have hFc := pw_free (wc := (wSd cI cZ cJ sd_a w_a v_a (wr_a 0) (rd_a 0) (cu_a 0) (sp_a 0) sd ++ wBr cI cZ cJ w_a w_b w ++ wBr cI cZ cJ v_a v_b v ++ wOu cI cZ cJ ou_a ou)) hD hS hA (fun q hq => pm9.mem_iff.mpr (List.mem_append_left _ hq))
    refine va_calli (w_runS (As := [.ref (sd_a 0), .ref (ou_a 0)]) (rest := []) ⟨hx, hb, hml, hown, hts⟩ (k_Law_pass l dC dI cI cZ cJ sd_a w_a w_b v_a v_b ou_a (wr_a 0) (rd_a 0) (cu_a 0) (sp_a 0) H.size hf1) (cwH_of 2 hts t_759 rfl rfl t_53 t_757 t_758 hd_Law_pass.2 ⟨Nat.le_trans (Nat.le_of_ble_eq_true rfl) hRf, Nat.le_trans (Nat.le_of_ble_eq_true rfl) hRl⟩) ⟨kP_blind, kP_at hPc hK hDc hN⟩ rfl rfl hl.1 rfl (lv_room (Nat.le_of_ble_eq_true rfl)) d_law_792 ⟨by omega, by omega⟩) hS (fun q _ h => hFc q h) hFc (fun r9 v_q1 t H1 locs ht hvm hw hB hz1 hk1 hS => ?_)
    rw [hw]
    obtain ⟨hP, hD⟩ := pw_join (wr := (wSy cI cZ cJ cu_a cu ++ wSy cI cZ cJ sp_a sp ++ wWr cI cZ cJ wr_a (cb_a 0) wr ++ wRd cI cZ cJ rd_a (cb_a 0) rd ++ wCb cI cZ cJ cb_a w_a v_a cb ++ wMo cI cZ cJ mo_a mo)) (w1 := (wSd cI cZ cJ sd_a w_a v_a (wr_a 0) (rd_a 0) (cu_a 0) (sp_a 0) sd ++ wBr cI cZ cJ w_a w_b w ++ wBr cI cZ cJ v_a v_q1 v' ++ wOu cI cZ cJ ou_a ou')) hP hD pm9 ht hk1 hFc hB
    generalize H1 = H at hP hS ⊢
    have pm9 : ((wSy cI cZ cJ cu_a cu ++ wSy cI cZ cJ sp_a sp ++ wWr cI cZ cJ wr_a (cb_a 0) wr ++ wRd cI cZ cJ rd_a (cb_a 0) rd ++ wCb cI cZ cJ cb_a w_a v_a cb ++ wMo cI cZ cJ mo_a mo) ++ (wSd cI cZ cJ sd_a w_a v_a (wr_a 0) (rd_a 0) (cu_a 0) (sp_a 0) sd ++ wBr cI cZ cJ w_a w_b w ++ wBr cI cZ cJ v_a v_q1 v' ++ wOu cI cZ cJ ou_a ou') : va_W).Perm (wSd cI cZ cJ sd_a w_a v_a (wr_a 0) (rd_a 0) (cu_a 0) (sp_a 0) sd ++ wSy cI cZ cJ cu_a cu ++ wSy cI cZ cJ sp_a sp ++ wBr cI cZ cJ w_a w_b w ++ wBr cI cZ cJ v_a v_q1 v' ++ wWr cI cZ cJ wr_a (cb_a 0) wr ++ wRd cI cZ cJ rd_a (cb_a 0) rd ++ wCb cI cZ cJ cb_a w_a v_a cb ++ wMo cI cZ cJ mo_a mo ++ wOu cI cZ cJ ou_a ou') := pm_11 _ _ _ _ _ _ _ _ _ _
    have hP : va_P (dC, dI) vwCl (wSd cI cZ cJ sd_a w_a v_a (wr_a 0) (rd_a 0) (cu_a 0) (sp_a 0) sd ++ wSy cI cZ cJ cu_a cu ++ wSy cI cZ cJ sp_a sp ++ wBr cI cZ cJ w_a w_b w ++ wBr cI cZ cJ v_a v_q1 v' ++ wWr cI cZ cJ wr_a (cb_a 0) wr ++ wRd cI cZ cJ rd_a (cb_a 0) rd ++ wCb cI cZ cJ cb_a w_a v_a cb ++ wMo cI cZ cJ mo_a mo ++ wOu cI cZ cJ ou_a ou') H := pw_P hP (fun q hq => pm9.mem_iff.mpr hq)
    have hD : va_D A (wSd cI cZ cJ sd_a w_a v_a (wr_a 0) (rd_a 0) (cu_a 0) (sp_a 0) sd ++ wSy cI cZ cJ cu_a cu ++ wSy cI cZ cJ sp_a sp ++ wBr cI cZ cJ w_a w_b w ++ wBr cI cZ cJ v_a v_q1 v' ++ wWr cI cZ cJ wr_a (cb_a 0) wr ++ wRd cI cZ cJ rd_a (cb_a 0) rd ++ wCb cI cZ cJ cb_a w_a v_a cb ++ wMo cI cZ cJ mo_a mo ++ wOu cI cZ cJ ou_a ou') := pw_Dp hD pm9
    refine lv_istore (lv' := [(5, .int 0), (0, .ref b), (1, .ref (sd_a 0)), (2, .ref (mo_a 0)), (3, .ref (ou_a 0)), (4, .int i)]) hx hb d_law_795 hl (by decide) rfl (fun ls hl => ?_)
    refine lv_aload_n hx hb d_law_797 rfl (lv_at hl 3 rfl) ?_
    have pm9 : ((wSd cI cZ cJ sd_a w_a v_a (wr_a 0) (rd_a 0) (cu_a 0) (sp_a 0) sd ++ wSy cI cZ cJ cu_a cu ++ wSy cI cZ cJ sp_a sp ++ wBr cI cZ cJ w_a w_b w ++ wBr cI cZ cJ v_a v_q1 v' ++ wWr cI cZ cJ wr_a (cb_a 0) wr ++ wRd cI cZ cJ rd_a (cb_a 0) rd ++ wCb cI cZ cJ cb_a w_a v_a cb ++ wMo cI cZ cJ mo_a mo ++ wOu cI cZ cJ ou_a ou') : va_W).Perm ((wMo cI cZ cJ mo_a mo) ++ (wSd cI cZ cJ sd_a w_a v_a (wr_a 0) (rd_a 0) (cu_a 0) (sp_a 0) sd ++ wSy cI cZ cJ cu_a cu ++ wSy cI cZ cJ sp_a sp ++ wBr cI cZ cJ w_a w_b w ++ wBr cI cZ cJ v_a v_q1 v' ++ wWr cI cZ cJ wr_a (cb_a 0) wr ++ wRd cI cZ cJ rd_a (cb_a 0) rd ++ wCb cI cZ cJ cb_a w_a v_a cb ++ wOu cI cZ cJ ou_a ou')) := pm_2 _ _ _ _ _ _ _ _ _ _
    have hPc := pw_P (ws' := (wMo cI cZ cJ mo_a mo)) hP (fun q hq => pm9.mem_iff.mpr (List.mem_append_left _ hq))
    have hDc := pw_D (wc := (wMo cI cZ cJ mo_a mo)) hD pm9
    have hFc := pw_free (wc := (wMo cI cZ cJ mo_a mo)) hD hS hA (fun q hq => pm9.mem_iff.mpr (List.mem_append_left _ hq))
    refine va_calli (va_runV (As := []) (rest := []) ⟨hx, hb, hml, hown, hts⟩ (k_Model_pass l dC dI cI cZ cJ mo_a H.size hg) (cwV 0 hts (gV t_1043 t_1044 t_1045 t_63 t_1046) rfl rfl rfl hd_Model_pass ⟨Nat.le_trans (Nat.le_of_ble_eq_true rfl) hRf, Nat.le_trans (Nat.le_of_ble_eq_true rfl) hRl⟩) ⟨kP_blind, va_recv hK hPc (ci := 7) (q0 := 0) rfl rfl, kP_at hPc hK hDc hN⟩ rfl rfl hl.1 rfl (lv_room (Nat.le_of_ble_eq_true rfl)) d_law_798 ⟨by omega, by omega⟩) hS (fun q _ h => hFc q h) hFc (fun r9 u t H1 locs ht hvm hw hB hz1 hk1 hS => ?_)
    rw [hw]
    obtain ⟨hP, hD⟩ := pw_join (wr := (wSd cI cZ cJ sd_a w_a v_a (wr_a 0) (rd_a 0) (cu_a 0) (sp_a 0) sd ++ wSy cI cZ cJ cu_a cu ++ wSy cI cZ cJ sp_a sp ++ wBr cI cZ cJ w_a w_b w ++ wBr cI cZ cJ v_a v_q1 v' ++ wWr cI cZ cJ wr_a (cb_a 0) wr ++ wRd cI cZ cJ rd_a (cb_a 0) rd ++ wCb cI cZ cJ cb_a w_a v_a cb ++ wOu cI cZ cJ ou_a ou')) (w1 := (wMo cI cZ cJ mo_a mo')) hP hD pm9 ht hk1 hFc hB
    generalize H1 = H at hP hS ⊢
    have pm9 : ((wSd cI cZ cJ sd_a w_a v_a (wr_a 0) (rd_a 0) (cu_a 0) (sp_a 0) sd ++ wSy cI cZ cJ cu_a cu ++ wSy cI cZ cJ sp_a sp ++ wBr cI cZ cJ w_a w_b w ++ wBr cI cZ cJ v_a v_q1 v' ++ wWr cI cZ cJ wr_a (cb_a 0) wr ++ wRd cI cZ cJ rd_a (cb_a 0) rd ++ wCb cI cZ cJ cb_a w_a v_a cb ++ wOu cI cZ cJ ou_a ou') ++ (wMo cI cZ cJ mo_a mo') : va_W).Perm (wSd cI cZ cJ sd_a w_a v_a (wr_a 0) (rd_a 0) (cu_a 0) (sp_a 0) sd ++ wSy cI cZ cJ cu_a cu ++ wSy cI cZ cJ sp_a sp ++ wBr cI cZ cJ w_a w_b w ++ wBr cI cZ cJ v_a v_q1 v' ++ wWr cI cZ cJ wr_a (cb_a 0) wr ++ wRd cI cZ cJ rd_a (cb_a 0) rd ++ wCb cI cZ cJ cb_a w_a v_a cb ++ wMo cI cZ cJ mo_a mo' ++ wOu cI cZ cJ ou_a ou') := pm_3 _ _ _ _ _ _ _ _ _ _
    have hP : va_P (dC, dI) vwCl (wSd cI cZ cJ sd_a w_a v_a (wr_a 0) (rd_a 0) (cu_a 0) (sp_a 0) sd ++ wSy cI cZ cJ cu_a cu ++ wSy cI cZ cJ sp_a sp ++ wBr cI cZ cJ w_a w_b w ++ wBr cI cZ cJ v_a v_q1 v' ++ wWr cI cZ cJ wr_a (cb_a 0) wr ++ wRd cI cZ cJ rd_a (cb_a 0) rd ++ wCb cI cZ cJ cb_a w_a v_a cb ++ wMo cI cZ cJ mo_a mo' ++ wOu cI cZ cJ ou_a ou') H := pw_P hP (fun q hq => pm9.mem_iff.mpr hq)
    have hD : va_D A (wSd cI cZ cJ sd_a w_a v_a (wr_a 0) (rd_a 0) (cu_a 0) (sp_a 0) sd ++ wSy cI cZ cJ cu_a cu ++ wSy cI cZ cJ sp_a sp ++ wBr cI cZ cJ w_a w_b w ++ wBr cI cZ cJ v_a v_q1 v' ++ wWr cI cZ cJ wr_a (cb_a 0) wr ++ wRd cI cZ cJ rd_a (cb_a 0) rd ++ wCb cI cZ cJ cb_a w_a v_a cb ++ wMo cI cZ cJ mo_a mo' ++ wOu cI cZ cJ ou_a ou') := pw_Dp hD pm9
    refine lv_istore (lv' := [(6, .int r), (5, .int 0), (0, .ref b), (1, .ref (sd_a 0)), (2, .ref (mo_a 0)), (3, .ref (ou_a 0)), (4, .int i)]) hx hb d_law_801 hl (by decide) rfl (fun ls hl => ?_)
    refine lv_aload_n hx hb d_law_803 rfl (lv_at hl 4 rfl) ?_
    have hth : f_Model_thrown mo' = some (Mo_code mo') := rfl
    have pm9 : ((wSd cI cZ cJ sd_a w_a v_a (wr_a 0) (rd_a 0) (cu_a 0) (sp_a 0) sd ++ wSy cI cZ cJ cu_a cu ++ wSy cI cZ cJ sp_a sp ++ wBr cI cZ cJ w_a w_b w ++ wBr cI cZ cJ v_a v_q1 v' ++ wWr cI cZ cJ wr_a (cb_a 0) wr ++ wRd cI cZ cJ rd_a (cb_a 0) rd ++ wCb cI cZ cJ cb_a w_a v_a cb ++ wMo cI cZ cJ mo_a mo' ++ wOu cI cZ cJ ou_a ou') : va_W).Perm ((wMo cI cZ cJ mo_a mo') ++ (wSd cI cZ cJ sd_a w_a v_a (wr_a 0) (rd_a 0) (cu_a 0) (sp_a 0) sd ++ wSy cI cZ cJ cu_a cu ++ wSy cI cZ cJ sp_a sp ++ wBr cI cZ cJ w_a w_b w ++ wBr cI cZ cJ v_a v_q1 v' ++ wWr cI cZ cJ wr_a (cb_a 0) wr ++ wRd cI cZ cJ rd_a (cb_a 0) rd ++ wCb cI cZ cJ cb_a w_a v_a cb ++ wOu cI cZ cJ ou_a ou')) := pm_2 _ _ _ _ _ _ _ _ _ _
    have hPc := pw_P (ws' := (wMo cI cZ cJ mo_a mo')) hP (fun q hq => pm9.mem_iff.mpr (List.mem_append_left _ hq))
    have hDc := pw_D (wc := (wMo cI cZ cJ mo_a mo')) hD pm9
    have hFc := pw_free (wc := (wMo cI cZ cJ mo_a mo')) hD hS hA (fun q hq => pm9.mem_iff.mpr (List.mem_append_left _ hq))
    refine va_calli (va_runV (As := []) (rest := []) ⟨hx, hb, hml, hown, hts⟩ (k_Model_thrown l dC dI cI cZ cJ mo_a H.size hth) (cwV 0 hts (gV t_906 t_907 t_908 t_63 t_909) rfl rfl rfl hd_Model_thrown ⟨Nat.le_trans (Nat.le_of_ble_eq_true rfl) hRf, Nat.le_trans (Nat.le_of_ble_eq_true rfl) hRl⟩) ⟨kP_blind, va_recv hK hPc (ci := 7) (q0 := 0) rfl rfl, kP_at hPc hK hDc hN⟩ rfl rfl hl.1 rfl (lv_room (Nat.le_of_ble_eq_true rfl)) d_law_804 ⟨by omega, by omega⟩) hS (fun q _ h => hFc q h) hFc (fun r9 u t H1 locs ht hvm hw hB hz1 hk1 hS => ?_)
    rw [hw]
    obtain ⟨hP, hD⟩ := pw_join (wr := (wSd cI cZ cJ sd_a w_a v_a (wr_a 0) (rd_a 0) (cu_a 0) (sp_a 0) sd ++ wSy cI cZ cJ cu_a cu ++ wSy cI cZ cJ sp_a sp ++ wBr cI cZ cJ w_a w_b w ++ wBr cI cZ cJ v_a v_q1 v' ++ wWr cI cZ cJ wr_a (cb_a 0) wr ++ wRd cI cZ cJ rd_a (cb_a 0) rd ++ wCb cI cZ cJ cb_a w_a v_a cb ++ wOu cI cZ cJ ou_a ou')) (w1 := (wMo cI cZ cJ mo_a mo')) hP hD pm9 ht hk1 hFc hB
    generalize H1 = H at hP hS ⊢
    have pm9 : ((wSd cI cZ cJ sd_a w_a v_a (wr_a 0) (rd_a 0) (cu_a 0) (sp_a 0) sd ++ wSy cI cZ cJ cu_a cu ++ wSy cI cZ cJ sp_a sp ++ wBr cI cZ cJ w_a w_b w ++ wBr cI cZ cJ v_a v_q1 v' ++ wWr cI cZ cJ wr_a (cb_a 0) wr ++ wRd cI cZ cJ rd_a (cb_a 0) rd ++ wCb cI cZ cJ cb_a w_a v_a cb ++ wOu cI cZ cJ ou_a ou') ++ (wMo cI cZ cJ mo_a mo') : va_W).Perm (wSd cI cZ cJ sd_a w_a v_a (wr_a 0) (rd_a 0) (cu_a 0) (sp_a 0) sd ++ wSy cI cZ cJ cu_a cu ++ wSy cI cZ cJ sp_a sp ++ wBr cI cZ cJ w_a w_b w ++ wBr cI cZ cJ v_a v_q1 v' ++ wWr cI cZ cJ wr_a (cb_a 0) wr ++ wRd cI cZ cJ rd_a (cb_a 0) rd ++ wCb cI cZ cJ cb_a w_a v_a cb ++ wMo cI cZ cJ mo_a mo' ++ wOu cI cZ cJ ou_a ou') := pm_3 _ _ _ _ _ _ _ _ _ _
    have hP : va_P (dC, dI) vwCl (wSd cI cZ cJ sd_a w_a v_a (wr_a 0) (rd_a 0) (cu_a 0) (sp_a 0) sd ++ wSy cI cZ cJ cu_a cu ++ wSy cI cZ cJ sp_a sp ++ wBr cI cZ cJ w_a w_b w ++ wBr cI cZ cJ v_a v_q1 v' ++ wWr cI cZ cJ wr_a (cb_a 0) wr ++ wRd cI cZ cJ rd_a (cb_a 0) rd ++ wCb cI cZ cJ cb_a w_a v_a cb ++ wMo cI cZ cJ mo_a mo' ++ wOu cI cZ cJ ou_a ou') H := pw_P hP (fun q hq => pm9.mem_iff.mpr hq)
    have hD : va_D A (wSd cI cZ cJ sd_a w_a v_a (wr_a 0) (rd_a 0) (cu_a 0) (sp_a 0) sd ++ wSy cI cZ cJ cu_a cu ++ wSy cI cZ cJ sp_a sp ++ wBr cI cZ cJ w_a w_b w ++ wBr cI cZ cJ v_a v_q1 v' ++ wWr cI cZ cJ wr_a (cb_a 0) wr ++ wRd cI cZ cJ rd_a (cb_a 0) rd ++ wCb cI cZ cJ cb_a w_a v_a cb ++ wMo cI cZ cJ mo_a mo' ++ wOu cI cZ cJ ou_a ou') := pw_Dp hD pm9
    refine lv_iload hx hb d_law_807 (lv_at hl 1 rfl) ?_
    refine lv_icmp_eq (tgt := 814) hx hb d_law_809 (by decide) (fun _ => ?_) (fun h9 => absurd hcode h9)
    refine lv_iload hx hb d_law_814 (lv_at hl 1 rfl) ?_
    refine lv_if_ne (tgt := 831) hx hb d_law_816 (by decide) (fun h9 => absurd rfl h9) (fun _ => ?_)
    refine lv_aload_n hx hb d_law_819 rfl (lv_at hl 5 rfl) ?_
    refine lv_iconst (v := 0) hx hb d_law_820 (by decide) ?_
    refine va_lald (f := Ou_f ou') hx hb hK hP 47 2 rfl rfl (inb_in (by decide)) d_law_821 ?_
    refine lv_iload hx hb d_law_822 (lv_at hl 0 rfl) ?_
    refine lv_i2l (v := r.toInt64) hx hb d_law_824 rfl ?_
    refine W.lcmp hx hb d_law_825 ?_
    refine lv_if_eq (tgt := 831) hx hb d_law_826 (by decide) (fun _ => ?_) (fun h9 => absurd (by rw [hou]; exact cmp_self _) h9)
    refine lv_goto (tgt := 1131) hx hb d_law_831 (by decide) ?_
    have hl := lv_sub (l' := [(0, .ref b), (1, .ref (sd_a 0)), (2, .ref (mo_a 0)), (3, .ref (ou_a 0)), (4, .int i)]) hl [2, 3, 4, 5, 6] rfl
    refine W.widen (k := j + 1 + Br_byL w + Br_byL v') (n := 6 * (j + 1) + 2 * Br_byL w + 2 * Br_byL v') (by omega) (by omega) ?_
    exact hk _ _ _ cu_a sp_a w_b v_q1 cu sp w v' wr rd cb mo' ou' hrel hP hD hS hl
  · refine lv_aload_n hx hb d_law_790 rfl (lv_at hl 1 rfl) ?_
    refine lv_aload_n hx hb d_law_791 rfl (lv_at hl 3 rfl) ?_
    have pm9 : ((wSd cI cZ cJ sd_a w_a v_a (wr_a 0) (rd_a 0) (cu_a 0) (sp_a 0) sd ++ wSy cI cZ cJ cu_a cu ++ wSy cI cZ cJ sp_a sp ++ wBr cI cZ cJ w_a w_b w ++ wBr cI cZ cJ v_a v_b v ++ wWr cI cZ cJ wr_a (cb_a 0) wr ++ wRd cI cZ cJ rd_a (cb_a 0) rd ++ wCb cI cZ cJ cb_a w_a v_a cb ++ wMo cI cZ cJ mo_a mo ++ wOu cI cZ cJ ou_a ou) : va_W).Perm ((wSd cI cZ cJ sd_a w_a v_a (wr_a 0) (rd_a 0) (cu_a 0) (sp_a 0) sd ++ wBr cI cZ cJ w_a w_b w ++ wBr cI cZ cJ v_a v_b v ++ wOu cI cZ cJ ou_a ou) ++ (wSy cI cZ cJ cu_a cu ++ wSy cI cZ cJ sp_a sp ++ wWr cI cZ cJ wr_a (cb_a 0) wr ++ wRd cI cZ cJ rd_a (cb_a 0) rd ++ wCb cI cZ cJ cb_a w_a v_a cb ++ wMo cI cZ cJ mo_a mo)) := pm_10 _ _ _ _ _ _ _ _ _ _
    have hPc := pw_P (ws' := (wSd cI cZ cJ sd_a w_a v_a (wr_a 0) (rd_a 0) (cu_a 0) (sp_a 0) sd ++ wBr cI cZ cJ w_a w_b w ++ wBr cI cZ cJ v_a v_b v ++ wOu cI cZ cJ ou_a ou)) hP (fun q hq => pm9.mem_iff.mpr (List.mem_append_left _ hq))
    have hDc := pw_D (wc := (wSd cI cZ cJ sd_a w_a v_a (wr_a 0) (rd_a 0) (cu_a 0) (sp_a 0) sd ++ wBr cI cZ cJ w_a w_b w ++ wBr cI cZ cJ v_a v_b v ++ wOu cI cZ cJ ou_a ou)) hD pm9
    have hFc := pw_free (wc := (wSd cI cZ cJ sd_a w_a v_a (wr_a 0) (rd_a 0) (cu_a 0) (sp_a 0) sd ++ wBr cI cZ cJ w_a w_b w ++ wBr cI cZ cJ v_a v_b v ++ wOu cI cZ cJ ou_a ou)) hD hS hA (fun q hq => pm9.mem_iff.mpr (List.mem_append_left _ hq))
    refine va_calli (w_runS (As := [.ref (sd_a 0), .ref (ou_a 0)]) (rest := []) ⟨hx, hb, hml, hown, hts⟩ (kx_Law_pass_4 l hl9 dC dI cI cZ cJ sd_a w_a w_b v_a v_b ou_a (wr_a 0) (rd_a 0) (cu_a 0) (sp_a 0) H.size hf) (cwH_of 2 hts t_759 rfl rfl t_53 t_757 t_758 hd_Law_pass.2 ⟨Nat.le_trans (Nat.le_of_ble_eq_true rfl) hRf, Nat.le_trans (Nat.le_of_ble_eq_true rfl) hRl⟩) ⟨kPX_blind, kPX_at hPc hK hDc hN (fun q hq => hS.2.1 q hq (fun h9 => absurd (hA2 q h9) (Nat.not_le.mpr hq))) hT hX⟩ rfl rfl hl.1 rfl (lv_room (Nat.le_of_ble_eq_true rfl)) d_law_792 ⟨by omega, by omega⟩) hS (fun q _ h => hFc q h) hFc (fun r9 u t H1 locs ht hvm hw hB hz1 hk1 hS => ?_)
    rw [hw]
    obtain ⟨hP, hD⟩ := pw_join (wr := (wSy cI cZ cJ cu_a cu ++ wSy cI cZ cJ sp_a sp ++ wWr cI cZ cJ wr_a (cb_a 0) wr ++ wRd cI cZ cJ rd_a (cb_a 0) rd ++ wCb cI cZ cJ cb_a w_a v_a cb ++ wMo cI cZ cJ mo_a mo)) (w1 := (wSd cI cZ cJ sd_a w_a v_a (wr_a 0) (rd_a 0) (cu_a 0) (sp_a 0) sd ++ wBr cI cZ cJ w_a w_b w ++ wBr cI cZ cJ v_a v_b v ++ wOu cI cZ cJ ou_a ou)) hP hD pm9 ht hk1 hFc hB
    generalize H1 = H at hP hS ⊢
    have pm9 : ((wSy cI cZ cJ cu_a cu ++ wSy cI cZ cJ sp_a sp ++ wWr cI cZ cJ wr_a (cb_a 0) wr ++ wRd cI cZ cJ rd_a (cb_a 0) rd ++ wCb cI cZ cJ cb_a w_a v_a cb ++ wMo cI cZ cJ mo_a mo) ++ (wSd cI cZ cJ sd_a w_a v_a (wr_a 0) (rd_a 0) (cu_a 0) (sp_a 0) sd ++ wBr cI cZ cJ w_a w_b w ++ wBr cI cZ cJ v_a v_b v ++ wOu cI cZ cJ ou_a ou) : va_W).Perm (wSd cI cZ cJ sd_a w_a v_a (wr_a 0) (rd_a 0) (cu_a 0) (sp_a 0) sd ++ wSy cI cZ cJ cu_a cu ++ wSy cI cZ cJ sp_a sp ++ wBr cI cZ cJ w_a w_b w ++ wBr cI cZ cJ v_a v_b v ++ wWr cI cZ cJ wr_a (cb_a 0) wr ++ wRd cI cZ cJ rd_a (cb_a 0) rd ++ wCb cI cZ cJ cb_a w_a v_a cb ++ wMo cI cZ cJ mo_a mo ++ wOu cI cZ cJ ou_a ou) := pm_11 _ _ _ _ _ _ _ _ _ _
    have hP : va_P (dC, dI) vwCl (wSd cI cZ cJ sd_a w_a v_a (wr_a 0) (rd_a 0) (cu_a 0) (sp_a 0) sd ++ wSy cI cZ cJ cu_a cu ++ wSy cI cZ cJ sp_a sp ++ wBr cI cZ cJ w_a w_b w ++ wBr cI cZ cJ v_a v_b v ++ wWr cI cZ cJ wr_a (cb_a 0) wr ++ wRd cI cZ cJ rd_a (cb_a 0) rd ++ wCb cI cZ cJ cb_a w_a v_a cb ++ wMo cI cZ cJ mo_a mo ++ wOu cI cZ cJ ou_a ou) H := pw_P hP (fun q hq => pm9.mem_iff.mpr hq)
    have hD : va_D A (wSd cI cZ cJ sd_a w_a v_a (wr_a 0) (rd_a 0) (cu_a 0) (sp_a 0) sd ++ wSy cI cZ cJ cu_a cu ++ wSy cI cZ cJ sp_a sp ++ wBr cI cZ cJ w_a w_b w ++ wBr cI cZ cJ v_a v_b v ++ wWr cI cZ cJ wr_a (cb_a 0) wr ++ wRd cI cZ cJ rd_a (cb_a 0) rd ++ wCb cI cZ cJ cb_a w_a v_a cb ++ wMo cI cZ cJ mo_a mo ++ wOu cI cZ cJ ou_a ou) := pw_Dp hD pm9
    refine lv_istore (lv' := [(5, .int 1), (0, .ref b), (1, .ref (sd_a 0)), (2, .ref (mo_a 0)), (3, .ref (ou_a 0)), (4, .int i)]) hx hb d_law_795 hl (by decide) rfl (fun ls hl => ?_)
    refine lv_aload_n hx hb d_law_797 rfl (lv_at hl 3 rfl) ?_
    have pm9 : ((wSd cI cZ cJ sd_a w_a v_a (wr_a 0) (rd_a 0) (cu_a 0) (sp_a 0) sd ++ wSy cI cZ cJ cu_a cu ++ wSy cI cZ cJ sp_a sp ++ wBr cI cZ cJ w_a w_b w ++ wBr cI cZ cJ v_a v_b v ++ wWr cI cZ cJ wr_a (cb_a 0) wr ++ wRd cI cZ cJ rd_a (cb_a 0) rd ++ wCb cI cZ cJ cb_a w_a v_a cb ++ wMo cI cZ cJ mo_a mo ++ wOu cI cZ cJ ou_a ou) : va_W).Perm ((wMo cI cZ cJ mo_a mo) ++ (wSd cI cZ cJ sd_a w_a v_a (wr_a 0) (rd_a 0) (cu_a 0) (sp_a 0) sd ++ wSy cI cZ cJ cu_a cu ++ wSy cI cZ cJ sp_a sp ++ wBr cI cZ cJ w_a w_b w ++ wBr cI cZ cJ v_a v_b v ++ wWr cI cZ cJ wr_a (cb_a 0) wr ++ wRd cI cZ cJ rd_a (cb_a 0) rd ++ wCb cI cZ cJ cb_a w_a v_a cb ++ wOu cI cZ cJ ou_a ou)) := pm_2 _ _ _ _ _ _ _ _ _ _
    have hPc := pw_P (ws' := (wMo cI cZ cJ mo_a mo)) hP (fun q hq => pm9.mem_iff.mpr (List.mem_append_left _ hq))
    have hDc := pw_D (wc := (wMo cI cZ cJ mo_a mo)) hD pm9
    have hFc := pw_free (wc := (wMo cI cZ cJ mo_a mo)) hD hS hA (fun q hq => pm9.mem_iff.mpr (List.mem_append_left _ hq))
    refine va_calli (va_runV (As := []) (rest := []) ⟨hx, hb, hml, hown, hts⟩ (k_Model_pass l dC dI cI cZ cJ mo_a H.size hg) (cwV 0 hts (gV t_1043 t_1044 t_1045 t_63 t_1046) rfl rfl rfl hd_Model_pass ⟨Nat.le_trans (Nat.le_of_ble_eq_true rfl) hRf, Nat.le_trans (Nat.le_of_ble_eq_true rfl) hRl⟩) ⟨kP_blind, va_recv hK hPc (ci := 7) (q0 := 0) rfl rfl, kP_at hPc hK hDc hN⟩ rfl rfl hl.1 rfl (lv_room (Nat.le_of_ble_eq_true rfl)) d_law_798 ⟨by omega, by omega⟩) hS (fun q _ h => hFc q h) hFc (fun r9 u t H1 locs ht hvm hw hB hz1 hk1 hS => ?_)
    rw [hw]
    obtain ⟨hP, hD⟩ := pw_join (wr := (wSd cI cZ cJ sd_a w_a v_a (wr_a 0) (rd_a 0) (cu_a 0) (sp_a 0) sd ++ wSy cI cZ cJ cu_a cu ++ wSy cI cZ cJ sp_a sp ++ wBr cI cZ cJ w_a w_b w ++ wBr cI cZ cJ v_a v_b v ++ wWr cI cZ cJ wr_a (cb_a 0) wr ++ wRd cI cZ cJ rd_a (cb_a 0) rd ++ wCb cI cZ cJ cb_a w_a v_a cb ++ wOu cI cZ cJ ou_a ou)) (w1 := (wMo cI cZ cJ mo_a mo')) hP hD pm9 ht hk1 hFc hB
    generalize H1 = H at hP hS ⊢
    have pm9 : ((wSd cI cZ cJ sd_a w_a v_a (wr_a 0) (rd_a 0) (cu_a 0) (sp_a 0) sd ++ wSy cI cZ cJ cu_a cu ++ wSy cI cZ cJ sp_a sp ++ wBr cI cZ cJ w_a w_b w ++ wBr cI cZ cJ v_a v_b v ++ wWr cI cZ cJ wr_a (cb_a 0) wr ++ wRd cI cZ cJ rd_a (cb_a 0) rd ++ wCb cI cZ cJ cb_a w_a v_a cb ++ wOu cI cZ cJ ou_a ou) ++ (wMo cI cZ cJ mo_a mo') : va_W).Perm (wSd cI cZ cJ sd_a w_a v_a (wr_a 0) (rd_a 0) (cu_a 0) (sp_a 0) sd ++ wSy cI cZ cJ cu_a cu ++ wSy cI cZ cJ sp_a sp ++ wBr cI cZ cJ w_a w_b w ++ wBr cI cZ cJ v_a v_b v ++ wWr cI cZ cJ wr_a (cb_a 0) wr ++ wRd cI cZ cJ rd_a (cb_a 0) rd ++ wCb cI cZ cJ cb_a w_a v_a cb ++ wMo cI cZ cJ mo_a mo' ++ wOu cI cZ cJ ou_a ou) := pm_3 _ _ _ _ _ _ _ _ _ _
    have hP : va_P (dC, dI) vwCl (wSd cI cZ cJ sd_a w_a v_a (wr_a 0) (rd_a 0) (cu_a 0) (sp_a 0) sd ++ wSy cI cZ cJ cu_a cu ++ wSy cI cZ cJ sp_a sp ++ wBr cI cZ cJ w_a w_b w ++ wBr cI cZ cJ v_a v_b v ++ wWr cI cZ cJ wr_a (cb_a 0) wr ++ wRd cI cZ cJ rd_a (cb_a 0) rd ++ wCb cI cZ cJ cb_a w_a v_a cb ++ wMo cI cZ cJ mo_a mo' ++ wOu cI cZ cJ ou_a ou) H := pw_P hP (fun q hq => pm9.mem_iff.mpr hq)
    have hD : va_D A (wSd cI cZ cJ sd_a w_a v_a (wr_a 0) (rd_a 0) (cu_a 0) (sp_a 0) sd ++ wSy cI cZ cJ cu_a cu ++ wSy cI cZ cJ sp_a sp ++ wBr cI cZ cJ w_a w_b w ++ wBr cI cZ cJ v_a v_b v ++ wWr cI cZ cJ wr_a (cb_a 0) wr ++ wRd cI cZ cJ rd_a (cb_a 0) rd ++ wCb cI cZ cJ cb_a w_a v_a cb ++ wMo cI cZ cJ mo_a mo' ++ wOu cI cZ cJ ou_a ou) := pw_Dp hD pm9
    refine lv_istore (lv' := [(6, .int q), (5, .int 1), (0, .ref b), (1, .ref (sd_a 0)), (2, .ref (mo_a 0)), (3, .ref (ou_a 0)), (4, .int i)]) hx hb d_law_801 hl (by decide) rfl (fun ls hl => ?_)
    refine lv_aload_n hx hb d_law_803 rfl (lv_at hl 4 rfl) ?_
    have hth : f_Model_thrown mo' = some (Mo_code mo') := rfl
    have pm9 : ((wSd cI cZ cJ sd_a w_a v_a (wr_a 0) (rd_a 0) (cu_a 0) (sp_a 0) sd ++ wSy cI cZ cJ cu_a cu ++ wSy cI cZ cJ sp_a sp ++ wBr cI cZ cJ w_a w_b w ++ wBr cI cZ cJ v_a v_b v ++ wWr cI cZ cJ wr_a (cb_a 0) wr ++ wRd cI cZ cJ rd_a (cb_a 0) rd ++ wCb cI cZ cJ cb_a w_a v_a cb ++ wMo cI cZ cJ mo_a mo' ++ wOu cI cZ cJ ou_a ou) : va_W).Perm ((wMo cI cZ cJ mo_a mo') ++ (wSd cI cZ cJ sd_a w_a v_a (wr_a 0) (rd_a 0) (cu_a 0) (sp_a 0) sd ++ wSy cI cZ cJ cu_a cu ++ wSy cI cZ cJ sp_a sp ++ wBr cI cZ cJ w_a w_b w ++ wBr cI cZ cJ v_a v_b v ++ wWr cI cZ cJ wr_a (cb_a 0) wr ++ wRd cI cZ cJ rd_a (cb_a 0) rd ++ wCb cI cZ cJ cb_a w_a v_a cb ++ wOu cI cZ cJ ou_a ou)) := pm_2 _ _ _ _ _ _ _ _ _ _
    have hPc := pw_P (ws' := (wMo cI cZ cJ mo_a mo')) hP (fun q hq => pm9.mem_iff.mpr (List.mem_append_left _ hq))
    have hDc := pw_D (wc := (wMo cI cZ cJ mo_a mo')) hD pm9
    have hFc := pw_free (wc := (wMo cI cZ cJ mo_a mo')) hD hS hA (fun q hq => pm9.mem_iff.mpr (List.mem_append_left _ hq))
    refine va_calli (va_runV (As := []) (rest := []) ⟨hx, hb, hml, hown, hts⟩ (k_Model_thrown l dC dI cI cZ cJ mo_a H.size hth) (cwV 0 hts (gV t_906 t_907 t_908 t_63 t_909) rfl rfl rfl hd_Model_thrown ⟨Nat.le_trans (Nat.le_of_ble_eq_true rfl) hRf, Nat.le_trans (Nat.le_of_ble_eq_true rfl) hRl⟩) ⟨kP_blind, va_recv hK hPc (ci := 7) (q0 := 0) rfl rfl, kP_at hPc hK hDc hN⟩ rfl rfl hl.1 rfl (lv_room (Nat.le_of_ble_eq_true rfl)) d_law_804 ⟨by omega, by omega⟩) hS (fun q _ h => hFc q h) hFc (fun r9 u t H1 locs ht hvm hw hB hz1 hk1 hS => ?_)
    rw [hw]
    obtain ⟨hP, hD⟩ := pw_join (wr := (wSd cI cZ cJ sd_a w_a v_a (wr_a 0) (rd_a 0) (cu_a 0) (sp_a 0) sd ++ wSy cI cZ cJ cu_a cu ++ wSy cI cZ cJ sp_a sp ++ wBr cI cZ cJ w_a w_b w ++ wBr cI cZ cJ v_a v_b v ++ wWr cI cZ cJ wr_a (cb_a 0) wr ++ wRd cI cZ cJ rd_a (cb_a 0) rd ++ wCb cI cZ cJ cb_a w_a v_a cb ++ wOu cI cZ cJ ou_a ou)) (w1 := (wMo cI cZ cJ mo_a mo')) hP hD pm9 ht hk1 hFc hB
    generalize H1 = H at hP hS ⊢
    have pm9 : ((wSd cI cZ cJ sd_a w_a v_a (wr_a 0) (rd_a 0) (cu_a 0) (sp_a 0) sd ++ wSy cI cZ cJ cu_a cu ++ wSy cI cZ cJ sp_a sp ++ wBr cI cZ cJ w_a w_b w ++ wBr cI cZ cJ v_a v_b v ++ wWr cI cZ cJ wr_a (cb_a 0) wr ++ wRd cI cZ cJ rd_a (cb_a 0) rd ++ wCb cI cZ cJ cb_a w_a v_a cb ++ wOu cI cZ cJ ou_a ou) ++ (wMo cI cZ cJ mo_a mo') : va_W).Perm (wSd cI cZ cJ sd_a w_a v_a (wr_a 0) (rd_a 0) (cu_a 0) (sp_a 0) sd ++ wSy cI cZ cJ cu_a cu ++ wSy cI cZ cJ sp_a sp ++ wBr cI cZ cJ w_a w_b w ++ wBr cI cZ cJ v_a v_b v ++ wWr cI cZ cJ wr_a (cb_a 0) wr ++ wRd cI cZ cJ rd_a (cb_a 0) rd ++ wCb cI cZ cJ cb_a w_a v_a cb ++ wMo cI cZ cJ mo_a mo' ++ wOu cI cZ cJ ou_a ou) := pm_3 _ _ _ _ _ _ _ _ _ _
    have hP : va_P (dC, dI) vwCl (wSd cI cZ cJ sd_a w_a v_a (wr_a 0) (rd_a 0) (cu_a 0) (sp_a 0) sd ++ wSy cI cZ cJ cu_a cu ++ wSy cI cZ cJ sp_a sp ++ wBr cI cZ cJ w_a w_b w ++ wBr cI cZ cJ v_a v_b v ++ wWr cI cZ cJ wr_a (cb_a 0) wr ++ wRd cI cZ cJ rd_a (cb_a 0) rd ++ wCb cI cZ cJ cb_a w_a v_a cb ++ wMo cI cZ cJ mo_a mo' ++ wOu cI cZ cJ ou_a ou) H := pw_P hP (fun q hq => pm9.mem_iff.mpr hq)
    have hD : va_D A (wSd cI cZ cJ sd_a w_a v_a (wr_a 0) (rd_a 0) (cu_a 0) (sp_a 0) sd ++ wSy cI cZ cJ cu_a cu ++ wSy cI cZ cJ sp_a sp ++ wBr cI cZ cJ w_a w_b w ++ wBr cI cZ cJ v_a v_b v ++ wWr cI cZ cJ wr_a (cb_a 0) wr ++ wRd cI cZ cJ rd_a (cb_a 0) rd ++ wCb cI cZ cJ cb_a w_a v_a cb ++ wMo cI cZ cJ mo_a mo' ++ wOu cI cZ cJ ou_a ou) := pw_Dp hD pm9
    refine lv_iload hx hb d_law_807 (lv_at hl 1 rfl) ?_
    refine lv_icmp_eq (tgt := 814) hx hb d_law_809 (by decide) (fun _ => ?_) (fun h9 => absurd hcode h9)
    refine lv_iload hx hb d_law_814 (lv_at hl 1 rfl) ?_
    refine lv_if_ne (tgt := 831) hx hb d_law_816 (by decide) (fun _ => ?_) (fun h9 => absurd h9 (by decide))
    refine lv_goto (tgt := 1131) hx hb d_law_831 (by decide) ?_
    have hl := lv_sub (l' := [(0, .ref b), (1, .ref (sd_a 0)), (2, .ref (mo_a 0)), (3, .ref (ou_a 0)), (4, .int i)]) hl [2, 3, 4, 5, 6] rfl
    refine W.widen (k := j + 1 + Br_byL w + Br_byL v) (n := 6 * (j + 1) + 2 * Br_byL w + 2 * Br_byL v) (by omega) (by omega) ?_
    exact hk _ _ _ cu_a sp_a w_b v_b cu sp w v wr rd cb mo' ou hrel hP hD hS hl
set_option maxHeartbeats 8000000 in
set_option maxRecDepth 100000 in
theorem L_C_read {p : Program} {l : Launch} {e : Env} {R : Room} {s : State} {m : MethodId} {args : Array Value} {below : List Frame} {meth : Method} {c : Code} {Q : State → Prop} {A : Nat → Prop} {dC : Nat → ClassId} {dI : Nat → Nat → Nat} {cI cZ cJ : ClassId} {sd_a cu_a sp_a : Nat → Nat} {w_a w_b v_a v_b : Nat} {wr_a rd_a cb_a mo_a ou_a : Nat → Nat} {sd : Sd} {cu sp : Sy} {w v : Br} {wr : Wr} {rd : Rd} {cb : Cb} {mo : Mo} {ou : Ou} {b L : Nat} {xs : Nat → Int32} {i : Int32} {j : Nat} {Rl : Sd → Sy → Sy → Br → Br → Wr → Rd → Cb → Mo → Prop} (hl9 : l.stackTraces = false) (C0 : lcx p c m s args R (dC, dI) (TYS cI cZ cJ) A b L xs i j) (hRb : ∀ sd cu sp w v wr rd cb mo, Rl sd cu sp w v wr rd cb mo → Br_byL w ≤ 40000 ∧ Br_byL v ≤ 40000) (hR0 : Rl sd cu sp w v wr rd cb mo) (hT0 : T_C_read Rl sd cu sp w v wr rd cb mo)
    (hk : ∀ (H : Heap) (locs : List Loc) (ls : Array Slot) (cu_a sp_a : Nat → Nat) (w_b v_b : Nat) (cu sp : Sy) (w v : Br) (wr : Wr) (rd : Rd) (cb : Cb) (mo : Mo) (ou : Ou), Rl sd cu sp w v wr rd cb mo → va_P (dC, dI) vwCl (wSd cI cZ cJ sd_a w_a v_a (wr_a 0) (rd_a 0) (cu_a 0) (sp_a 0) sd ++ wSy cI cZ cJ cu_a cu ++ wSy cI cZ cJ sp_a sp ++ wBr cI cZ cJ w_a w_b w ++ wBr cI cZ cJ v_a v_b v ++ wWr cI cZ cJ wr_a (cb_a 0) wr ++ wRd cI cZ cJ rd_a (cb_a 0) rd ++ wCb cI cZ cJ cb_a w_a v_a cb ++ wMo cI cZ cJ mo_a mo ++ wOu cI cZ cJ ou_a ou) H → va_D A (wSd cI cZ cJ sd_a w_a v_a (wr_a 0) (rd_a 0) (cu_a 0) (sp_a 0) sd ++ wSy cI cZ cJ cu_a cu ++ wSy cI cZ cJ sp_a sp ++ wBr cI cZ cJ w_a w_b w ++ wBr cI cZ cJ v_a v_b v ++ wWr cI cZ cJ wr_a (cb_a 0) wr ++ wRd cI cZ cJ rd_a (cb_a 0) rd ++ wCb cI cZ cJ cb_a w_a v_a cb ++ wMo cI cZ cJ mo_a mo ++ wOu cI cZ cJ ou_a ou) → va_S A s.heap H locs → lv_has ls 7 [(0, .ref b), (1, .ref (sd_a 0)), (2, .ref (mo_a 0)), (3, .ref (ou_a 0)), (4, .int i)] → W p l e R s m args below meth c H locs (j + 1 + Br_byL w + Br_byL v) (6 * (j + 1) + 2 * Br_byL w + 2 * Br_byL v) Q (F0 m 1131 ls []))
    {H : Heap} {locs : List Loc} {ls : Array Slot} (hP : va_P (dC, dI) vwCl (wSd cI cZ cJ sd_a w_a v_a (wr_a 0) (rd_a 0) (cu_a 0) (sp_a 0) sd ++ wSy cI cZ cJ cu_a cu ++ wSy cI cZ cJ sp_a sp ++ wBr cI cZ cJ w_a w_b w ++ wBr cI cZ cJ v_a v_b v ++ wWr cI cZ cJ wr_a (cb_a 0) wr ++ wRd cI cZ cJ rd_a (cb_a 0) rd ++ wCb cI cZ cJ cb_a w_a v_a cb ++ wMo cI cZ cJ mo_a mo ++ wOu cI cZ cJ ou_a ou) H) (hD : va_D A (wSd cI cZ cJ sd_a w_a v_a (wr_a 0) (rd_a 0) (cu_a 0) (sp_a 0) sd ++ wSy cI cZ cJ cu_a cu ++ wSy cI cZ cJ sp_a sp ++ wBr cI cZ cJ w_a w_b w ++ wBr cI cZ cJ v_a v_b v ++ wWr cI cZ cJ wr_a (cb_a 0) wr ++ wRd cI cZ cJ rd_a (cb_a 0) rd ++ wCb cI cZ cJ cb_a w_a v_a cb ++ wMo cI cZ cJ mo_a mo ++ wOu cI cZ cJ ou_a ou)) (hS : va_S A s.heap H locs) (hl : lv_has ls 7 [(0, .ref b), (1, .ref (sd_a 0)), (2, .ref (mo_a 0)), (3, .ref (ou_a 0)), (4, .int i)]) : W p l e R s m args below meth c H locs (j + Br_byL w + Br_byL v) (6 * j + 2 * Br_byL w + 2 * Br_byL v) Q (F0 m 834 ls []) := by
  obtain ⟨hx, hb, hml, hown, hts, hK, hA, hA2, hRf, hRl, hN, hT, hX, hX0, hbl, hin, hj, hRc, hRs⟩ := C0
  have hbA : ¬ A b := fun h => absurd (hA2 b h) (Nat.not_le.mpr hbl)
  obtain ⟨hw0, hv0⟩ := hRb _ _ _ _ _ _ _ _ _ hR0
  unfold T_C_read at hT0
  rcases hT0 with ⟨r, rd', cb', v', sp', mo', hf, hg, hlen, hrel⟩ | ⟨r, rd', cb', v', sp', mo', hf, hg, hlen, hrel⟩
  · refine lv_aload_n hx hb d_law_834 rfl (lv_at hl 1 rfl) ?_
    have pm9 : ((wSd cI cZ cJ sd_a w_a v_a (wr_a 0) (rd_a 0) (cu_a 0) (sp_a 0) sd ++ wSy cI cZ cJ cu_a cu ++ wSy cI cZ cJ sp_a sp ++ wBr cI cZ cJ w_a w_b w ++ wBr cI cZ cJ v_a v_b v ++ wWr cI cZ cJ wr_a (cb_a 0) wr ++ wRd cI cZ cJ rd_a (cb_a 0) rd ++ wCb cI cZ cJ cb_a w_a v_a cb ++ wMo cI cZ cJ mo_a mo ++ wOu cI cZ cJ ou_a ou) : va_W).Perm ((wSd cI cZ cJ sd_a w_a v_a (wr_a 0) (rd_a 0) (cu_a 0) (sp_a 0) sd ++ wRd cI cZ cJ rd_a (cb_a 0) rd ++ wCb cI cZ cJ cb_a w_a v_a cb ++ wBr cI cZ cJ v_a v_b v ++ wSy cI cZ cJ cu_a cu ++ wSy cI cZ cJ sp_a sp) ++ (wBr cI cZ cJ w_a w_b w ++ wWr cI cZ cJ wr_a (cb_a 0) wr ++ wMo cI cZ cJ mo_a mo ++ wOu cI cZ cJ ou_a ou)) := pm_12 _ _ _ _ _ _ _ _ _ _
    have hPc := pw_P (ws' := (wSd cI cZ cJ sd_a w_a v_a (wr_a 0) (rd_a 0) (cu_a 0) (sp_a 0) sd ++ wRd cI cZ cJ rd_a (cb_a 0) rd ++ wCb cI cZ cJ cb_a w_a v_a cb ++ wBr cI cZ cJ v_a v_b v ++ wSy cI cZ cJ cu_a cu ++ wSy cI cZ cJ sp_a sp)) hP (fun q hq => pm9.mem_iff.mpr (List.mem_append_left _ hq))
    have hDc := pw_D (wc := (wSd cI cZ cJ sd_a w_a v_a (wr_a 0) (rd_a 0) (cu_a 0) (sp_a 0) sd ++ wRd cI cZ cJ rd_a (cb_a 0) rd ++ wCb cI cZ cJ cb_a w_a v_a cb ++ wBr cI cZ cJ v_a v_b v ++ wSy cI cZ cJ cu_a cu ++ wSy cI cZ cJ sp_a sp)) hD pm9
    have hFc := pw_free (wc := (wSd cI cZ cJ sd_a w_a v_a (wr_a 0) (rd_a 0) (cu_a 0) (sp_a 0) sd ++ wRd cI cZ cJ rd_a (cb_a 0) rd ++ wCb cI cZ cJ cb_a w_a v_a cb ++ wBr cI cZ cJ v_a v_b v ++ wSy cI cZ cJ cu_a cu ++ wSy cI cZ cJ sp_a sp)) hD hS hA (fun q hq => pm9.mem_iff.mpr (List.mem_append_left _ hq))
    refine va_calli (va_runV (As := []) (rest := []) ⟨hx, hb, hml, hown, hts⟩ (k_C_SD_readN l dC dI cI cZ cJ sd_a rd_a cb_a v_a v_b cu_a sp_a w_a (wr_a 0) H.size hf) (cwV 0 hts (gV t_433 t_434 t_435 t_54 t_436) rfl rfl rfl hd_SD_read ⟨Nat.le_trans (Nat.le_of_ble_eq_true rfl) hRf, Nat.le_trans (Nat.le_of_ble_eq_true rfl) hRl⟩) ⟨kP_blind, va_recv hK hPc (ci := 6) (q0 := 0) rfl rfl, kP_at hPc hK hDc hN⟩ rfl rfl hl.1 rfl (lv_room (Nat.le_of_ble_eq_true rfl)) d_law_835 ⟨by omega, by omega⟩) hS (fun q _ h => hFc q h) hFc (fun r9 u t H1 locs ht hvm hw hB hz1 hk1 hS => ?_)
    rw [hw]
    obtain ⟨hP, hD⟩ := pw_join (wr := (wBr cI cZ cJ w_a w_b w ++ wWr cI cZ cJ wr_a (cb_a 0) wr ++ wMo cI cZ cJ mo_a mo ++ wOu cI cZ cJ ou_a ou)) (w1 := (wSd cI cZ cJ sd_a w_a v_a (wr_a 0) (rd_a 0) (cu_a 0) (sp_a 0) sd ++ wRd cI cZ cJ rd_a (cb_a 0) rd' ++ wCb cI cZ cJ cb_a w_a v_a cb' ++ wBr cI cZ cJ v_a v_b v' ++ wSy cI cZ cJ cu_a cu ++ wSy cI cZ cJ sp_a sp')) hP hD pm9 ht hk1 hFc hB
    generalize H1 = H at hP hS ⊢
    have pm9 : ((wBr cI cZ cJ w_a w_b w ++ wWr cI cZ cJ wr_a (cb_a 0) wr ++ wMo cI cZ cJ mo_a mo ++ wOu cI cZ cJ ou_a ou) ++ (wSd cI cZ cJ sd_a w_a v_a (wr_a 0) (rd_a 0) (cu_a 0) (sp_a 0) sd ++ wRd cI cZ cJ rd_a (cb_a 0) rd' ++ wCb cI cZ cJ cb_a w_a v_a cb' ++ wBr cI cZ cJ v_a v_b v' ++ wSy cI cZ cJ cu_a cu ++ wSy cI cZ cJ sp_a sp') : va_W).Perm (wSd cI cZ cJ sd_a w_a v_a (wr_a 0) (rd_a 0) (cu_a 0) (sp_a 0) sd ++ wSy cI cZ cJ cu_a cu ++ wSy cI cZ cJ sp_a sp' ++ wBr cI cZ cJ w_a w_b w ++ wBr cI cZ cJ v_a v_b v' ++ wWr cI cZ cJ wr_a (cb_a 0) wr ++ wRd cI cZ cJ rd_a (cb_a 0) rd' ++ wCb cI cZ cJ cb_a w_a v_a cb' ++ wMo cI cZ cJ mo_a mo ++ wOu cI cZ cJ ou_a ou) := pm_13 _ _ _ _ _ _ _ _ _ _
    have hP : va_P (dC, dI) vwCl (wSd cI cZ cJ sd_a w_a v_a (wr_a 0) (rd_a 0) (cu_a 0) (sp_a 0) sd ++ wSy cI cZ cJ cu_a cu ++ wSy cI cZ cJ sp_a sp' ++ wBr cI cZ cJ w_a w_b w ++ wBr cI cZ cJ v_a v_b v' ++ wWr cI cZ cJ wr_a (cb_a 0) wr ++ wRd cI cZ cJ rd_a (cb_a 0) rd' ++ wCb cI cZ cJ cb_a w_a v_a cb' ++ wMo cI cZ cJ mo_a mo ++ wOu cI cZ cJ ou_a ou) H := pw_P hP (fun q hq => pm9.mem_iff.mpr hq)
    have hD : va_D A (wSd cI cZ cJ sd_a w_a v_a (wr_a 0) (rd_a 0) (cu_a 0) (sp_a 0) sd ++ wSy cI cZ cJ cu_a cu ++ wSy cI cZ cJ sp_a sp' ++ wBr cI cZ cJ w_a w_b w ++ wBr cI cZ cJ v_a v_b v' ++ wWr cI cZ cJ wr_a (cb_a 0) wr ++ wRd cI cZ cJ rd_a (cb_a 0) rd' ++ wCb cI cZ cJ cb_a w_a v_a cb' ++ wMo cI cZ cJ mo_a mo ++ wOu cI cZ cJ ou_a ou) := pw_Dp hD pm9
    refine lv_aload_n hx hb d_law_838 rfl (lv_at hl 2 rfl) ?_
    have pm9 : ((wSd cI cZ cJ sd_a w_a v_a (wr_a 0) (rd_a 0) (cu_a 0) (sp_a 0) sd ++ wSy cI cZ cJ cu_a cu ++ wSy cI cZ cJ sp_a sp' ++ wBr cI cZ cJ w_a w_b w ++ wBr cI cZ cJ v_a v_b v' ++ wWr cI cZ cJ wr_a (cb_a 0) wr ++ wRd cI cZ cJ rd_a (cb_a 0) rd' ++ wCb cI cZ cJ cb_a w_a v_a cb' ++ wMo cI cZ cJ mo_a mo ++ wOu cI cZ cJ ou_a ou) : va_W).Perm ((wMo cI cZ cJ mo_a mo) ++ (wSd cI cZ cJ sd_a w_a v_a (wr_a 0) (rd_a 0) (cu_a 0) (sp_a 0) sd ++ wSy cI cZ cJ cu_a cu ++ wSy cI cZ cJ sp_a sp' ++ wBr cI cZ cJ w_a w_b w ++ wBr cI cZ cJ v_a v_b v' ++ wWr cI cZ cJ wr_a (cb_a 0) wr ++ wRd cI cZ cJ rd_a (cb_a 0) rd' ++ wCb cI cZ cJ cb_a w_a v_a cb' ++ wOu cI cZ cJ ou_a ou)) := pm_2 _ _ _ _ _ _ _ _ _ _
    have hPc := pw_P (ws' := (wMo cI cZ cJ mo_a mo)) hP (fun q hq => pm9.mem_iff.mpr (List.mem_append_left _ hq))
    have hDc := pw_D (wc := (wMo cI cZ cJ mo_a mo)) hD pm9
    have hFc := pw_free (wc := (wMo cI cZ cJ mo_a mo)) hD hS hA (fun q hq => pm9.mem_iff.mpr (List.mem_append_left _ hq))
    refine va_calli (va_runV (As := []) (rest := [.int r]) ⟨hx, hb, hml, hown, hts⟩ (k_Model_read l dC dI cI cZ cJ mo_a H.size hg) (cwV 0 hts (gV t_1047 t_1048 t_1049 t_63 t_1050) rfl rfl rfl hd_Model_read ⟨Nat.le_trans (Nat.le_of_ble_eq_true rfl) hRf, Nat.le_trans (Nat.le_of_ble_eq_true rfl) hRl⟩) ⟨kP_blind, va_recv hK hPc (ci := 7) (q0 := 0) rfl rfl, kP_at hPc hK hDc hN⟩ rfl rfl hl.1 rfl (lv_room (Nat.le_of_ble_eq_true rfl)) d_law_839 ⟨by omega, by omega⟩) hS (fun q _ h => hFc q h) hFc (fun r9 u t H1 locs ht hvm hw hB hz1 hk1 hS => ?_)
    rw [hw]
    obtain ⟨hP, hD⟩ := pw_join (wr := (wSd cI cZ cJ sd_a w_a v_a (wr_a 0) (rd_a 0) (cu_a 0) (sp_a 0) sd ++ wSy cI cZ cJ cu_a cu ++ wSy cI cZ cJ sp_a sp' ++ wBr cI cZ cJ w_a w_b w ++ wBr cI cZ cJ v_a v_b v' ++ wWr cI cZ cJ wr_a (cb_a 0) wr ++ wRd cI cZ cJ rd_a (cb_a 0) rd' ++ wCb cI cZ cJ cb_a w_a v_a cb' ++ wOu cI cZ cJ ou_a ou)) (w1 := (wMo cI cZ cJ mo_a mo')) hP hD pm9 ht hk1 hFc hB
    generalize H1 = H at hP hS ⊢
    have pm9 : ((wSd cI cZ cJ sd_a w_a v_a (wr_a 0) (rd_a 0) (cu_a 0) (sp_a 0) sd ++ wSy cI cZ cJ cu_a cu ++ wSy cI cZ cJ sp_a sp' ++ wBr cI cZ cJ w_a w_b w ++ wBr cI cZ cJ v_a v_b v' ++ wWr cI cZ cJ wr_a (cb_a 0) wr ++ wRd cI cZ cJ rd_a (cb_a 0) rd' ++ wCb cI cZ cJ cb_a w_a v_a cb' ++ wOu cI cZ cJ ou_a ou) ++ (wMo cI cZ cJ mo_a mo') : va_W).Perm (wSd cI cZ cJ sd_a w_a v_a (wr_a 0) (rd_a 0) (cu_a 0) (sp_a 0) sd ++ wSy cI cZ cJ cu_a cu ++ wSy cI cZ cJ sp_a sp' ++ wBr cI cZ cJ w_a w_b w ++ wBr cI cZ cJ v_a v_b v' ++ wWr cI cZ cJ wr_a (cb_a 0) wr ++ wRd cI cZ cJ rd_a (cb_a 0) rd' ++ wCb cI cZ cJ cb_a w_a v_a cb' ++ wMo cI cZ cJ mo_a mo' ++ wOu cI cZ cJ ou_a ou) := pm_3 _ _ _ _ _ _ _ _ _ _
    have hP : va_P (dC, dI) vwCl (wSd cI cZ cJ sd_a w_a v_a (wr_a 0) (rd_a 0) (cu_a 0) (sp_a 0) sd ++ wSy cI cZ cJ cu_a cu ++ wSy cI cZ cJ sp_a sp' ++ wBr cI cZ cJ w_a w_b w ++ wBr cI cZ cJ v_a v_b v' ++ wWr cI cZ cJ wr_a (cb_a 0) wr ++ wRd cI cZ cJ rd_a (cb_a 0) rd' ++ wCb cI cZ cJ cb_a w_a v_a cb' ++ wMo cI cZ cJ mo_a mo' ++ wOu cI cZ cJ ou_a ou) H := pw_P hP (fun q hq => pm9.mem_iff.mpr hq)
    have hD : va_D A (wSd cI cZ cJ sd_a w_a v_a (wr_a 0) (rd_a 0) (cu_a 0) (sp_a 0) sd ++ wSy cI cZ cJ cu_a cu ++ wSy cI cZ cJ sp_a sp' ++ wBr cI cZ cJ w_a w_b w ++ wBr cI cZ cJ v_a v_b v' ++ wWr cI cZ cJ wr_a (cb_a 0) wr ++ wRd cI cZ cJ rd_a (cb_a 0) rd' ++ wCb cI cZ cJ cb_a w_a v_a cb' ++ wMo cI cZ cJ mo_a mo' ++ wOu cI cZ cJ ou_a ou) := pw_Dp hD pm9
    refine lv_icmp_eq (tgt := 1131) hx hb d_law_842 (by decide) (fun _ => ?_) (fun h9 => absurd rfl h9)
    have hl := lv_sub (l' := [(0, .ref b), (1, .ref (sd_a 0)), (2, .ref (mo_a 0)), (3, .ref (ou_a 0)), (4, .int i)]) hl [0, 1, 2, 3, 4] rfl
    refine W.widen (k := j + 1 + Br_byL w + Br_byL v') (n := 6 * (j + 1) + 2 * Br_byL w + 2 * Br_byL v') (by omega) (by omega) ?_
    exact hk _ _ _ cu_a sp_a w_b v_b cu sp' w v' wr rd' cb' mo' ou hrel hP hD hS hl
  · refine lv_aload_n hx hb d_law_834 rfl (lv_at hl 1 rfl) ?_
    have pm9 : ((wSd cI cZ cJ sd_a w_a v_a (wr_a 0) (rd_a 0) (cu_a 0) (sp_a 0) sd ++ wSy cI cZ cJ cu_a cu ++ wSy cI cZ cJ sp_a sp ++ wBr cI cZ cJ w_a w_b w ++ wBr cI cZ cJ v_a v_b v ++ wWr cI cZ cJ wr_a (cb_a 0) wr ++ wRd cI cZ cJ rd_a (cb_a 0) rd ++ wCb cI cZ cJ cb_a w_a v_a cb ++ wMo cI cZ cJ mo_a mo ++ wOu cI cZ cJ ou_a ou) : va_W).Perm ((wSd cI cZ cJ sd_a w_a v_a (wr_a 0) (rd_a 0) (cu_a 0) (sp_a 0) sd ++ wRd cI cZ cJ rd_a (cb_a 0) rd ++ wCb cI cZ cJ cb_a w_a v_a cb ++ wBr cI cZ cJ v_a v_b v ++ wSy cI cZ cJ cu_a cu ++ wSy cI cZ cJ sp_a sp) ++ (wBr cI cZ cJ w_a w_b w ++ wWr cI cZ cJ wr_a (cb_a 0) wr ++ wMo cI cZ cJ mo_a mo ++ wOu cI cZ cJ ou_a ou)) := pm_12 _ _ _ _ _ _ _ _ _ _
    have hPc := pw_P (ws' := (wSd cI cZ cJ sd_a w_a v_a (wr_a 0) (rd_a 0) (cu_a 0) (sp_a 0) sd ++ wRd cI cZ cJ rd_a (cb_a 0) rd ++ wCb cI cZ cJ cb_a w_a v_a cb ++ wBr cI cZ cJ v_a v_b v ++ wSy cI cZ cJ cu_a cu ++ wSy cI cZ cJ sp_a sp)) hP (fun q hq => pm9.mem_iff.mpr (List.mem_append_left _ hq))
    have hDc := pw_D (wc := (wSd cI cZ cJ sd_a w_a v_a (wr_a 0) (rd_a 0) (cu_a 0) (sp_a 0) sd ++ wRd cI cZ cJ rd_a (cb_a 0) rd ++ wCb cI cZ cJ cb_a w_a v_a cb ++ wBr cI cZ cJ v_a v_b v ++ wSy cI cZ cJ cu_a cu ++ wSy cI cZ cJ sp_a sp)) hD pm9
    have hFc := pw_free (wc := (wSd cI cZ cJ sd_a w_a v_a (wr_a 0) (rd_a 0) (cu_a 0) (sp_a 0) sd ++ wRd cI cZ cJ rd_a (cb_a 0) rd ++ wCb cI cZ cJ cb_a w_a v_a cb ++ wBr cI cZ cJ v_a v_b v ++ wSy cI cZ cJ cu_a cu ++ wSy cI cZ cJ sp_a sp)) hD hS hA (fun q hq => pm9.mem_iff.mpr (List.mem_append_left _ hq))
    refine va_calli (va_runV (As := []) (rest := []) ⟨hx, hb, hml, hown, hts⟩ (k_C_SD_readY l dC dI cI cZ cJ sd_a rd_a cb_a v_a v_b cu_a sp_a w_a (wr_a 0) H.size hf) (cwV 0 hts (gV t_433 t_434 t_435 t_54 t_436) rfl rfl rfl hd_SD_read ⟨Nat.le_trans (Nat.le_of_ble_eq_true rfl) hRf, Nat.le_trans (Nat.le_of_ble_eq_true rfl) hRl⟩) ⟨kP_blind, va_recv hK hPc (ci := 6) (q0 := 0) rfl rfl, kP_at hPc hK hDc hN⟩ rfl rfl hl.1 rfl (lv_room (Nat.le_of_ble_eq_true rfl)) d_law_835 ⟨by omega, by omega⟩) hS (fun q _ h => hFc q h) hFc (fun r9 u t H1 locs ht hvm hw hB hz1 hk1 hS => ?_)
    rw [hw]
    obtain ⟨hP, hD⟩ := pw_join (wr := (wBr cI cZ cJ w_a w_b w ++ wWr cI cZ cJ wr_a (cb_a 0) wr ++ wMo cI cZ cJ mo_a mo ++ wOu cI cZ cJ ou_a ou)) (w1 := (wSd cI cZ cJ sd_a w_a v_a (wr_a 0) (rd_a 0) (sp_a 0) (cu_a 0) sd ++ wRd cI cZ cJ rd_a (cb_a 0) rd' ++ wCb cI cZ cJ cb_a w_a v_a cb' ++ wBr cI cZ cJ v_a v_b v' ++ wSy cI cZ cJ cu_a cu ++ wSy cI cZ cJ sp_a sp')) hP hD pm9 ht hk1 hFc hB
    generalize H1 = H at hP hS ⊢
    have pm9 : ((wBr cI cZ cJ w_a w_b w ++ wWr cI cZ cJ wr_a (cb_a 0) wr ++ wMo cI cZ cJ mo_a mo ++ wOu cI cZ cJ ou_a ou) ++ (wSd cI cZ cJ sd_a w_a v_a (wr_a 0) (rd_a 0) (sp_a 0) (cu_a 0) sd ++ wRd cI cZ cJ rd_a (cb_a 0) rd' ++ wCb cI cZ cJ cb_a w_a v_a cb' ++ wBr cI cZ cJ v_a v_b v' ++ wSy cI cZ cJ cu_a cu ++ wSy cI cZ cJ sp_a sp') : va_W).Perm (wSd cI cZ cJ sd_a w_a v_a (wr_a 0) (rd_a 0) (sp_a 0) (cu_a 0) sd ++ wSy cI cZ cJ cu_a cu ++ wSy cI cZ cJ sp_a sp' ++ wBr cI cZ cJ w_a w_b w ++ wBr cI cZ cJ v_a v_b v' ++ wWr cI cZ cJ wr_a (cb_a 0) wr ++ wRd cI cZ cJ rd_a (cb_a 0) rd' ++ wCb cI cZ cJ cb_a w_a v_a cb' ++ wMo cI cZ cJ mo_a mo ++ wOu cI cZ cJ ou_a ou) := pm_13 _ _ _ _ _ _ _ _ _ _
    have hP : va_P (dC, dI) vwCl (wSd cI cZ cJ sd_a w_a v_a (wr_a 0) (rd_a 0) (sp_a 0) (cu_a 0) sd ++ wSy cI cZ cJ cu_a cu ++ wSy cI cZ cJ sp_a sp' ++ wBr cI cZ cJ w_a w_b w ++ wBr cI cZ cJ v_a v_b v' ++ wWr cI cZ cJ wr_a (cb_a 0) wr ++ wRd cI cZ cJ rd_a (cb_a 0) rd' ++ wCb cI cZ cJ cb_a w_a v_a cb' ++ wMo cI cZ cJ mo_a mo ++ wOu cI cZ cJ ou_a ou) H := pw_P hP (fun q hq => pm9.mem_iff.mpr hq)
    have hD : va_D A (wSd cI cZ cJ sd_a w_a v_a (wr_a 0) (rd_a 0) (sp_a 0) (cu_a 0) sd ++ wSy cI cZ cJ cu_a cu ++ wSy cI cZ cJ sp_a sp' ++ wBr cI cZ cJ w_a w_b w ++ wBr cI cZ cJ v_a v_b v' ++ wWr cI cZ cJ wr_a (cb_a 0) wr ++ wRd cI cZ cJ rd_a (cb_a 0) rd' ++ wCb cI cZ cJ cb_a w_a v_a cb' ++ wMo cI cZ cJ mo_a mo ++ wOu cI cZ cJ ou_a ou) := pw_Dp hD pm9
    refine lv_aload_n hx hb d_law_838 rfl (lv_at hl 2 rfl) ?_
    have pm9 : ((wSd cI cZ cJ sd_a w_a v_a (wr_a 0) (rd_a 0) (sp_a 0) (cu_a 0) sd ++ wSy cI cZ cJ cu_a cu ++ wSy cI cZ cJ sp_a sp' ++ wBr cI cZ cJ w_a w_b w ++ wBr cI cZ cJ v_a v_b v' ++ wWr cI cZ cJ wr_a (cb_a 0) wr ++ wRd cI cZ cJ rd_a (cb_a 0) rd' ++ wCb cI cZ cJ cb_a w_a v_a cb' ++ wMo cI cZ cJ mo_a mo ++ wOu cI cZ cJ ou_a ou) : va_W).Perm ((wMo cI cZ cJ mo_a mo) ++ (wSd cI cZ cJ sd_a w_a v_a (wr_a 0) (rd_a 0) (sp_a 0) (cu_a 0) sd ++ wSy cI cZ cJ cu_a cu ++ wSy cI cZ cJ sp_a sp' ++ wBr cI cZ cJ w_a w_b w ++ wBr cI cZ cJ v_a v_b v' ++ wWr cI cZ cJ wr_a (cb_a 0) wr ++ wRd cI cZ cJ rd_a (cb_a 0) rd' ++ wCb cI cZ cJ cb_a w_a v_a cb' ++ wOu cI cZ cJ ou_a ou)) := pm_2 _ _ _ _ _ _ _ _ _ _
    have hPc := pw_P (ws' := (wMo cI cZ cJ mo_a mo)) hP (fun q hq => pm9.mem_iff.mpr (List.mem_append_left _ hq))
    have hDc := pw_D (wc := (wMo cI cZ cJ mo_a mo)) hD pm9
    have hFc := pw_free (wc := (wMo cI cZ cJ mo_a mo)) hD hS hA (fun q hq => pm9.mem_iff.mpr (List.mem_append_left _ hq))
    refine va_calli (va_runV (As := []) (rest := [.int r]) ⟨hx, hb, hml, hown, hts⟩ (k_Model_read l dC dI cI cZ cJ mo_a H.size hg) (cwV 0 hts (gV t_1047 t_1048 t_1049 t_63 t_1050) rfl rfl rfl hd_Model_read ⟨Nat.le_trans (Nat.le_of_ble_eq_true rfl) hRf, Nat.le_trans (Nat.le_of_ble_eq_true rfl) hRl⟩) ⟨kP_blind, va_recv hK hPc (ci := 7) (q0 := 0) rfl rfl, kP_at hPc hK hDc hN⟩ rfl rfl hl.1 rfl (lv_room (Nat.le_of_ble_eq_true rfl)) d_law_839 ⟨by omega, by omega⟩) hS (fun q _ h => hFc q h) hFc (fun r9 u t H1 locs ht hvm hw hB hz1 hk1 hS => ?_)
    rw [hw]
    obtain ⟨hP, hD⟩ := pw_join (wr := (wSd cI cZ cJ sd_a w_a v_a (wr_a 0) (rd_a 0) (sp_a 0) (cu_a 0) sd ++ wSy cI cZ cJ cu_a cu ++ wSy cI cZ cJ sp_a sp' ++ wBr cI cZ cJ w_a w_b w ++ wBr cI cZ cJ v_a v_b v' ++ wWr cI cZ cJ wr_a (cb_a 0) wr ++ wRd cI cZ cJ rd_a (cb_a 0) rd' ++ wCb cI cZ cJ cb_a w_a v_a cb' ++ wOu cI cZ cJ ou_a ou)) (w1 := (wMo cI cZ cJ mo_a mo')) hP hD pm9 ht hk1 hFc hB
    generalize H1 = H at hP hS ⊢
    have pm9 : ((wSd cI cZ cJ sd_a w_a v_a (wr_a 0) (rd_a 0) (sp_a 0) (cu_a 0) sd ++ wSy cI cZ cJ cu_a cu ++ wSy cI cZ cJ sp_a sp' ++ wBr cI cZ cJ w_a w_b w ++ wBr cI cZ cJ v_a v_b v' ++ wWr cI cZ cJ wr_a (cb_a 0) wr ++ wRd cI cZ cJ rd_a (cb_a 0) rd' ++ wCb cI cZ cJ cb_a w_a v_a cb' ++ wOu cI cZ cJ ou_a ou) ++ (wMo cI cZ cJ mo_a mo') : va_W).Perm (wSd cI cZ cJ sd_a w_a v_a (wr_a 0) (rd_a 0) (sp_a 0) (cu_a 0) sd ++ wSy cI cZ cJ cu_a cu ++ wSy cI cZ cJ sp_a sp' ++ wBr cI cZ cJ w_a w_b w ++ wBr cI cZ cJ v_a v_b v' ++ wWr cI cZ cJ wr_a (cb_a 0) wr ++ wRd cI cZ cJ rd_a (cb_a 0) rd' ++ wCb cI cZ cJ cb_a w_a v_a cb' ++ wMo cI cZ cJ mo_a mo' ++ wOu cI cZ cJ ou_a ou) := pm_3 _ _ _ _ _ _ _ _ _ _
    have hP : va_P (dC, dI) vwCl (wSd cI cZ cJ sd_a w_a v_a (wr_a 0) (rd_a 0) (sp_a 0) (cu_a 0) sd ++ wSy cI cZ cJ cu_a cu ++ wSy cI cZ cJ sp_a sp' ++ wBr cI cZ cJ w_a w_b w ++ wBr cI cZ cJ v_a v_b v' ++ wWr cI cZ cJ wr_a (cb_a 0) wr ++ wRd cI cZ cJ rd_a (cb_a 0) rd' ++ wCb cI cZ cJ cb_a w_a v_a cb' ++ wMo cI cZ cJ mo_a mo' ++ wOu cI cZ cJ ou_a ou) H := pw_P hP (fun q hq => pm9.mem_iff.mpr hq)
    have hD : va_D A (wSd cI cZ cJ sd_a w_a v_a (wr_a 0) (rd_a 0) (sp_a 0) (cu_a 0) sd ++ wSy cI cZ cJ cu_a cu ++ wSy cI cZ cJ sp_a sp' ++ wBr cI cZ cJ w_a w_b w ++ wBr cI cZ cJ v_a v_b v' ++ wWr cI cZ cJ wr_a (cb_a 0) wr ++ wRd cI cZ cJ rd_a (cb_a 0) rd' ++ wCb cI cZ cJ cb_a w_a v_a cb' ++ wMo cI cZ cJ mo_a mo' ++ wOu cI cZ cJ ou_a ou) := pw_Dp hD pm9
    refine lv_icmp_eq (tgt := 1131) hx hb d_law_842 (by decide) (fun _ => ?_) (fun h9 => absurd rfl h9)
    have hl := lv_sub (l' := [(0, .ref b), (1, .ref (sd_a 0)), (2, .ref (mo_a 0)), (3, .ref (ou_a 0)), (4, .int i)]) hl [0, 1, 2, 3, 4] rfl
    have pm9 : ((wSd cI cZ cJ sd_a w_a v_a (wr_a 0) (rd_a 0) (sp_a 0) (cu_a 0) sd ++ wSy cI cZ cJ cu_a cu ++ wSy cI cZ cJ sp_a sp' ++ wBr cI cZ cJ w_a w_b w ++ wBr cI cZ cJ v_a v_b v' ++ wWr cI cZ cJ wr_a (cb_a 0) wr ++ wRd cI cZ cJ rd_a (cb_a 0) rd' ++ wCb cI cZ cJ cb_a w_a v_a cb' ++ wMo cI cZ cJ mo_a mo' ++ wOu cI cZ cJ ou_a ou) : va_W).Perm (wSd cI cZ cJ sd_a w_a v_a (wr_a 0) (rd_a 0) (sp_a 0) (cu_a 0) sd ++ wSy cI cZ cJ sp_a sp' ++ wSy cI cZ cJ cu_a cu ++ wBr cI cZ cJ w_a w_b w ++ wBr cI cZ cJ v_a v_b v' ++ wWr cI cZ cJ wr_a (cb_a 0) wr ++ wRd cI cZ cJ rd_a (cb_a 0) rd' ++ wCb cI cZ cJ cb_a w_a v_a cb' ++ wMo cI cZ cJ mo_a mo' ++ wOu cI cZ cJ ou_a ou) := pm_14 _ _ _ _ _ _ _ _ _ _
    have hP : va_P (dC, dI) vwCl (wSd cI cZ cJ sd_a w_a v_a (wr_a 0) (rd_a 0) (sp_a 0) (cu_a 0) sd ++ wSy cI cZ cJ sp_a sp' ++ wSy cI cZ cJ cu_a cu ++ wBr cI cZ cJ w_a w_b w ++ wBr cI cZ cJ v_a v_b v' ++ wWr cI cZ cJ wr_a (cb_a 0) wr ++ wRd cI cZ cJ rd_a (cb_a 0) rd' ++ wCb cI cZ cJ cb_a w_a v_a cb' ++ wMo cI cZ cJ mo_a mo' ++ wOu cI cZ cJ ou_a ou) H := pw_P hP (fun q hq => pm9.mem_iff.mpr hq)
    have hD : va_D A (wSd cI cZ cJ sd_a w_a v_a (wr_a 0) (rd_a 0) (sp_a 0) (cu_a 0) sd ++ wSy cI cZ cJ sp_a sp' ++ wSy cI cZ cJ cu_a cu ++ wBr cI cZ cJ w_a w_b w ++ wBr cI cZ cJ v_a v_b v' ++ wWr cI cZ cJ wr_a (cb_a 0) wr ++ wRd cI cZ cJ rd_a (cb_a 0) rd' ++ wCb cI cZ cJ cb_a w_a v_a cb' ++ wMo cI cZ cJ mo_a mo' ++ wOu cI cZ cJ ou_a ou) := pw_Dp hD pm9
    refine W.widen (k := j + 1 + Br_byL w + Br_byL v') (n := 6 * (j + 1) + 2 * Br_byL w + 2 * Br_byL v') (by omega) (by omega) ?_
    exact hk _ _ _ sp_a cu_a w_b v_b sp' cu w v' wr rd' cb' mo' ou hrel hP hD hS hl
set_option maxHeartbeats 8000000 in
set_option maxRecDepth 100000 in
theorem L_C_told {p : Program} {l : Launch} {e : Env} {R : Room} {s : State} {m : MethodId} {args : Array Value} {below : List Frame} {meth : Method} {c : Code} {Q : State → Prop} {A : Nat → Prop} {dC : Nat → ClassId} {dI : Nat → Nat → Nat} {cI cZ cJ : ClassId} {sd_a cu_a sp_a : Nat → Nat} {w_a w_b v_a v_b : Nat} {wr_a rd_a cb_a mo_a ou_a : Nat → Nat} {sd : Sd} {cu sp : Sy} {w v : Br} {wr : Wr} {rd : Rd} {cb : Cb} {mo : Mo} {ou : Ou} {b L : Nat} {xs : Nat → Int32} {i : Int32} {j : Nat} {Rl : Sd → Sy → Sy → Br → Br → Wr → Rd → Cb → Mo → Prop} (hl9 : l.stackTraces = false) (C0 : lcx p c m s args R (dC, dI) (TYS cI cZ cJ) A b L xs i j) (hRb : ∀ sd cu sp w v wr rd cb mo, Rl sd cu sp w v wr rd cb mo → Br_byL w ≤ 40000 ∧ Br_byL v ≤ 40000) (hR0 : Rl sd cu sp w v wr rd cb mo) (hT0 : T_C_told Rl sd cu sp w v wr rd cb mo (xs (i + 1).toNatClampNeg) (xs (i + 2).toNatClampNeg))
    (hk : ∀ (H : Heap) (locs : List Loc) (ls : Array Slot) (cu_a sp_a : Nat → Nat) (w_b v_b : Nat) (cu sp : Sy) (w v : Br) (wr : Wr) (rd : Rd) (cb : Cb) (mo : Mo) (ou : Ou), Rl sd cu sp w v wr rd cb mo → va_P (dC, dI) vwCl (wSd cI cZ cJ sd_a w_a v_a (wr_a 0) (rd_a 0) (cu_a 0) (sp_a 0) sd ++ wSy cI cZ cJ cu_a cu ++ wSy cI cZ cJ sp_a sp ++ wBr cI cZ cJ w_a w_b w ++ wBr cI cZ cJ v_a v_b v ++ wWr cI cZ cJ wr_a (cb_a 0) wr ++ wRd cI cZ cJ rd_a (cb_a 0) rd ++ wCb cI cZ cJ cb_a w_a v_a cb ++ wMo cI cZ cJ mo_a mo ++ wOu cI cZ cJ ou_a ou) H → va_D A (wSd cI cZ cJ sd_a w_a v_a (wr_a 0) (rd_a 0) (cu_a 0) (sp_a 0) sd ++ wSy cI cZ cJ cu_a cu ++ wSy cI cZ cJ sp_a sp ++ wBr cI cZ cJ w_a w_b w ++ wBr cI cZ cJ v_a v_b v ++ wWr cI cZ cJ wr_a (cb_a 0) wr ++ wRd cI cZ cJ rd_a (cb_a 0) rd ++ wCb cI cZ cJ cb_a w_a v_a cb ++ wMo cI cZ cJ mo_a mo ++ wOu cI cZ cJ ou_a ou) → va_S A s.heap H locs → lv_has ls 7 [(0, .ref b), (1, .ref (sd_a 0)), (2, .ref (mo_a 0)), (3, .ref (ou_a 0)), (4, .int i)] → W p l e R s m args below meth c H locs (j + 1 + Br_byL w + Br_byL v) (6 * (j + 1) + 2 * Br_byL w + 2 * Br_byL v) Q (F0 m 1131 ls []))
    {H : Heap} {locs : List Loc} {ls : Array Slot} (hP : va_P (dC, dI) vwCl (wSd cI cZ cJ sd_a w_a v_a (wr_a 0) (rd_a 0) (cu_a 0) (sp_a 0) sd ++ wSy cI cZ cJ cu_a cu ++ wSy cI cZ cJ sp_a sp ++ wBr cI cZ cJ w_a w_b w ++ wBr cI cZ cJ v_a v_b v ++ wWr cI cZ cJ wr_a (cb_a 0) wr ++ wRd cI cZ cJ rd_a (cb_a 0) rd ++ wCb cI cZ cJ cb_a w_a v_a cb ++ wMo cI cZ cJ mo_a mo ++ wOu cI cZ cJ ou_a ou) H) (hD : va_D A (wSd cI cZ cJ sd_a w_a v_a (wr_a 0) (rd_a 0) (cu_a 0) (sp_a 0) sd ++ wSy cI cZ cJ cu_a cu ++ wSy cI cZ cJ sp_a sp ++ wBr cI cZ cJ w_a w_b w ++ wBr cI cZ cJ v_a v_b v ++ wWr cI cZ cJ wr_a (cb_a 0) wr ++ wRd cI cZ cJ rd_a (cb_a 0) rd ++ wCb cI cZ cJ cb_a w_a v_a cb ++ wMo cI cZ cJ mo_a mo ++ wOu cI cZ cJ ou_a ou)) (hS : va_S A s.heap H locs) (hl : lv_has ls 7 [(0, .ref b), (1, .ref (sd_a 0)), (2, .ref (mo_a 0)), (3, .ref (ou_a 0)), (4, .int i)]) : W p l e R s m args below meth c H locs (j + Br_byL w + Br_byL v) (6 * j + 2 * Br_byL w + 2 * Br_byL v) Q (F0 m 847 ls []) := by
  obtain ⟨hx, hb, hml, hown, hts, hK, hA, hA2, hRf, hRl, hN, hT, hX, hX0, hbl, hin, hj, hRc, hRs⟩ := C0
  have hbA : ¬ A b := fun h => absurd (hA2 b h) (Nat.not_le.mpr hbl)
  obtain ⟨hw0, hv0⟩ := hRb _ _ _ _ _ _ _ _ _ hR0
  unfold T_C_told at hT0
  rcases hT0 with ⟨r, mo', hf, hg, hcode, hrel⟩ | ⟨hf, q, mo', hg, hcode, hrel⟩ | ⟨hf, q, mo', hg, hcode, hrel⟩
  · obtain ⟨ou', heou⟩ : ∃ z : Ou, z = (vp_updL (Ou_f ou) 0 r.toInt64) := ⟨_, rfl⟩
    have hf1 : f_Law_told sd cu ou (xs (i + 1).toNatClampNeg) (xs (i + 2).toNatClampNeg) = some (0, ou') := by
      rw [f_Law_told, hf, bd_s, heou]
      rfl
    have hou : Ou_f ou' (0 : Int32).toNatClampNeg = r.toInt64 := by rw [heou]; exact updL_at _ _ _
    refine lv_aload_n hx hb d_law_847 rfl (lv_at hl 1 rfl) ?_
    refine lv_aload_n hx hb d_law_848 rfl (lv_at hl 0 rfl) ?_
    refine lv_iload hx hb d_law_849 (lv_at hl 4 rfl) ?_
    refine lv_iconst (v := 1) hx hb d_law_851 (by decide) ?_
    refine lv_iadd hx hb d_law_852 ?_
    refine va_sld hx hb hX0 hbl hbA hS (hin 1 (by decide) (by decide)) d_law_853 ?_
    refine lv_aload_n hx hb d_law_854 rfl (lv_at hl 0 rfl) ?_
    refine lv_iload hx hb d_law_855 (lv_at hl 4 rfl) ?_
    refine lv_iconst (v := 2) hx hb d_law_857 (by decide) ?_
    refine lv_iadd hx hb d_law_858 ?_
    refine va_sld hx hb hX0 hbl hbA hS (hin 2 (by decide) (by decide)) d_law_859 ?_
    refine lv_aload_n hx hb d_law_860 rfl (lv_at hl 3 rfl) ?_
    have pm9 : ((wSd cI cZ cJ sd_a w_a v_a (wr_a 0) (rd_a 0) (cu_a 0) (sp_a 0) sd ++ wSy cI cZ cJ cu_a cu ++ wSy cI cZ cJ sp_a sp ++ wBr cI cZ cJ w_a w_b w ++ wBr cI cZ cJ v_a v_b v ++ wWr cI cZ cJ wr_a (cb_a 0) wr ++ wRd cI cZ cJ rd_a (cb_a 0) rd ++ wCb cI cZ cJ cb_a w_a v_a cb ++ wMo cI cZ cJ mo_a mo ++ wOu cI cZ cJ ou_a ou) : va_W).Perm ((wSd cI cZ cJ sd_a w_a v_a (wr_a 0) (rd_a 0) (cu_a 0) (sp_a 0) sd ++ wSy cI cZ cJ cu_a cu ++ wOu cI cZ cJ ou_a ou) ++ (wSy cI cZ cJ sp_a sp ++ wBr cI cZ cJ w_a w_b w ++ wBr cI cZ cJ v_a v_b v ++ wWr cI cZ cJ wr_a (cb_a 0) wr ++ wRd cI cZ cJ rd_a (cb_a 0) rd ++ wCb cI cZ cJ cb_a w_a v_a cb ++ wMo cI cZ cJ mo_a mo)) := pm_0 _ _ _ _ _ _ _ _ _ _
    have hPc := pw_P (ws' := (wSd cI cZ cJ sd_a w_a v_a (wr_a 0) (rd_a 0) (cu_a 0) (sp_a 0) sd ++ wSy cI cZ cJ cu_a cu ++ wOu cI cZ cJ ou_a ou)) hP (fun q hq => pm9.mem_iff.mpr (List.mem_append_left _ hq))
    have hDc := pw_D (wc := (wSd cI cZ cJ sd_a w_a v_a (wr_a 0) (rd_a 0) (cu_a 0) (sp_a 0) sd ++ wSy cI cZ cJ cu_a cu ++ wOu cI cZ cJ ou_a ou)) hD pm9
    have hFc := pw_free (wc := (wSd cI cZ cJ sd_a w_a v_a (wr_a 0) (rd_a 0) (cu_a 0) (sp_a 0) sd ++ wSy cI cZ cJ cu_a cu ++ wOu cI cZ cJ ou_a ou)) hD hS hA (fun q hq => pm9.mem_iff.mpr (List.mem_append_left _ hq))
    refine va_calli (w_runS (As := [.ref (sd_a 0), .int (xs (i + 1).toNatClampNeg), .int (xs (i + 2).toNatClampNeg), .ref (ou_a 0)]) (rest := []) ⟨hx, hb, hml, hown, hts⟩ (k_Law_told l dC dI cI cZ cJ sd_a cu_a ou_a w_a v_a (wr_a 0) (rd_a 0) (sp_a 0) H.size hf1) (cwH_of 4 hts t_772 rfl rfl t_53 t_770 t_771 hd_Law_told.2 ⟨Nat.le_trans (Nat.le_of_ble_eq_true rfl) hRf, Nat.le_trans (Nat.le_of_ble_eq_true rfl) hRl⟩) ⟨kP_blind, kP_at hPc hK hDc hN⟩ rfl rfl hl.1 rfl (lv_room (Nat.le_of_ble_eq_true rfl)) d_law_861 ⟨by omega, by omega⟩) hS (fun q _ h => hFc q h) hFc (fun r9 u t H1 locs ht hvm hw hB hz1 hk1 hS => ?_)
    rw [hw]
    obtain ⟨hP, hD⟩ := pw_join (wr := (wSy cI cZ cJ sp_a sp ++ wBr cI cZ cJ w_a w_b w ++ wBr cI cZ cJ v_a v_b v ++ wWr cI cZ cJ wr_a (cb_a 0) wr ++ wRd cI cZ cJ rd_a (cb_a 0) rd ++ wCb cI cZ cJ cb_a w_a v_a cb ++ wMo cI cZ cJ mo_a mo)) (w1 := (wSd cI cZ cJ sd_a w_a v_a (wr_a 0) (rd_a 0) (cu_a 0) (sp_a 0) sd ++ wSy cI cZ cJ cu_a cu ++ wOu cI cZ cJ ou_a ou')) hP hD pm9 ht hk1 hFc hB
    generalize H1 = H at hP hS ⊢
    have pm9 : ((wSy cI cZ cJ sp_a sp ++ wBr cI cZ cJ w_a w_b w ++ wBr cI cZ cJ v_a v_b v ++ wWr cI cZ cJ wr_a (cb_a 0) wr ++ wRd cI cZ cJ rd_a (cb_a 0) rd ++ wCb cI cZ cJ cb_a w_a v_a cb ++ wMo cI cZ cJ mo_a mo) ++ (wSd cI cZ cJ sd_a w_a v_a (wr_a 0) (rd_a 0) (cu_a 0) (sp_a 0) sd ++ wSy cI cZ cJ cu_a cu ++ wOu cI cZ cJ ou_a ou') : va_W).Perm (wSd cI cZ cJ sd_a w_a v_a (wr_a 0) (rd_a 0) (cu_a 0) (sp_a 0) sd ++ wSy cI cZ cJ cu_a cu ++ wSy cI cZ cJ sp_a sp ++ wBr cI cZ cJ w_a w_b w ++ wBr cI cZ cJ v_a v_b v ++ wWr cI cZ cJ wr_a (cb_a 0) wr ++ wRd cI cZ cJ rd_a (cb_a 0) rd ++ wCb cI cZ cJ cb_a w_a v_a cb ++ wMo cI cZ cJ mo_a mo ++ wOu cI cZ cJ ou_a ou') := pm_1 _ _ _ _ _ _ _ _ _ _
    have hP : va_P (dC, dI) vwCl (wSd cI cZ cJ sd_a w_a v_a (wr_a 0) (rd_a 0) (cu_a 0) (sp_a 0) sd ++ wSy cI cZ cJ cu_a cu ++ wSy cI cZ cJ sp_a sp ++ wBr cI cZ cJ w_a w_b w ++ wBr cI cZ cJ v_a v_b v ++ wWr cI cZ cJ wr_a (cb_a 0) wr ++ wRd cI cZ cJ rd_a (cb_a 0) rd ++ wCb cI cZ cJ cb_a w_a v_a cb ++ wMo cI cZ cJ mo_a mo ++ wOu cI cZ cJ ou_a ou') H := pw_P hP (fun q hq => pm9.mem_iff.mpr hq)
    have hD : va_D A (wSd cI cZ cJ sd_a w_a v_a (wr_a 0) (rd_a 0) (cu_a 0) (sp_a 0) sd ++ wSy cI cZ cJ cu_a cu ++ wSy cI cZ cJ sp_a sp ++ wBr cI cZ cJ w_a w_b w ++ wBr cI cZ cJ v_a v_b v ++ wWr cI cZ cJ wr_a (cb_a 0) wr ++ wRd cI cZ cJ rd_a (cb_a 0) rd ++ wCb cI cZ cJ cb_a w_a v_a cb ++ wMo cI cZ cJ mo_a mo ++ wOu cI cZ cJ ou_a ou') := pw_Dp hD pm9
    refine lv_istore (lv' := [(5, .int 0), (0, .ref b), (1, .ref (sd_a 0)), (2, .ref (mo_a 0)), (3, .ref (ou_a 0)), (4, .int i)]) hx hb d_law_864 hl (by decide) rfl (fun ls hl => ?_)
    refine lv_aload_n hx hb d_law_866 rfl (lv_at hl 3 rfl) ?_
    refine lv_aload_n hx hb d_law_867 rfl (lv_at hl 1 rfl) ?_
    refine lv_iload hx hb d_law_868 (lv_at hl 5 rfl) ?_
    refine lv_iconst (v := 1) hx hb d_law_870 (by decide) ?_
    refine lv_iadd hx hb d_law_871 ?_
    refine va_sld hx hb hX0 hbl hbA hS (hin 1 (by decide) (by decide)) d_law_872 ?_
    refine lv_aload_n hx hb d_law_873 rfl (lv_at hl 1 rfl) ?_
    refine lv_iload hx hb d_law_874 (lv_at hl 5 rfl) ?_
    refine lv_iconst (v := 2) hx hb d_law_876 (by decide) ?_
    refine lv_iadd hx hb d_law_877 ?_
    refine va_sld hx hb hX0 hbl hbA hS (hin 2 (by decide) (by decide)) d_law_878 ?_
    have pm9 : ((wSd cI cZ cJ sd_a w_a v_a (wr_a 0) (rd_a 0) (cu_a 0) (sp_a 0) sd ++ wSy cI cZ cJ cu_a cu ++ wSy cI cZ cJ sp_a sp ++ wBr cI cZ cJ w_a w_b w ++ wBr cI cZ cJ v_a v_b v ++ wWr cI cZ cJ wr_a (cb_a 0) wr ++ wRd cI cZ cJ rd_a (cb_a 0) rd ++ wCb cI cZ cJ cb_a w_a v_a cb ++ wMo cI cZ cJ mo_a mo ++ wOu cI cZ cJ ou_a ou') : va_W).Perm ((wMo cI cZ cJ mo_a mo) ++ (wSd cI cZ cJ sd_a w_a v_a (wr_a 0) (rd_a 0) (cu_a 0) (sp_a 0) sd ++ wSy cI cZ cJ cu_a cu ++ wSy cI cZ cJ sp_a sp ++ wBr cI cZ cJ w_a w_b w ++ wBr cI cZ cJ v_a v_b v ++ wWr cI cZ cJ wr_a (cb_a 0) wr ++ wRd cI cZ cJ rd_a (cb_a 0) rd ++ wCb cI cZ cJ cb_a w_a v_a cb ++ wOu cI cZ cJ ou_a ou')) := pm_2 _ _ _ _ _ _ _ _ _ _
    have hPc := pw_P (ws' := (wMo cI cZ cJ mo_a mo)) hP (fun q hq => pm9.mem_iff.mpr (List.mem_append_left _ hq))
    have hDc := pw_D (wc := (wMo cI cZ cJ mo_a mo)) hD pm9
    have hFc := pw_free (wc := (wMo cI cZ cJ mo_a mo)) hD hS hA (fun q hq => pm9.mem_iff.mpr (List.mem_append_left _ hq))
    refine va_calli (va_runV (As := [.int (xs (i + 1).toNatClampNeg), .int (xs (i + 2).toNatClampNeg)]) (rest := []) ⟨hx, hb, hml, hown, hts⟩ (k_Model_told l dC dI cI cZ cJ mo_a H.size hg) (cwV 2 hts (gV t_1083 t_1084 t_1085 t_63 t_1086) rfl rfl rfl hd_Model_told ⟨Nat.le_trans (Nat.le_of_ble_eq_true rfl) hRf, Nat.le_trans (Nat.le_of_ble_eq_true rfl) hRl⟩) ⟨kP_blind, va_recv hK hPc (ci := 7) (q0 := 0) rfl rfl, kP_at hPc hK hDc hN⟩ rfl rfl hl.1 rfl (lv_room (Nat.le_of_ble_eq_true rfl)) d_law_879 ⟨by omega, by omega⟩) hS (fun q _ h => hFc q h) hFc (fun r9 u t H1 locs ht hvm hw hB hz1 hk1 hS => ?_)
    rw [hw]
    obtain ⟨hP, hD⟩ := pw_join (wr := (wSd cI cZ cJ sd_a w_a v_a (wr_a 0) (rd_a 0) (cu_a 0) (sp_a 0) sd ++ wSy cI cZ cJ cu_a cu ++ wSy cI cZ cJ sp_a sp ++ wBr cI cZ cJ w_a w_b w ++ wBr cI cZ cJ v_a v_b v ++ wWr cI cZ cJ wr_a (cb_a 0) wr ++ wRd cI cZ cJ rd_a (cb_a 0) rd ++ wCb cI cZ cJ cb_a w_a v_a cb ++ wOu cI cZ cJ ou_a ou')) (w1 := (wMo cI cZ cJ mo_a mo')) hP hD pm9 ht hk1 hFc hB
    generalize H1 = H at hP hS ⊢
    have pm9 : ((wSd cI cZ cJ sd_a w_a v_a (wr_a 0) (rd_a 0) (cu_a 0) (sp_a 0) sd ++ wSy cI cZ cJ cu_a cu ++ wSy cI cZ cJ sp_a sp ++ wBr cI cZ cJ w_a w_b w ++ wBr cI cZ cJ v_a v_b v ++ wWr cI cZ cJ wr_a (cb_a 0) wr ++ wRd cI cZ cJ rd_a (cb_a 0) rd ++ wCb cI cZ cJ cb_a w_a v_a cb ++ wOu cI cZ cJ ou_a ou') ++ (wMo cI cZ cJ mo_a mo') : va_W).Perm (wSd cI cZ cJ sd_a w_a v_a (wr_a 0) (rd_a 0) (cu_a 0) (sp_a 0) sd ++ wSy cI cZ cJ cu_a cu ++ wSy cI cZ cJ sp_a sp ++ wBr cI cZ cJ w_a w_b w ++ wBr cI cZ cJ v_a v_b v ++ wWr cI cZ cJ wr_a (cb_a 0) wr ++ wRd cI cZ cJ rd_a (cb_a 0) rd ++ wCb cI cZ cJ cb_a w_a v_a cb ++ wMo cI cZ cJ mo_a mo' ++ wOu cI cZ cJ ou_a ou') := pm_3 _ _ _ _ _ _ _ _ _ _
    have hP : va_P (dC, dI) vwCl (wSd cI cZ cJ sd_a w_a v_a (wr_a 0) (rd_a 0) (cu_a 0) (sp_a 0) sd ++ wSy cI cZ cJ cu_a cu ++ wSy cI cZ cJ sp_a sp ++ wBr cI cZ cJ w_a w_b w ++ wBr cI cZ cJ v_a v_b v ++ wWr cI cZ cJ wr_a (cb_a 0) wr ++ wRd cI cZ cJ rd_a (cb_a 0) rd ++ wCb cI cZ cJ cb_a w_a v_a cb ++ wMo cI cZ cJ mo_a mo' ++ wOu cI cZ cJ ou_a ou') H := pw_P hP (fun q hq => pm9.mem_iff.mpr hq)
    have hD : va_D A (wSd cI cZ cJ sd_a w_a v_a (wr_a 0) (rd_a 0) (cu_a 0) (sp_a 0) sd ++ wSy cI cZ cJ cu_a cu ++ wSy cI cZ cJ sp_a sp ++ wBr cI cZ cJ w_a w_b w ++ wBr cI cZ cJ v_a v_b v ++ wWr cI cZ cJ wr_a (cb_a 0) wr ++ wRd cI cZ cJ rd_a (cb_a 0) rd ++ wCb cI cZ cJ cb_a w_a v_a cb ++ wMo cI cZ cJ mo_a mo' ++ wOu cI cZ cJ ou_a ou') := pw_Dp hD pm9
    refine lv_istore (lv' := [(6, .int r), (5, .int 0), (0, .ref b), (1, .ref (sd_a 0)), (2, .ref (mo_a 0)), (3, .ref (ou_a 0)), (4, .int i)]) hx hb d_law_882 hl (by decide) rfl (fun ls hl => ?_)
    refine lv_aload_n hx hb d_law_884 rfl (lv_at hl 4 rfl) ?_
    have hth : f_Model_thrown mo' = some (Mo_code mo') := rfl
    have pm9 : ((wSd cI cZ cJ sd_a w_a v_a (wr_a 0) (rd_a 0) (cu_a 0) (sp_a 0) sd ++ wSy cI cZ cJ cu_a cu ++ wSy cI cZ cJ sp_a sp ++ wBr cI cZ cJ w_a w_b w ++ wBr cI cZ cJ v_a v_b v ++ wWr cI cZ cJ wr_a (cb_a 0) wr ++ wRd cI cZ cJ rd_a (cb_a 0) rd ++ wCb cI cZ cJ cb_a w_a v_a cb ++ wMo cI cZ cJ mo_a mo' ++ wOu cI cZ cJ ou_a ou') : va_W).Perm ((wMo cI cZ cJ mo_a mo') ++ (wSd cI cZ cJ sd_a w_a v_a (wr_a 0) (rd_a 0) (cu_a 0) (sp_a 0) sd ++ wSy cI cZ cJ cu_a cu ++ wSy cI cZ cJ sp_a sp ++ wBr cI cZ cJ w_a w_b w ++ wBr cI cZ cJ v_a v_b v ++ wWr cI cZ cJ wr_a (cb_a 0) wr ++ wRd cI cZ cJ rd_a (cb_a 0) rd ++ wCb cI cZ cJ cb_a w_a v_a cb ++ wOu cI cZ cJ ou_a ou')) := pm_2 _ _ _ _ _ _ _ _ _ _
    have hPc := pw_P (ws' := (wMo cI cZ cJ mo_a mo')) hP (fun q hq => pm9.mem_iff.mpr (List.mem_append_left _ hq))
    have hDc := pw_D (wc := (wMo cI cZ cJ mo_a mo')) hD pm9
    have hFc := pw_free (wc := (wMo cI cZ cJ mo_a mo')) hD hS hA (fun q hq => pm9.mem_iff.mpr (List.mem_append_left _ hq))
    refine va_calli (va_runV (As := []) (rest := []) ⟨hx, hb, hml, hown, hts⟩ (k_Model_thrown l dC dI cI cZ cJ mo_a H.size hth) (cwV 0 hts (gV t_906 t_907 t_908 t_63 t_909) rfl rfl rfl hd_Model_thrown ⟨Nat.le_trans (Nat.le_of_ble_eq_true rfl) hRf, Nat.le_trans (Nat.le_of_ble_eq_true rfl) hRl⟩) ⟨kP_blind, va_recv hK hPc (ci := 7) (q0 := 0) rfl rfl, kP_at hPc hK hDc hN⟩ rfl rfl hl.1 rfl (lv_room (Nat.le_of_ble_eq_true rfl)) d_law_885 ⟨by omega, by omega⟩) hS (fun q _ h => hFc q h) hFc (fun r9 u t H1 locs ht hvm hw hB hz1 hk1 hS => ?_)
    rw [hw]
    obtain ⟨hP, hD⟩ := pw_join (wr := (wSd cI cZ cJ sd_a w_a v_a (wr_a 0) (rd_a 0) (cu_a 0) (sp_a 0) sd ++ wSy cI cZ cJ cu_a cu ++ wSy cI cZ cJ sp_a sp ++ wBr cI cZ cJ w_a w_b w ++ wBr cI cZ cJ v_a v_b v ++ wWr cI cZ cJ wr_a (cb_a 0) wr ++ wRd cI cZ cJ rd_a (cb_a 0) rd ++ wCb cI cZ cJ cb_a w_a v_a cb ++ wOu cI cZ cJ ou_a ou')) (w1 := (wMo cI cZ cJ mo_a mo')) hP hD pm9 ht hk1 hFc hB
    generalize H1 = H at hP hS ⊢
    have pm9 : ((wSd cI cZ cJ sd_a w_a v_a (wr_a 0) (rd_a 0) (cu_a 0) (sp_a 0) sd ++ wSy cI cZ cJ cu_a cu ++ wSy cI cZ cJ sp_a sp ++ wBr cI cZ cJ w_a w_b w ++ wBr cI cZ cJ v_a v_b v ++ wWr cI cZ cJ wr_a (cb_a 0) wr ++ wRd cI cZ cJ rd_a (cb_a 0) rd ++ wCb cI cZ cJ cb_a w_a v_a cb ++ wOu cI cZ cJ ou_a ou') ++ (wMo cI cZ cJ mo_a mo') : va_W).Perm (wSd cI cZ cJ sd_a w_a v_a (wr_a 0) (rd_a 0) (cu_a 0) (sp_a 0) sd ++ wSy cI cZ cJ cu_a cu ++ wSy cI cZ cJ sp_a sp ++ wBr cI cZ cJ w_a w_b w ++ wBr cI cZ cJ v_a v_b v ++ wWr cI cZ cJ wr_a (cb_a 0) wr ++ wRd cI cZ cJ rd_a (cb_a 0) rd ++ wCb cI cZ cJ cb_a w_a v_a cb ++ wMo cI cZ cJ mo_a mo' ++ wOu cI cZ cJ ou_a ou') := pm_3 _ _ _ _ _ _ _ _ _ _
    have hP : va_P (dC, dI) vwCl (wSd cI cZ cJ sd_a w_a v_a (wr_a 0) (rd_a 0) (cu_a 0) (sp_a 0) sd ++ wSy cI cZ cJ cu_a cu ++ wSy cI cZ cJ sp_a sp ++ wBr cI cZ cJ w_a w_b w ++ wBr cI cZ cJ v_a v_b v ++ wWr cI cZ cJ wr_a (cb_a 0) wr ++ wRd cI cZ cJ rd_a (cb_a 0) rd ++ wCb cI cZ cJ cb_a w_a v_a cb ++ wMo cI cZ cJ mo_a mo' ++ wOu cI cZ cJ ou_a ou') H := pw_P hP (fun q hq => pm9.mem_iff.mpr hq)
    have hD : va_D A (wSd cI cZ cJ sd_a w_a v_a (wr_a 0) (rd_a 0) (cu_a 0) (sp_a 0) sd ++ wSy cI cZ cJ cu_a cu ++ wSy cI cZ cJ sp_a sp ++ wBr cI cZ cJ w_a w_b w ++ wBr cI cZ cJ v_a v_b v ++ wWr cI cZ cJ wr_a (cb_a 0) wr ++ wRd cI cZ cJ rd_a (cb_a 0) rd ++ wCb cI cZ cJ cb_a w_a v_a cb ++ wMo cI cZ cJ mo_a mo' ++ wOu cI cZ cJ ou_a ou') := pw_Dp hD pm9
    refine lv_iload hx hb d_law_888 (lv_at hl 1 rfl) ?_
    refine lv_icmp_eq (tgt := 895) hx hb d_law_890 (by decide) (fun _ => ?_) (fun h9 => absurd hcode h9)
    refine lv_iload hx hb d_law_895 (lv_at hl 1 rfl) ?_
    refine lv_if_ne (tgt := 912) hx hb d_law_897 (by decide) (fun h9 => absurd rfl h9) (fun _ => ?_)
    refine lv_aload_n hx hb d_law_900 rfl (lv_at hl 5 rfl) ?_
    refine lv_iconst (v := 0) hx hb d_law_901 (by decide) ?_
    refine va_lald (f := Ou_f ou') hx hb hK hP 47 2 rfl rfl (inb_in (by decide)) d_law_902 ?_
    refine lv_iload hx hb d_law_903 (lv_at hl 0 rfl) ?_
    refine lv_i2l (v := r.toInt64) hx hb d_law_905 rfl ?_
    refine W.lcmp hx hb d_law_906 ?_
    refine lv_if_eq (tgt := 912) hx hb d_law_907 (by decide) (fun _ => ?_) (fun h9 => absurd (by rw [hou]; exact cmp_self _) h9)
    refine lv_goto (tgt := 1131) hx hb d_law_912 (by decide) ?_
    have hl := lv_sub (l' := [(0, .ref b), (1, .ref (sd_a 0)), (2, .ref (mo_a 0)), (3, .ref (ou_a 0)), (4, .int i)]) hl [2, 3, 4, 5, 6] rfl
    refine W.widen (k := j + 1 + Br_byL w + Br_byL v) (n := 6 * (j + 1) + 2 * Br_byL w + 2 * Br_byL v) (by omega) (by omega) ?_
    exact hk _ _ _ cu_a sp_a w_b v_b cu sp w v wr rd cb mo' ou' hrel hP hD hS hl
  · refine lv_aload_n hx hb d_law_847 rfl (lv_at hl 1 rfl) ?_
    refine lv_aload_n hx hb d_law_848 rfl (lv_at hl 0 rfl) ?_
    refine lv_iload hx hb d_law_849 (lv_at hl 4 rfl) ?_
    refine lv_iconst (v := 1) hx hb d_law_851 (by decide) ?_
    refine lv_iadd hx hb d_law_852 ?_
    refine va_sld hx hb hX0 hbl hbA hS (hin 1 (by decide) (by decide)) d_law_853 ?_
    refine lv_aload_n hx hb d_law_854 rfl (lv_at hl 0 rfl) ?_
    refine lv_iload hx hb d_law_855 (lv_at hl 4 rfl) ?_
    refine lv_iconst (v := 2) hx hb d_law_857 (by decide) ?_
    refine lv_iadd hx hb d_law_858 ?_
    refine va_sld hx hb hX0 hbl hbA hS (hin 2 (by decide) (by decide)) d_law_859 ?_
    refine lv_aload_n hx hb d_law_860 rfl (lv_at hl 3 rfl) ?_
    have pm9 : ((wSd cI cZ cJ sd_a w_a v_a (wr_a 0) (rd_a 0) (cu_a 0) (sp_a 0) sd ++ wSy cI cZ cJ cu_a cu ++ wSy cI cZ cJ sp_a sp ++ wBr cI cZ cJ w_a w_b w ++ wBr cI cZ cJ v_a v_b v ++ wWr cI cZ cJ wr_a (cb_a 0) wr ++ wRd cI cZ cJ rd_a (cb_a 0) rd ++ wCb cI cZ cJ cb_a w_a v_a cb ++ wMo cI cZ cJ mo_a mo ++ wOu cI cZ cJ ou_a ou) : va_W).Perm ((wSd cI cZ cJ sd_a w_a v_a (wr_a 0) (rd_a 0) (cu_a 0) (sp_a 0) sd ++ wSy cI cZ cJ cu_a cu ++ wOu cI cZ cJ ou_a ou) ++ (wSy cI cZ cJ sp_a sp ++ wBr cI cZ cJ w_a w_b w ++ wBr cI cZ cJ v_a v_b v ++ wWr cI cZ cJ wr_a (cb_a 0) wr ++ wRd cI cZ cJ rd_a (cb_a 0) rd ++ wCb cI cZ cJ cb_a w_a v_a cb ++ wMo cI cZ cJ mo_a mo)) := pm_0 _ _ _ _ _ _ _ _ _ _
    have hPc := pw_P (ws' := (wSd cI cZ cJ sd_a w_a v_a (wr_a 0) (rd_a 0) (cu_a 0) (sp_a 0) sd ++ wSy cI cZ cJ cu_a cu ++ wOu cI cZ cJ ou_a ou)) hP (fun q hq => pm9.mem_iff.mpr (List.mem_append_left _ hq))
    have hDc := pw_D (wc := (wSd cI cZ cJ sd_a w_a v_a (wr_a 0) (rd_a 0) (cu_a 0) (sp_a 0) sd ++ wSy cI cZ cJ cu_a cu ++ wOu cI cZ cJ ou_a ou)) hD pm9
    have hFc := pw_free (wc := (wSd cI cZ cJ sd_a w_a v_a (wr_a 0) (rd_a 0) (cu_a 0) (sp_a 0) sd ++ wSy cI cZ cJ cu_a cu ++ wOu cI cZ cJ ou_a ou)) hD hS hA (fun q hq => pm9.mem_iff.mpr (List.mem_append_left _ hq))
    refine va_calli (w_runS (As := [.ref (sd_a 0), .int (xs (i + 1).toNatClampNeg), .int (xs (i + 2).toNatClampNeg), .ref (ou_a 0)]) (rest := []) ⟨hx, hb, hml, hown, hts⟩ (kx_Law_told_3 l hl9 dC dI cI cZ cJ sd_a cu_a ou_a w_a v_a (wr_a 0) (rd_a 0) (sp_a 0) H.size hf) (cwH_of 4 hts t_772 rfl rfl t_53 t_770 t_771 hd_Law_told.2 ⟨Nat.le_trans (Nat.le_of_ble_eq_true rfl) hRf, Nat.le_trans (Nat.le_of_ble_eq_true rfl) hRl⟩) ⟨kPX_blind, kPX_at hPc hK hDc hN (fun q hq => hS.2.1 q hq (fun h9 => absurd (hA2 q h9) (Nat.not_le.mpr hq))) hT hX⟩ rfl rfl hl.1 rfl (lv_room (Nat.le_of_ble_eq_true rfl)) d_law_861 ⟨by omega, by omega⟩) hS (fun q _ h => hFc q h) hFc (fun r9 u t H1 locs ht hvm hw hB hz1 hk1 hS => ?_)
    rw [hw]
    obtain ⟨hP, hD⟩ := pw_join (wr := (wSy cI cZ cJ sp_a sp ++ wBr cI cZ cJ w_a w_b w ++ wBr cI cZ cJ v_a v_b v ++ wWr cI cZ cJ wr_a (cb_a 0) wr ++ wRd cI cZ cJ rd_a (cb_a 0) rd ++ wCb cI cZ cJ cb_a w_a v_a cb ++ wMo cI cZ cJ mo_a mo)) (w1 := (wSd cI cZ cJ sd_a w_a v_a (wr_a 0) (rd_a 0) (cu_a 0) (sp_a 0) sd ++ wSy cI cZ cJ cu_a cu ++ wOu cI cZ cJ ou_a ou)) hP hD pm9 ht hk1 hFc hB
    generalize H1 = H at hP hS ⊢
    have pm9 : ((wSy cI cZ cJ sp_a sp ++ wBr cI cZ cJ w_a w_b w ++ wBr cI cZ cJ v_a v_b v ++ wWr cI cZ cJ wr_a (cb_a 0) wr ++ wRd cI cZ cJ rd_a (cb_a 0) rd ++ wCb cI cZ cJ cb_a w_a v_a cb ++ wMo cI cZ cJ mo_a mo) ++ (wSd cI cZ cJ sd_a w_a v_a (wr_a 0) (rd_a 0) (cu_a 0) (sp_a 0) sd ++ wSy cI cZ cJ cu_a cu ++ wOu cI cZ cJ ou_a ou) : va_W).Perm (wSd cI cZ cJ sd_a w_a v_a (wr_a 0) (rd_a 0) (cu_a 0) (sp_a 0) sd ++ wSy cI cZ cJ cu_a cu ++ wSy cI cZ cJ sp_a sp ++ wBr cI cZ cJ w_a w_b w ++ wBr cI cZ cJ v_a v_b v ++ wWr cI cZ cJ wr_a (cb_a 0) wr ++ wRd cI cZ cJ rd_a (cb_a 0) rd ++ wCb cI cZ cJ cb_a w_a v_a cb ++ wMo cI cZ cJ mo_a mo ++ wOu cI cZ cJ ou_a ou) := pm_1 _ _ _ _ _ _ _ _ _ _
    have hP : va_P (dC, dI) vwCl (wSd cI cZ cJ sd_a w_a v_a (wr_a 0) (rd_a 0) (cu_a 0) (sp_a 0) sd ++ wSy cI cZ cJ cu_a cu ++ wSy cI cZ cJ sp_a sp ++ wBr cI cZ cJ w_a w_b w ++ wBr cI cZ cJ v_a v_b v ++ wWr cI cZ cJ wr_a (cb_a 0) wr ++ wRd cI cZ cJ rd_a (cb_a 0) rd ++ wCb cI cZ cJ cb_a w_a v_a cb ++ wMo cI cZ cJ mo_a mo ++ wOu cI cZ cJ ou_a ou) H := pw_P hP (fun q hq => pm9.mem_iff.mpr hq)
    have hD : va_D A (wSd cI cZ cJ sd_a w_a v_a (wr_a 0) (rd_a 0) (cu_a 0) (sp_a 0) sd ++ wSy cI cZ cJ cu_a cu ++ wSy cI cZ cJ sp_a sp ++ wBr cI cZ cJ w_a w_b w ++ wBr cI cZ cJ v_a v_b v ++ wWr cI cZ cJ wr_a (cb_a 0) wr ++ wRd cI cZ cJ rd_a (cb_a 0) rd ++ wCb cI cZ cJ cb_a w_a v_a cb ++ wMo cI cZ cJ mo_a mo ++ wOu cI cZ cJ ou_a ou) := pw_Dp hD pm9
    refine lv_istore (lv' := [(5, .int 1), (0, .ref b), (1, .ref (sd_a 0)), (2, .ref (mo_a 0)), (3, .ref (ou_a 0)), (4, .int i)]) hx hb d_law_864 hl (by decide) rfl (fun ls hl => ?_)
    refine lv_aload_n hx hb d_law_866 rfl (lv_at hl 3 rfl) ?_
    refine lv_aload_n hx hb d_law_867 rfl (lv_at hl 1 rfl) ?_
    refine lv_iload hx hb d_law_868 (lv_at hl 5 rfl) ?_
    refine lv_iconst (v := 1) hx hb d_law_870 (by decide) ?_
    refine lv_iadd hx hb d_law_871 ?_
    refine va_sld hx hb hX0 hbl hbA hS (hin 1 (by decide) (by decide)) d_law_872 ?_
    refine lv_aload_n hx hb d_law_873 rfl (lv_at hl 1 rfl) ?_
    refine lv_iload hx hb d_law_874 (lv_at hl 5 rfl) ?_
    refine lv_iconst (v := 2) hx hb d_law_876 (by decide) ?_
    refine lv_iadd hx hb d_law_877 ?_
    refine va_sld hx hb hX0 hbl hbA hS (hin 2 (by decide) (by decide)) d_law_878 ?_
    have pm9 : ((wSd cI cZ cJ sd_a w_a v_a (wr_a 0) (rd_a 0) (cu_a 0) (sp_a 0) sd ++ wSy cI cZ cJ cu_a cu ++ wSy cI cZ cJ sp_a sp ++ wBr cI cZ cJ w_a w_b w ++ wBr cI cZ cJ v_a v_b v ++ wWr cI cZ cJ wr_a (cb_a 0) wr ++ wRd cI cZ cJ rd_a (cb_a 0) rd ++ wCb cI cZ cJ cb_a w_a v_a cb ++ wMo cI cZ cJ mo_a mo ++ wOu cI cZ cJ ou_a ou) : va_W).Perm ((wMo cI cZ cJ mo_a mo) ++ (wSd cI cZ cJ sd_a w_a v_a (wr_a 0) (rd_a 0) (cu_a 0) (sp_a 0) sd ++ wSy cI cZ cJ cu_a cu ++ wSy cI cZ cJ sp_a sp ++ wBr cI cZ cJ w_a w_b w ++ wBr cI cZ cJ v_a v_b v ++ wWr cI cZ cJ wr_a (cb_a 0) wr ++ wRd cI cZ cJ rd_a (cb_a 0) rd ++ wCb cI cZ cJ cb_a w_a v_a cb ++ wOu cI cZ cJ ou_a ou)) := pm_2 _ _ _ _ _ _ _ _ _ _
    have hPc := pw_P (ws' := (wMo cI cZ cJ mo_a mo)) hP (fun q hq => pm9.mem_iff.mpr (List.mem_append_left _ hq))
    have hDc := pw_D (wc := (wMo cI cZ cJ mo_a mo)) hD pm9
    have hFc := pw_free (wc := (wMo cI cZ cJ mo_a mo)) hD hS hA (fun q hq => pm9.mem_iff.mpr (List.mem_append_left _ hq))
    refine va_calli (va_runV (As := [.int (xs (i + 1).toNatClampNeg), .int (xs (i + 2).toNatClampNeg)]) (rest := []) ⟨hx, hb, hml, hown, hts⟩ (k_Model_told l dC dI cI cZ cJ mo_a H.size hg) (cwV 2 hts (gV t_1083 t_1084 t_1085 t_63 t_1086) rfl rfl rfl hd_Model_told ⟨Nat.le_trans (Nat.le_of_ble_eq_true rfl) hRf, Nat.le_trans (Nat.le_of_ble_eq_true rfl) hRl⟩) ⟨kP_blind, va_recv hK hPc (ci := 7) (q0 := 0) rfl rfl, kP_at hPc hK hDc hN⟩ rfl rfl hl.1 rfl (lv_room (Nat.le_of_ble_eq_true rfl)) d_law_879 ⟨by omega, by omega⟩) hS (fun q _ h => hFc q h) hFc (fun r9 u t H1 locs ht hvm hw hB hz1 hk1 hS => ?_)
    rw [hw]
    obtain ⟨hP, hD⟩ := pw_join (wr := (wSd cI cZ cJ sd_a w_a v_a (wr_a 0) (rd_a 0) (cu_a 0) (sp_a 0) sd ++ wSy cI cZ cJ cu_a cu ++ wSy cI cZ cJ sp_a sp ++ wBr cI cZ cJ w_a w_b w ++ wBr cI cZ cJ v_a v_b v ++ wWr cI cZ cJ wr_a (cb_a 0) wr ++ wRd cI cZ cJ rd_a (cb_a 0) rd ++ wCb cI cZ cJ cb_a w_a v_a cb ++ wOu cI cZ cJ ou_a ou)) (w1 := (wMo cI cZ cJ mo_a mo')) hP hD pm9 ht hk1 hFc hB
    generalize H1 = H at hP hS ⊢
    have pm9 : ((wSd cI cZ cJ sd_a w_a v_a (wr_a 0) (rd_a 0) (cu_a 0) (sp_a 0) sd ++ wSy cI cZ cJ cu_a cu ++ wSy cI cZ cJ sp_a sp ++ wBr cI cZ cJ w_a w_b w ++ wBr cI cZ cJ v_a v_b v ++ wWr cI cZ cJ wr_a (cb_a 0) wr ++ wRd cI cZ cJ rd_a (cb_a 0) rd ++ wCb cI cZ cJ cb_a w_a v_a cb ++ wOu cI cZ cJ ou_a ou) ++ (wMo cI cZ cJ mo_a mo') : va_W).Perm (wSd cI cZ cJ sd_a w_a v_a (wr_a 0) (rd_a 0) (cu_a 0) (sp_a 0) sd ++ wSy cI cZ cJ cu_a cu ++ wSy cI cZ cJ sp_a sp ++ wBr cI cZ cJ w_a w_b w ++ wBr cI cZ cJ v_a v_b v ++ wWr cI cZ cJ wr_a (cb_a 0) wr ++ wRd cI cZ cJ rd_a (cb_a 0) rd ++ wCb cI cZ cJ cb_a w_a v_a cb ++ wMo cI cZ cJ mo_a mo' ++ wOu cI cZ cJ ou_a ou) := pm_3 _ _ _ _ _ _ _ _ _ _
    have hP : va_P (dC, dI) vwCl (wSd cI cZ cJ sd_a w_a v_a (wr_a 0) (rd_a 0) (cu_a 0) (sp_a 0) sd ++ wSy cI cZ cJ cu_a cu ++ wSy cI cZ cJ sp_a sp ++ wBr cI cZ cJ w_a w_b w ++ wBr cI cZ cJ v_a v_b v ++ wWr cI cZ cJ wr_a (cb_a 0) wr ++ wRd cI cZ cJ rd_a (cb_a 0) rd ++ wCb cI cZ cJ cb_a w_a v_a cb ++ wMo cI cZ cJ mo_a mo' ++ wOu cI cZ cJ ou_a ou) H := pw_P hP (fun q hq => pm9.mem_iff.mpr hq)
    have hD : va_D A (wSd cI cZ cJ sd_a w_a v_a (wr_a 0) (rd_a 0) (cu_a 0) (sp_a 0) sd ++ wSy cI cZ cJ cu_a cu ++ wSy cI cZ cJ sp_a sp ++ wBr cI cZ cJ w_a w_b w ++ wBr cI cZ cJ v_a v_b v ++ wWr cI cZ cJ wr_a (cb_a 0) wr ++ wRd cI cZ cJ rd_a (cb_a 0) rd ++ wCb cI cZ cJ cb_a w_a v_a cb ++ wMo cI cZ cJ mo_a mo' ++ wOu cI cZ cJ ou_a ou) := pw_Dp hD pm9
    refine lv_istore (lv' := [(6, .int q), (5, .int 1), (0, .ref b), (1, .ref (sd_a 0)), (2, .ref (mo_a 0)), (3, .ref (ou_a 0)), (4, .int i)]) hx hb d_law_882 hl (by decide) rfl (fun ls hl => ?_)
    refine lv_aload_n hx hb d_law_884 rfl (lv_at hl 4 rfl) ?_
    have hth : f_Model_thrown mo' = some (Mo_code mo') := rfl
    have pm9 : ((wSd cI cZ cJ sd_a w_a v_a (wr_a 0) (rd_a 0) (cu_a 0) (sp_a 0) sd ++ wSy cI cZ cJ cu_a cu ++ wSy cI cZ cJ sp_a sp ++ wBr cI cZ cJ w_a w_b w ++ wBr cI cZ cJ v_a v_b v ++ wWr cI cZ cJ wr_a (cb_a 0) wr ++ wRd cI cZ cJ rd_a (cb_a 0) rd ++ wCb cI cZ cJ cb_a w_a v_a cb ++ wMo cI cZ cJ mo_a mo' ++ wOu cI cZ cJ ou_a ou) : va_W).Perm ((wMo cI cZ cJ mo_a mo') ++ (wSd cI cZ cJ sd_a w_a v_a (wr_a 0) (rd_a 0) (cu_a 0) (sp_a 0) sd ++ wSy cI cZ cJ cu_a cu ++ wSy cI cZ cJ sp_a sp ++ wBr cI cZ cJ w_a w_b w ++ wBr cI cZ cJ v_a v_b v ++ wWr cI cZ cJ wr_a (cb_a 0) wr ++ wRd cI cZ cJ rd_a (cb_a 0) rd ++ wCb cI cZ cJ cb_a w_a v_a cb ++ wOu cI cZ cJ ou_a ou)) := pm_2 _ _ _ _ _ _ _ _ _ _
    have hPc := pw_P (ws' := (wMo cI cZ cJ mo_a mo')) hP (fun q hq => pm9.mem_iff.mpr (List.mem_append_left _ hq))
    have hDc := pw_D (wc := (wMo cI cZ cJ mo_a mo')) hD pm9
    have hFc := pw_free (wc := (wMo cI cZ cJ mo_a mo')) hD hS hA (fun q hq => pm9.mem_iff.mpr (List.mem_append_left _ hq))
    refine va_calli (va_runV (As := []) (rest := []) ⟨hx, hb, hml, hown, hts⟩ (k_Model_thrown l dC dI cI cZ cJ mo_a H.size hth) (cwV 0 hts (gV t_906 t_907 t_908 t_63 t_909) rfl rfl rfl hd_Model_thrown ⟨Nat.le_trans (Nat.le_of_ble_eq_true rfl) hRf, Nat.le_trans (Nat.le_of_ble_eq_true rfl) hRl⟩) ⟨kP_blind, va_recv hK hPc (ci := 7) (q0 := 0) rfl rfl, kP_at hPc hK hDc hN⟩ rfl rfl hl.1 rfl (lv_room (Nat.le_of_ble_eq_true rfl)) d_law_885 ⟨by omega, by omega⟩) hS (fun q _ h => hFc q h) hFc (fun r9 u t H1 locs ht hvm hw hB hz1 hk1 hS => ?_)
    rw [hw]
    obtain ⟨hP, hD⟩ := pw_join (wr := (wSd cI cZ cJ sd_a w_a v_a (wr_a 0) (rd_a 0) (cu_a 0) (sp_a 0) sd ++ wSy cI cZ cJ cu_a cu ++ wSy cI cZ cJ sp_a sp ++ wBr cI cZ cJ w_a w_b w ++ wBr cI cZ cJ v_a v_b v ++ wWr cI cZ cJ wr_a (cb_a 0) wr ++ wRd cI cZ cJ rd_a (cb_a 0) rd ++ wCb cI cZ cJ cb_a w_a v_a cb ++ wOu cI cZ cJ ou_a ou)) (w1 := (wMo cI cZ cJ mo_a mo')) hP hD pm9 ht hk1 hFc hB
    generalize H1 = H at hP hS ⊢
    have pm9 : ((wSd cI cZ cJ sd_a w_a v_a (wr_a 0) (rd_a 0) (cu_a 0) (sp_a 0) sd ++ wSy cI cZ cJ cu_a cu ++ wSy cI cZ cJ sp_a sp ++ wBr cI cZ cJ w_a w_b w ++ wBr cI cZ cJ v_a v_b v ++ wWr cI cZ cJ wr_a (cb_a 0) wr ++ wRd cI cZ cJ rd_a (cb_a 0) rd ++ wCb cI cZ cJ cb_a w_a v_a cb ++ wOu cI cZ cJ ou_a ou) ++ (wMo cI cZ cJ mo_a mo') : va_W).Perm (wSd cI cZ cJ sd_a w_a v_a (wr_a 0) (rd_a 0) (cu_a 0) (sp_a 0) sd ++ wSy cI cZ cJ cu_a cu ++ wSy cI cZ cJ sp_a sp ++ wBr cI cZ cJ w_a w_b w ++ wBr cI cZ cJ v_a v_b v ++ wWr cI cZ cJ wr_a (cb_a 0) wr ++ wRd cI cZ cJ rd_a (cb_a 0) rd ++ wCb cI cZ cJ cb_a w_a v_a cb ++ wMo cI cZ cJ mo_a mo' ++ wOu cI cZ cJ ou_a ou) := pm_3 _ _ _ _ _ _ _ _ _ _
    have hP : va_P (dC, dI) vwCl (wSd cI cZ cJ sd_a w_a v_a (wr_a 0) (rd_a 0) (cu_a 0) (sp_a 0) sd ++ wSy cI cZ cJ cu_a cu ++ wSy cI cZ cJ sp_a sp ++ wBr cI cZ cJ w_a w_b w ++ wBr cI cZ cJ v_a v_b v ++ wWr cI cZ cJ wr_a (cb_a 0) wr ++ wRd cI cZ cJ rd_a (cb_a 0) rd ++ wCb cI cZ cJ cb_a w_a v_a cb ++ wMo cI cZ cJ mo_a mo' ++ wOu cI cZ cJ ou_a ou) H := pw_P hP (fun q hq => pm9.mem_iff.mpr hq)
    have hD : va_D A (wSd cI cZ cJ sd_a w_a v_a (wr_a 0) (rd_a 0) (cu_a 0) (sp_a 0) sd ++ wSy cI cZ cJ cu_a cu ++ wSy cI cZ cJ sp_a sp ++ wBr cI cZ cJ w_a w_b w ++ wBr cI cZ cJ v_a v_b v ++ wWr cI cZ cJ wr_a (cb_a 0) wr ++ wRd cI cZ cJ rd_a (cb_a 0) rd ++ wCb cI cZ cJ cb_a w_a v_a cb ++ wMo cI cZ cJ mo_a mo' ++ wOu cI cZ cJ ou_a ou) := pw_Dp hD pm9
    refine lv_iload hx hb d_law_888 (lv_at hl 1 rfl) ?_
    refine lv_icmp_eq (tgt := 895) hx hb d_law_890 (by decide) (fun _ => ?_) (fun h9 => absurd hcode h9)
    refine lv_iload hx hb d_law_895 (lv_at hl 1 rfl) ?_
    refine lv_if_ne (tgt := 912) hx hb d_law_897 (by decide) (fun _ => ?_) (fun h9 => absurd h9 (by decide))
    refine lv_goto (tgt := 1131) hx hb d_law_912 (by decide) ?_
    have hl := lv_sub (l' := [(0, .ref b), (1, .ref (sd_a 0)), (2, .ref (mo_a 0)), (3, .ref (ou_a 0)), (4, .int i)]) hl [2, 3, 4, 5, 6] rfl
    refine W.widen (k := j + 1 + Br_byL w + Br_byL v) (n := 6 * (j + 1) + 2 * Br_byL w + 2 * Br_byL v) (by omega) (by omega) ?_
    exact hk _ _ _ cu_a sp_a w_b v_b cu sp w v wr rd cb mo' ou hrel hP hD hS hl
  · refine lv_aload_n hx hb d_law_847 rfl (lv_at hl 1 rfl) ?_
    refine lv_aload_n hx hb d_law_848 rfl (lv_at hl 0 rfl) ?_
    refine lv_iload hx hb d_law_849 (lv_at hl 4 rfl) ?_
    refine lv_iconst (v := 1) hx hb d_law_851 (by decide) ?_
    refine lv_iadd hx hb d_law_852 ?_
    refine va_sld hx hb hX0 hbl hbA hS (hin 1 (by decide) (by decide)) d_law_853 ?_
    refine lv_aload_n hx hb d_law_854 rfl (lv_at hl 0 rfl) ?_
    refine lv_iload hx hb d_law_855 (lv_at hl 4 rfl) ?_
    refine lv_iconst (v := 2) hx hb d_law_857 (by decide) ?_
    refine lv_iadd hx hb d_law_858 ?_
    refine va_sld hx hb hX0 hbl hbA hS (hin 2 (by decide) (by decide)) d_law_859 ?_
    refine lv_aload_n hx hb d_law_860 rfl (lv_at hl 3 rfl) ?_
    have pm9 : ((wSd cI cZ cJ sd_a w_a v_a (wr_a 0) (rd_a 0) (cu_a 0) (sp_a 0) sd ++ wSy cI cZ cJ cu_a cu ++ wSy cI cZ cJ sp_a sp ++ wBr cI cZ cJ w_a w_b w ++ wBr cI cZ cJ v_a v_b v ++ wWr cI cZ cJ wr_a (cb_a 0) wr ++ wRd cI cZ cJ rd_a (cb_a 0) rd ++ wCb cI cZ cJ cb_a w_a v_a cb ++ wMo cI cZ cJ mo_a mo ++ wOu cI cZ cJ ou_a ou) : va_W).Perm ((wSd cI cZ cJ sd_a w_a v_a (wr_a 0) (rd_a 0) (cu_a 0) (sp_a 0) sd ++ wSy cI cZ cJ cu_a cu ++ wOu cI cZ cJ ou_a ou) ++ (wSy cI cZ cJ sp_a sp ++ wBr cI cZ cJ w_a w_b w ++ wBr cI cZ cJ v_a v_b v ++ wWr cI cZ cJ wr_a (cb_a 0) wr ++ wRd cI cZ cJ rd_a (cb_a 0) rd ++ wCb cI cZ cJ cb_a w_a v_a cb ++ wMo cI cZ cJ mo_a mo)) := pm_0 _ _ _ _ _ _ _ _ _ _
    have hPc := pw_P (ws' := (wSd cI cZ cJ sd_a w_a v_a (wr_a 0) (rd_a 0) (cu_a 0) (sp_a 0) sd ++ wSy cI cZ cJ cu_a cu ++ wOu cI cZ cJ ou_a ou)) hP (fun q hq => pm9.mem_iff.mpr (List.mem_append_left _ hq))
    have hDc := pw_D (wc := (wSd cI cZ cJ sd_a w_a v_a (wr_a 0) (rd_a 0) (cu_a 0) (sp_a 0) sd ++ wSy cI cZ cJ cu_a cu ++ wOu cI cZ cJ ou_a ou)) hD pm9
    have hFc := pw_free (wc := (wSd cI cZ cJ sd_a w_a v_a (wr_a 0) (rd_a 0) (cu_a 0) (sp_a 0) sd ++ wSy cI cZ cJ cu_a cu ++ wOu cI cZ cJ ou_a ou)) hD hS hA (fun q hq => pm9.mem_iff.mpr (List.mem_append_left _ hq))
    refine va_calli (w_runS (As := [.ref (sd_a 0), .int (xs (i + 1).toNatClampNeg), .int (xs (i + 2).toNatClampNeg), .ref (ou_a 0)]) (rest := []) ⟨hx, hb, hml, hown, hts⟩ (kx_Law_told_1 l hl9 dC dI cI cZ cJ sd_a cu_a ou_a w_a v_a (wr_a 0) (rd_a 0) (sp_a 0) H.size hf) (cwH_of 4 hts t_772 rfl rfl t_53 t_770 t_771 hd_Law_told.2 ⟨Nat.le_trans (Nat.le_of_ble_eq_true rfl) hRf, Nat.le_trans (Nat.le_of_ble_eq_true rfl) hRl⟩) ⟨kPX_blind, kPX_at hPc hK hDc hN (fun q hq => hS.2.1 q hq (fun h9 => absurd (hA2 q h9) (Nat.not_le.mpr hq))) hT hX⟩ rfl rfl hl.1 rfl (lv_room (Nat.le_of_ble_eq_true rfl)) d_law_861 ⟨by omega, by omega⟩) hS (fun q _ h => hFc q h) hFc (fun r9 u t H1 locs ht hvm hw hB hz1 hk1 hS => ?_)
    rw [hw]
    obtain ⟨hP, hD⟩ := pw_join (wr := (wSy cI cZ cJ sp_a sp ++ wBr cI cZ cJ w_a w_b w ++ wBr cI cZ cJ v_a v_b v ++ wWr cI cZ cJ wr_a (cb_a 0) wr ++ wRd cI cZ cJ rd_a (cb_a 0) rd ++ wCb cI cZ cJ cb_a w_a v_a cb ++ wMo cI cZ cJ mo_a mo)) (w1 := (wSd cI cZ cJ sd_a w_a v_a (wr_a 0) (rd_a 0) (cu_a 0) (sp_a 0) sd ++ wSy cI cZ cJ cu_a cu ++ wOu cI cZ cJ ou_a ou)) hP hD pm9 ht hk1 hFc hB
    generalize H1 = H at hP hS ⊢
    have pm9 : ((wSy cI cZ cJ sp_a sp ++ wBr cI cZ cJ w_a w_b w ++ wBr cI cZ cJ v_a v_b v ++ wWr cI cZ cJ wr_a (cb_a 0) wr ++ wRd cI cZ cJ rd_a (cb_a 0) rd ++ wCb cI cZ cJ cb_a w_a v_a cb ++ wMo cI cZ cJ mo_a mo) ++ (wSd cI cZ cJ sd_a w_a v_a (wr_a 0) (rd_a 0) (cu_a 0) (sp_a 0) sd ++ wSy cI cZ cJ cu_a cu ++ wOu cI cZ cJ ou_a ou) : va_W).Perm (wSd cI cZ cJ sd_a w_a v_a (wr_a 0) (rd_a 0) (cu_a 0) (sp_a 0) sd ++ wSy cI cZ cJ cu_a cu ++ wSy cI cZ cJ sp_a sp ++ wBr cI cZ cJ w_a w_b w ++ wBr cI cZ cJ v_a v_b v ++ wWr cI cZ cJ wr_a (cb_a 0) wr ++ wRd cI cZ cJ rd_a (cb_a 0) rd ++ wCb cI cZ cJ cb_a w_a v_a cb ++ wMo cI cZ cJ mo_a mo ++ wOu cI cZ cJ ou_a ou) := pm_1 _ _ _ _ _ _ _ _ _ _
    have hP : va_P (dC, dI) vwCl (wSd cI cZ cJ sd_a w_a v_a (wr_a 0) (rd_a 0) (cu_a 0) (sp_a 0) sd ++ wSy cI cZ cJ cu_a cu ++ wSy cI cZ cJ sp_a sp ++ wBr cI cZ cJ w_a w_b w ++ wBr cI cZ cJ v_a v_b v ++ wWr cI cZ cJ wr_a (cb_a 0) wr ++ wRd cI cZ cJ rd_a (cb_a 0) rd ++ wCb cI cZ cJ cb_a w_a v_a cb ++ wMo cI cZ cJ mo_a mo ++ wOu cI cZ cJ ou_a ou) H := pw_P hP (fun q hq => pm9.mem_iff.mpr hq)
    have hD : va_D A (wSd cI cZ cJ sd_a w_a v_a (wr_a 0) (rd_a 0) (cu_a 0) (sp_a 0) sd ++ wSy cI cZ cJ cu_a cu ++ wSy cI cZ cJ sp_a sp ++ wBr cI cZ cJ w_a w_b w ++ wBr cI cZ cJ v_a v_b v ++ wWr cI cZ cJ wr_a (cb_a 0) wr ++ wRd cI cZ cJ rd_a (cb_a 0) rd ++ wCb cI cZ cJ cb_a w_a v_a cb ++ wMo cI cZ cJ mo_a mo ++ wOu cI cZ cJ ou_a ou) := pw_Dp hD pm9
    refine lv_istore (lv' := [(5, .int 2), (0, .ref b), (1, .ref (sd_a 0)), (2, .ref (mo_a 0)), (3, .ref (ou_a 0)), (4, .int i)]) hx hb d_law_864 hl (by decide) rfl (fun ls hl => ?_)
    refine lv_aload_n hx hb d_law_866 rfl (lv_at hl 3 rfl) ?_
    refine lv_aload_n hx hb d_law_867 rfl (lv_at hl 1 rfl) ?_
    refine lv_iload hx hb d_law_868 (lv_at hl 5 rfl) ?_
    refine lv_iconst (v := 1) hx hb d_law_870 (by decide) ?_
    refine lv_iadd hx hb d_law_871 ?_
    refine va_sld hx hb hX0 hbl hbA hS (hin 1 (by decide) (by decide)) d_law_872 ?_
    refine lv_aload_n hx hb d_law_873 rfl (lv_at hl 1 rfl) ?_
    refine lv_iload hx hb d_law_874 (lv_at hl 5 rfl) ?_
    refine lv_iconst (v := 2) hx hb d_law_876 (by decide) ?_
    refine lv_iadd hx hb d_law_877 ?_
    refine va_sld hx hb hX0 hbl hbA hS (hin 2 (by decide) (by decide)) d_law_878 ?_
    have pm9 : ((wSd cI cZ cJ sd_a w_a v_a (wr_a 0) (rd_a 0) (cu_a 0) (sp_a 0) sd ++ wSy cI cZ cJ cu_a cu ++ wSy cI cZ cJ sp_a sp ++ wBr cI cZ cJ w_a w_b w ++ wBr cI cZ cJ v_a v_b v ++ wWr cI cZ cJ wr_a (cb_a 0) wr ++ wRd cI cZ cJ rd_a (cb_a 0) rd ++ wCb cI cZ cJ cb_a w_a v_a cb ++ wMo cI cZ cJ mo_a mo ++ wOu cI cZ cJ ou_a ou) : va_W).Perm ((wMo cI cZ cJ mo_a mo) ++ (wSd cI cZ cJ sd_a w_a v_a (wr_a 0) (rd_a 0) (cu_a 0) (sp_a 0) sd ++ wSy cI cZ cJ cu_a cu ++ wSy cI cZ cJ sp_a sp ++ wBr cI cZ cJ w_a w_b w ++ wBr cI cZ cJ v_a v_b v ++ wWr cI cZ cJ wr_a (cb_a 0) wr ++ wRd cI cZ cJ rd_a (cb_a 0) rd ++ wCb cI cZ cJ cb_a w_a v_a cb ++ wOu cI cZ cJ ou_a ou)) := pm_2 _ _ _ _ _ _ _ _ _ _
    have hPc := pw_P (ws' := (wMo cI cZ cJ mo_a mo)) hP (fun q hq => pm9.mem_iff.mpr (List.mem_append_left _ hq))
    have hDc := pw_D (wc := (wMo cI cZ cJ mo_a mo)) hD pm9
    have hFc := pw_free (wc := (wMo cI cZ cJ mo_a mo)) hD hS hA (fun q hq => pm9.mem_iff.mpr (List.mem_append_left _ hq))
    refine va_calli (va_runV (As := [.int (xs (i + 1).toNatClampNeg), .int (xs (i + 2).toNatClampNeg)]) (rest := []) ⟨hx, hb, hml, hown, hts⟩ (k_Model_told l dC dI cI cZ cJ mo_a H.size hg) (cwV 2 hts (gV t_1083 t_1084 t_1085 t_63 t_1086) rfl rfl rfl hd_Model_told ⟨Nat.le_trans (Nat.le_of_ble_eq_true rfl) hRf, Nat.le_trans (Nat.le_of_ble_eq_true rfl) hRl⟩) ⟨kP_blind, va_recv hK hPc (ci := 7) (q0 := 0) rfl rfl, kP_at hPc hK hDc hN⟩ rfl rfl hl.1 rfl (lv_room (Nat.le_of_ble_eq_true rfl)) d_law_879 ⟨by omega, by omega⟩) hS (fun q _ h => hFc q h) hFc (fun r9 u t H1 locs ht hvm hw hB hz1 hk1 hS => ?_)
    rw [hw]
    obtain ⟨hP, hD⟩ := pw_join (wr := (wSd cI cZ cJ sd_a w_a v_a (wr_a 0) (rd_a 0) (cu_a 0) (sp_a 0) sd ++ wSy cI cZ cJ cu_a cu ++ wSy cI cZ cJ sp_a sp ++ wBr cI cZ cJ w_a w_b w ++ wBr cI cZ cJ v_a v_b v ++ wWr cI cZ cJ wr_a (cb_a 0) wr ++ wRd cI cZ cJ rd_a (cb_a 0) rd ++ wCb cI cZ cJ cb_a w_a v_a cb ++ wOu cI cZ cJ ou_a ou)) (w1 := (wMo cI cZ cJ mo_a mo')) hP hD pm9 ht hk1 hFc hB
    generalize H1 = H at hP hS ⊢
    have pm9 : ((wSd cI cZ cJ sd_a w_a v_a (wr_a 0) (rd_a 0) (cu_a 0) (sp_a 0) sd ++ wSy cI cZ cJ cu_a cu ++ wSy cI cZ cJ sp_a sp ++ wBr cI cZ cJ w_a w_b w ++ wBr cI cZ cJ v_a v_b v ++ wWr cI cZ cJ wr_a (cb_a 0) wr ++ wRd cI cZ cJ rd_a (cb_a 0) rd ++ wCb cI cZ cJ cb_a w_a v_a cb ++ wOu cI cZ cJ ou_a ou) ++ (wMo cI cZ cJ mo_a mo') : va_W).Perm (wSd cI cZ cJ sd_a w_a v_a (wr_a 0) (rd_a 0) (cu_a 0) (sp_a 0) sd ++ wSy cI cZ cJ cu_a cu ++ wSy cI cZ cJ sp_a sp ++ wBr cI cZ cJ w_a w_b w ++ wBr cI cZ cJ v_a v_b v ++ wWr cI cZ cJ wr_a (cb_a 0) wr ++ wRd cI cZ cJ rd_a (cb_a 0) rd ++ wCb cI cZ cJ cb_a w_a v_a cb ++ wMo cI cZ cJ mo_a mo' ++ wOu cI cZ cJ ou_a ou) := pm_3 _ _ _ _ _ _ _ _ _ _
    have hP : va_P (dC, dI) vwCl (wSd cI cZ cJ sd_a w_a v_a (wr_a 0) (rd_a 0) (cu_a 0) (sp_a 0) sd ++ wSy cI cZ cJ cu_a cu ++ wSy cI cZ cJ sp_a sp ++ wBr cI cZ cJ w_a w_b w ++ wBr cI cZ cJ v_a v_b v ++ wWr cI cZ cJ wr_a (cb_a 0) wr ++ wRd cI cZ cJ rd_a (cb_a 0) rd ++ wCb cI cZ cJ cb_a w_a v_a cb ++ wMo cI cZ cJ mo_a mo' ++ wOu cI cZ cJ ou_a ou) H := pw_P hP (fun q hq => pm9.mem_iff.mpr hq)
    have hD : va_D A (wSd cI cZ cJ sd_a w_a v_a (wr_a 0) (rd_a 0) (cu_a 0) (sp_a 0) sd ++ wSy cI cZ cJ cu_a cu ++ wSy cI cZ cJ sp_a sp ++ wBr cI cZ cJ w_a w_b w ++ wBr cI cZ cJ v_a v_b v ++ wWr cI cZ cJ wr_a (cb_a 0) wr ++ wRd cI cZ cJ rd_a (cb_a 0) rd ++ wCb cI cZ cJ cb_a w_a v_a cb ++ wMo cI cZ cJ mo_a mo' ++ wOu cI cZ cJ ou_a ou) := pw_Dp hD pm9
    refine lv_istore (lv' := [(6, .int q), (5, .int 2), (0, .ref b), (1, .ref (sd_a 0)), (2, .ref (mo_a 0)), (3, .ref (ou_a 0)), (4, .int i)]) hx hb d_law_882 hl (by decide) rfl (fun ls hl => ?_)
    refine lv_aload_n hx hb d_law_884 rfl (lv_at hl 4 rfl) ?_
    have hth : f_Model_thrown mo' = some (Mo_code mo') := rfl
    have pm9 : ((wSd cI cZ cJ sd_a w_a v_a (wr_a 0) (rd_a 0) (cu_a 0) (sp_a 0) sd ++ wSy cI cZ cJ cu_a cu ++ wSy cI cZ cJ sp_a sp ++ wBr cI cZ cJ w_a w_b w ++ wBr cI cZ cJ v_a v_b v ++ wWr cI cZ cJ wr_a (cb_a 0) wr ++ wRd cI cZ cJ rd_a (cb_a 0) rd ++ wCb cI cZ cJ cb_a w_a v_a cb ++ wMo cI cZ cJ mo_a mo' ++ wOu cI cZ cJ ou_a ou) : va_W).Perm ((wMo cI cZ cJ mo_a mo') ++ (wSd cI cZ cJ sd_a w_a v_a (wr_a 0) (rd_a 0) (cu_a 0) (sp_a 0) sd ++ wSy cI cZ cJ cu_a cu ++ wSy cI cZ cJ sp_a sp ++ wBr cI cZ cJ w_a w_b w ++ wBr cI cZ cJ v_a v_b v ++ wWr cI cZ cJ wr_a (cb_a 0) wr ++ wRd cI cZ cJ rd_a (cb_a 0) rd ++ wCb cI cZ cJ cb_a w_a v_a cb ++ wOu cI cZ cJ ou_a ou)) := pm_2 _ _ _ _ _ _ _ _ _ _
    have hPc := pw_P (ws' := (wMo cI cZ cJ mo_a mo')) hP (fun q hq => pm9.mem_iff.mpr (List.mem_append_left _ hq))
    have hDc := pw_D (wc := (wMo cI cZ cJ mo_a mo')) hD pm9
    have hFc := pw_free (wc := (wMo cI cZ cJ mo_a mo')) hD hS hA (fun q hq => pm9.mem_iff.mpr (List.mem_append_left _ hq))
    refine va_calli (va_runV (As := []) (rest := []) ⟨hx, hb, hml, hown, hts⟩ (k_Model_thrown l dC dI cI cZ cJ mo_a H.size hth) (cwV 0 hts (gV t_906 t_907 t_908 t_63 t_909) rfl rfl rfl hd_Model_thrown ⟨Nat.le_trans (Nat.le_of_ble_eq_true rfl) hRf, Nat.le_trans (Nat.le_of_ble_eq_true rfl) hRl⟩) ⟨kP_blind, va_recv hK hPc (ci := 7) (q0 := 0) rfl rfl, kP_at hPc hK hDc hN⟩ rfl rfl hl.1 rfl (lv_room (Nat.le_of_ble_eq_true rfl)) d_law_885 ⟨by omega, by omega⟩) hS (fun q _ h => hFc q h) hFc (fun r9 u t H1 locs ht hvm hw hB hz1 hk1 hS => ?_)
    rw [hw]
    obtain ⟨hP, hD⟩ := pw_join (wr := (wSd cI cZ cJ sd_a w_a v_a (wr_a 0) (rd_a 0) (cu_a 0) (sp_a 0) sd ++ wSy cI cZ cJ cu_a cu ++ wSy cI cZ cJ sp_a sp ++ wBr cI cZ cJ w_a w_b w ++ wBr cI cZ cJ v_a v_b v ++ wWr cI cZ cJ wr_a (cb_a 0) wr ++ wRd cI cZ cJ rd_a (cb_a 0) rd ++ wCb cI cZ cJ cb_a w_a v_a cb ++ wOu cI cZ cJ ou_a ou)) (w1 := (wMo cI cZ cJ mo_a mo')) hP hD pm9 ht hk1 hFc hB
    generalize H1 = H at hP hS ⊢
    have pm9 : ((wSd cI cZ cJ sd_a w_a v_a (wr_a 0) (rd_a 0) (cu_a 0) (sp_a 0) sd ++ wSy cI cZ cJ cu_a cu ++ wSy cI cZ cJ sp_a sp ++ wBr cI cZ cJ w_a w_b w ++ wBr cI cZ cJ v_a v_b v ++ wWr cI cZ cJ wr_a (cb_a 0) wr ++ wRd cI cZ cJ rd_a (cb_a 0) rd ++ wCb cI cZ cJ cb_a w_a v_a cb ++ wOu cI cZ cJ ou_a ou) ++ (wMo cI cZ cJ mo_a mo') : va_W).Perm (wSd cI cZ cJ sd_a w_a v_a (wr_a 0) (rd_a 0) (cu_a 0) (sp_a 0) sd ++ wSy cI cZ cJ cu_a cu ++ wSy cI cZ cJ sp_a sp ++ wBr cI cZ cJ w_a w_b w ++ wBr cI cZ cJ v_a v_b v ++ wWr cI cZ cJ wr_a (cb_a 0) wr ++ wRd cI cZ cJ rd_a (cb_a 0) rd ++ wCb cI cZ cJ cb_a w_a v_a cb ++ wMo cI cZ cJ mo_a mo' ++ wOu cI cZ cJ ou_a ou) := pm_3 _ _ _ _ _ _ _ _ _ _
    have hP : va_P (dC, dI) vwCl (wSd cI cZ cJ sd_a w_a v_a (wr_a 0) (rd_a 0) (cu_a 0) (sp_a 0) sd ++ wSy cI cZ cJ cu_a cu ++ wSy cI cZ cJ sp_a sp ++ wBr cI cZ cJ w_a w_b w ++ wBr cI cZ cJ v_a v_b v ++ wWr cI cZ cJ wr_a (cb_a 0) wr ++ wRd cI cZ cJ rd_a (cb_a 0) rd ++ wCb cI cZ cJ cb_a w_a v_a cb ++ wMo cI cZ cJ mo_a mo' ++ wOu cI cZ cJ ou_a ou) H := pw_P hP (fun q hq => pm9.mem_iff.mpr hq)
    have hD : va_D A (wSd cI cZ cJ sd_a w_a v_a (wr_a 0) (rd_a 0) (cu_a 0) (sp_a 0) sd ++ wSy cI cZ cJ cu_a cu ++ wSy cI cZ cJ sp_a sp ++ wBr cI cZ cJ w_a w_b w ++ wBr cI cZ cJ v_a v_b v ++ wWr cI cZ cJ wr_a (cb_a 0) wr ++ wRd cI cZ cJ rd_a (cb_a 0) rd ++ wCb cI cZ cJ cb_a w_a v_a cb ++ wMo cI cZ cJ mo_a mo' ++ wOu cI cZ cJ ou_a ou) := pw_Dp hD pm9
    refine lv_iload hx hb d_law_888 (lv_at hl 1 rfl) ?_
    refine lv_icmp_eq (tgt := 895) hx hb d_law_890 (by decide) (fun _ => ?_) (fun h9 => absurd hcode h9)
    refine lv_iload hx hb d_law_895 (lv_at hl 1 rfl) ?_
    refine lv_if_ne (tgt := 912) hx hb d_law_897 (by decide) (fun _ => ?_) (fun h9 => absurd h9 (by decide))
    refine lv_goto (tgt := 1131) hx hb d_law_912 (by decide) ?_
    have hl := lv_sub (l' := [(0, .ref b), (1, .ref (sd_a 0)), (2, .ref (mo_a 0)), (3, .ref (ou_a 0)), (4, .int i)]) hl [2, 3, 4, 5, 6] rfl
    refine W.widen (k := j + 1 + Br_byL w + Br_byL v) (n := 6 * (j + 1) + 2 * Br_byL w + 2 * Br_byL v) (by omega) (by omega) ?_
    exact hk _ _ _ cu_a sp_a w_b v_b cu sp w v wr rd cb mo' ou hrel hP hD hS hl
set_option maxHeartbeats 8000000 in
set_option maxRecDepth 100000 in
theorem L_C_likeness {p : Program} {l : Launch} {e : Env} {R : Room} {s : State} {m : MethodId} {args : Array Value} {below : List Frame} {meth : Method} {c : Code} {Q : State → Prop} {A : Nat → Prop} {dC : Nat → ClassId} {dI : Nat → Nat → Nat} {cI cZ cJ : ClassId} {sd_a cu_a sp_a : Nat → Nat} {w_a w_b v_a v_b : Nat} {wr_a rd_a cb_a mo_a ou_a : Nat → Nat} {sd : Sd} {cu sp : Sy} {w v : Br} {wr : Wr} {rd : Rd} {cb : Cb} {mo : Mo} {ou : Ou} {b L : Nat} {xs : Nat → Int32} {i : Int32} {j : Nat} {Rl : Sd → Sy → Sy → Br → Br → Wr → Rd → Cb → Mo → Prop} (hl9 : l.stackTraces = false) (C0 : lcx p c m s args R (dC, dI) (TYS cI cZ cJ) A b L xs i j) (hRb : ∀ sd cu sp w v wr rd cb mo, Rl sd cu sp w v wr rd cb mo → Br_byL w ≤ 40000 ∧ Br_byL v ≤ 40000) (hR0 : Rl sd cu sp w v wr rd cb mo) (hT0 : T_C_likeness Rl sd cu sp w v wr rd cb mo (xs (i + 1).toNatClampNeg) (xs (i + 2).toNatClampNeg))
    (hk : ∀ (H : Heap) (locs : List Loc) (ls : Array Slot) (cu_a sp_a : Nat → Nat) (w_b v_b : Nat) (cu sp : Sy) (w v : Br) (wr : Wr) (rd : Rd) (cb : Cb) (mo : Mo) (ou : Ou), Rl sd cu sp w v wr rd cb mo → va_P (dC, dI) vwCl (wSd cI cZ cJ sd_a w_a v_a (wr_a 0) (rd_a 0) (cu_a 0) (sp_a 0) sd ++ wSy cI cZ cJ cu_a cu ++ wSy cI cZ cJ sp_a sp ++ wBr cI cZ cJ w_a w_b w ++ wBr cI cZ cJ v_a v_b v ++ wWr cI cZ cJ wr_a (cb_a 0) wr ++ wRd cI cZ cJ rd_a (cb_a 0) rd ++ wCb cI cZ cJ cb_a w_a v_a cb ++ wMo cI cZ cJ mo_a mo ++ wOu cI cZ cJ ou_a ou) H → va_D A (wSd cI cZ cJ sd_a w_a v_a (wr_a 0) (rd_a 0) (cu_a 0) (sp_a 0) sd ++ wSy cI cZ cJ cu_a cu ++ wSy cI cZ cJ sp_a sp ++ wBr cI cZ cJ w_a w_b w ++ wBr cI cZ cJ v_a v_b v ++ wWr cI cZ cJ wr_a (cb_a 0) wr ++ wRd cI cZ cJ rd_a (cb_a 0) rd ++ wCb cI cZ cJ cb_a w_a v_a cb ++ wMo cI cZ cJ mo_a mo ++ wOu cI cZ cJ ou_a ou) → va_S A s.heap H locs → lv_has ls 7 [(0, .ref b), (1, .ref (sd_a 0)), (2, .ref (mo_a 0)), (3, .ref (ou_a 0)), (4, .int i)] → W p l e R s m args below meth c H locs (j + 1 + Br_byL w + Br_byL v) (6 * (j + 1) + 2 * Br_byL w + 2 * Br_byL v) Q (F0 m 1131 ls []))
    {H : Heap} {locs : List Loc} {ls : Array Slot} (hP : va_P (dC, dI) vwCl (wSd cI cZ cJ sd_a w_a v_a (wr_a 0) (rd_a 0) (cu_a 0) (sp_a 0) sd ++ wSy cI cZ cJ cu_a cu ++ wSy cI cZ cJ sp_a sp ++ wBr cI cZ cJ w_a w_b w ++ wBr cI cZ cJ v_a v_b v ++ wWr cI cZ cJ wr_a (cb_a 0) wr ++ wRd cI cZ cJ rd_a (cb_a 0) rd ++ wCb cI cZ cJ cb_a w_a v_a cb ++ wMo cI cZ cJ mo_a mo ++ wOu cI cZ cJ ou_a ou) H) (hD : va_D A (wSd cI cZ cJ sd_a w_a v_a (wr_a 0) (rd_a 0) (cu_a 0) (sp_a 0) sd ++ wSy cI cZ cJ cu_a cu ++ wSy cI cZ cJ sp_a sp ++ wBr cI cZ cJ w_a w_b w ++ wBr cI cZ cJ v_a v_b v ++ wWr cI cZ cJ wr_a (cb_a 0) wr ++ wRd cI cZ cJ rd_a (cb_a 0) rd ++ wCb cI cZ cJ cb_a w_a v_a cb ++ wMo cI cZ cJ mo_a mo ++ wOu cI cZ cJ ou_a ou)) (hS : va_S A s.heap H locs) (hl : lv_has ls 7 [(0, .ref b), (1, .ref (sd_a 0)), (2, .ref (mo_a 0)), (3, .ref (ou_a 0)), (4, .int i)]) : W p l e R s m args below meth c H locs (j + Br_byL w + Br_byL v) (6 * j + 2 * Br_byL w + 2 * Br_byL v) Q (F0 m 915 ls []) := by
  obtain ⟨hx, hb, hml, hown, hts, hK, hA, hA2, hRf, hRl, hN, hT, hX, hX0, hbl, hin, hj, hRc, hRs⟩ := C0
  have hbA : ¬ A b := fun h => absurd (hA2 b h) (Nat.not_le.mpr hbl)
  obtain ⟨hw0, hv0⟩ := hRb _ _ _ _ _ _ _ _ _ hR0
  unfold T_C_likeness at hT0
  rcases hT0 with ⟨r, mo', hf, hg, hcode, hrel⟩ | ⟨hf, q, mo', hg, hcode, hrel⟩
  · obtain ⟨ou', heou⟩ : ∃ z : Ou, z = (vp_updL (Ou_f ou) 0 r.toInt64) := ⟨_, rfl⟩
    have hf1 : f_Law_likeness sd cu ou (xs (i + 1).toNatClampNeg) (xs (i + 2).toNatClampNeg) = some (0, ou') := by
      rw [f_Law_likeness, hf, bd_s, heou]
      rfl
    have hou : Ou_f ou' (0 : Int32).toNatClampNeg = r.toInt64 := by rw [heou]; exact updL_at _ _ _
    refine lv_aload_n hx hb d_law_915 rfl (lv_at hl 1 rfl) ?_
    refine lv_aload_n hx hb d_law_916 rfl (lv_at hl 0 rfl) ?_
    refine lv_iload hx hb d_law_917 (lv_at hl 4 rfl) ?_
    refine lv_iconst (v := 1) hx hb d_law_919 (by decide) ?_
    refine lv_iadd hx hb d_law_920 ?_
    refine va_sld hx hb hX0 hbl hbA hS (hin 1 (by decide) (by decide)) d_law_921 ?_
    refine lv_aload_n hx hb d_law_922 rfl (lv_at hl 0 rfl) ?_
    refine lv_iload hx hb d_law_923 (lv_at hl 4 rfl) ?_
    refine lv_iconst (v := 2) hx hb d_law_925 (by decide) ?_
    refine lv_iadd hx hb d_law_926 ?_
    refine va_sld hx hb hX0 hbl hbA hS (hin 2 (by decide) (by decide)) d_law_927 ?_
    refine lv_aload_n hx hb d_law_928 rfl (lv_at hl 3 rfl) ?_
    have pm9 : ((wSd cI cZ cJ sd_a w_a v_a (wr_a 0) (rd_a 0) (cu_a 0) (sp_a 0) sd ++ wSy cI cZ cJ cu_a cu ++ wSy cI cZ cJ sp_a sp ++ wBr cI cZ cJ w_a w_b w ++ wBr cI cZ cJ v_a v_b v ++ wWr cI cZ cJ wr_a (cb_a 0) wr ++ wRd cI cZ cJ rd_a (cb_a 0) rd ++ wCb cI cZ cJ cb_a w_a v_a cb ++ wMo cI cZ cJ mo_a mo ++ wOu cI cZ cJ ou_a ou) : va_W).Perm ((wSd cI cZ cJ sd_a w_a v_a (wr_a 0) (rd_a 0) (cu_a 0) (sp_a 0) sd ++ wSy cI cZ cJ cu_a cu ++ wOu cI cZ cJ ou_a ou) ++ (wSy cI cZ cJ sp_a sp ++ wBr cI cZ cJ w_a w_b w ++ wBr cI cZ cJ v_a v_b v ++ wWr cI cZ cJ wr_a (cb_a 0) wr ++ wRd cI cZ cJ rd_a (cb_a 0) rd ++ wCb cI cZ cJ cb_a w_a v_a cb ++ wMo cI cZ cJ mo_a mo)) := pm_0 _ _ _ _ _ _ _ _ _ _
    have hPc := pw_P (ws' := (wSd cI cZ cJ sd_a w_a v_a (wr_a 0) (rd_a 0) (cu_a 0) (sp_a 0) sd ++ wSy cI cZ cJ cu_a cu ++ wOu cI cZ cJ ou_a ou)) hP (fun q hq => pm9.mem_iff.mpr (List.mem_append_left _ hq))
    have hDc := pw_D (wc := (wSd cI cZ cJ sd_a w_a v_a (wr_a 0) (rd_a 0) (cu_a 0) (sp_a 0) sd ++ wSy cI cZ cJ cu_a cu ++ wOu cI cZ cJ ou_a ou)) hD pm9
    have hFc := pw_free (wc := (wSd cI cZ cJ sd_a w_a v_a (wr_a 0) (rd_a 0) (cu_a 0) (sp_a 0) sd ++ wSy cI cZ cJ cu_a cu ++ wOu cI cZ cJ ou_a ou)) hD hS hA (fun q hq => pm9.mem_iff.mpr (List.mem_append_left _ hq))
    refine va_calli (w_runS (As := [.ref (sd_a 0), .int (xs (i + 1).toNatClampNeg), .int (xs (i + 2).toNatClampNeg), .ref (ou_a 0)]) (rest := []) ⟨hx, hb, hml, hown, hts⟩ (k_Law_likeness l dC dI cI cZ cJ sd_a cu_a ou_a w_a v_a (wr_a 0) (rd_a 0) (sp_a 0) H.size hf1) (cwH_of 4 hts t_785 rfl rfl t_53 t_783 t_784 hd_Law_likeness.2 ⟨Nat.le_trans (Nat.le_of_ble_eq_true rfl) hRf, Nat.le_trans (Nat.le_of_ble_eq_true rfl) hRl⟩) ⟨kP_blind, kP_at hPc hK hDc hN⟩ rfl rfl hl.1 rfl (lv_room (Nat.le_of_ble_eq_true rfl)) d_law_929 ⟨by omega, by omega⟩) hS (fun q _ h => hFc q h) hFc (fun r9 u t H1 locs ht hvm hw hB hz1 hk1 hS => ?_)
    rw [hw]
    obtain ⟨hP, hD⟩ := pw_join (wr := (wSy cI cZ cJ sp_a sp ++ wBr cI cZ cJ w_a w_b w ++ wBr cI cZ cJ v_a v_b v ++ wWr cI cZ cJ wr_a (cb_a 0) wr ++ wRd cI cZ cJ rd_a (cb_a 0) rd ++ wCb cI cZ cJ cb_a w_a v_a cb ++ wMo cI cZ cJ mo_a mo)) (w1 := (wSd cI cZ cJ sd_a w_a v_a (wr_a 0) (rd_a 0) (cu_a 0) (sp_a 0) sd ++ wSy cI cZ cJ cu_a cu ++ wOu cI cZ cJ ou_a ou')) hP hD pm9 ht hk1 hFc hB
    generalize H1 = H at hP hS ⊢
    have pm9 : ((wSy cI cZ cJ sp_a sp ++ wBr cI cZ cJ w_a w_b w ++ wBr cI cZ cJ v_a v_b v ++ wWr cI cZ cJ wr_a (cb_a 0) wr ++ wRd cI cZ cJ rd_a (cb_a 0) rd ++ wCb cI cZ cJ cb_a w_a v_a cb ++ wMo cI cZ cJ mo_a mo) ++ (wSd cI cZ cJ sd_a w_a v_a (wr_a 0) (rd_a 0) (cu_a 0) (sp_a 0) sd ++ wSy cI cZ cJ cu_a cu ++ wOu cI cZ cJ ou_a ou') : va_W).Perm (wSd cI cZ cJ sd_a w_a v_a (wr_a 0) (rd_a 0) (cu_a 0) (sp_a 0) sd ++ wSy cI cZ cJ cu_a cu ++ wSy cI cZ cJ sp_a sp ++ wBr cI cZ cJ w_a w_b w ++ wBr cI cZ cJ v_a v_b v ++ wWr cI cZ cJ wr_a (cb_a 0) wr ++ wRd cI cZ cJ rd_a (cb_a 0) rd ++ wCb cI cZ cJ cb_a w_a v_a cb ++ wMo cI cZ cJ mo_a mo ++ wOu cI cZ cJ ou_a ou') := pm_1 _ _ _ _ _ _ _ _ _ _
    have hP : va_P (dC, dI) vwCl (wSd cI cZ cJ sd_a w_a v_a (wr_a 0) (rd_a 0) (cu_a 0) (sp_a 0) sd ++ wSy cI cZ cJ cu_a cu ++ wSy cI cZ cJ sp_a sp ++ wBr cI cZ cJ w_a w_b w ++ wBr cI cZ cJ v_a v_b v ++ wWr cI cZ cJ wr_a (cb_a 0) wr ++ wRd cI cZ cJ rd_a (cb_a 0) rd ++ wCb cI cZ cJ cb_a w_a v_a cb ++ wMo cI cZ cJ mo_a mo ++ wOu cI cZ cJ ou_a ou') H := pw_P hP (fun q hq => pm9.mem_iff.mpr hq)
    have hD : va_D A (wSd cI cZ cJ sd_a w_a v_a (wr_a 0) (rd_a 0) (cu_a 0) (sp_a 0) sd ++ wSy cI cZ cJ cu_a cu ++ wSy cI cZ cJ sp_a sp ++ wBr cI cZ cJ w_a w_b w ++ wBr cI cZ cJ v_a v_b v ++ wWr cI cZ cJ wr_a (cb_a 0) wr ++ wRd cI cZ cJ rd_a (cb_a 0) rd ++ wCb cI cZ cJ cb_a w_a v_a cb ++ wMo cI cZ cJ mo_a mo ++ wOu cI cZ cJ ou_a ou') := pw_Dp hD pm9
    refine lv_istore (lv' := [(5, .int 0), (0, .ref b), (1, .ref (sd_a 0)), (2, .ref (mo_a 0)), (3, .ref (ou_a 0)), (4, .int i)]) hx hb d_law_932 hl (by decide) rfl (fun ls hl => ?_)
    refine lv_aload_n hx hb d_law_934 rfl (lv_at hl 3 rfl) ?_
    refine lv_aload_n hx hb d_law_935 rfl (lv_at hl 1 rfl) ?_
    refine lv_iload hx hb d_law_936 (lv_at hl 5 rfl) ?_
    refine lv_iconst (v := 1) hx hb d_law_938 (by decide) ?_
    refine lv_iadd hx hb d_law_939 ?_
    refine va_sld hx hb hX0 hbl hbA hS (hin 1 (by decide) (by decide)) d_law_940 ?_
    refine lv_aload_n hx hb d_law_941 rfl (lv_at hl 1 rfl) ?_
    refine lv_iload hx hb d_law_942 (lv_at hl 5 rfl) ?_
    refine lv_iconst (v := 2) hx hb d_law_944 (by decide) ?_
    refine lv_iadd hx hb d_law_945 ?_
    refine va_sld hx hb hX0 hbl hbA hS (hin 2 (by decide) (by decide)) d_law_946 ?_
    have pm9 : ((wSd cI cZ cJ sd_a w_a v_a (wr_a 0) (rd_a 0) (cu_a 0) (sp_a 0) sd ++ wSy cI cZ cJ cu_a cu ++ wSy cI cZ cJ sp_a sp ++ wBr cI cZ cJ w_a w_b w ++ wBr cI cZ cJ v_a v_b v ++ wWr cI cZ cJ wr_a (cb_a 0) wr ++ wRd cI cZ cJ rd_a (cb_a 0) rd ++ wCb cI cZ cJ cb_a w_a v_a cb ++ wMo cI cZ cJ mo_a mo ++ wOu cI cZ cJ ou_a ou') : va_W).Perm ((wMo cI cZ cJ mo_a mo) ++ (wSd cI cZ cJ sd_a w_a v_a (wr_a 0) (rd_a 0) (cu_a 0) (sp_a 0) sd ++ wSy cI cZ cJ cu_a cu ++ wSy cI cZ cJ sp_a sp ++ wBr cI cZ cJ w_a w_b w ++ wBr cI cZ cJ v_a v_b v ++ wWr cI cZ cJ wr_a (cb_a 0) wr ++ wRd cI cZ cJ rd_a (cb_a 0) rd ++ wCb cI cZ cJ cb_a w_a v_a cb ++ wOu cI cZ cJ ou_a ou')) := pm_2 _ _ _ _ _ _ _ _ _ _
    have hPc := pw_P (ws' := (wMo cI cZ cJ mo_a mo)) hP (fun q hq => pm9.mem_iff.mpr (List.mem_append_left _ hq))
    have hDc := pw_D (wc := (wMo cI cZ cJ mo_a mo)) hD pm9
    have hFc := pw_free (wc := (wMo cI cZ cJ mo_a mo)) hD hS hA (fun q hq => pm9.mem_iff.mpr (List.mem_append_left _ hq))
    refine va_calli (va_runV (As := [.int (xs (i + 1).toNatClampNeg), .int (xs (i + 2).toNatClampNeg)]) (rest := []) ⟨hx, hb, hml, hown, hts⟩ (k_Model_likeness l dC dI cI cZ cJ mo_a H.size hg) (cwV 2 hts (gV t_1087 t_1088 t_1089 t_63 t_1090) rfl rfl rfl hd_Model_likeness ⟨Nat.le_trans (Nat.le_of_ble_eq_true rfl) hRf, Nat.le_trans (Nat.le_of_ble_eq_true rfl) hRl⟩) ⟨kP_blind, va_recv hK hPc (ci := 7) (q0 := 0) rfl rfl, kP_at hPc hK hDc hN⟩ rfl rfl hl.1 rfl (lv_room (Nat.le_of_ble_eq_true rfl)) d_law_947 ⟨by omega, by omega⟩) hS (fun q _ h => hFc q h) hFc (fun r9 u t H1 locs ht hvm hw hB hz1 hk1 hS => ?_)
    rw [hw]
    obtain ⟨hP, hD⟩ := pw_join (wr := (wSd cI cZ cJ sd_a w_a v_a (wr_a 0) (rd_a 0) (cu_a 0) (sp_a 0) sd ++ wSy cI cZ cJ cu_a cu ++ wSy cI cZ cJ sp_a sp ++ wBr cI cZ cJ w_a w_b w ++ wBr cI cZ cJ v_a v_b v ++ wWr cI cZ cJ wr_a (cb_a 0) wr ++ wRd cI cZ cJ rd_a (cb_a 0) rd ++ wCb cI cZ cJ cb_a w_a v_a cb ++ wOu cI cZ cJ ou_a ou')) (w1 := (wMo cI cZ cJ mo_a mo')) hP hD pm9 ht hk1 hFc hB
    generalize H1 = H at hP hS ⊢
    have pm9 : ((wSd cI cZ cJ sd_a w_a v_a (wr_a 0) (rd_a 0) (cu_a 0) (sp_a 0) sd ++ wSy cI cZ cJ cu_a cu ++ wSy cI cZ cJ sp_a sp ++ wBr cI cZ cJ w_a w_b w ++ wBr cI cZ cJ v_a v_b v ++ wWr cI cZ cJ wr_a (cb_a 0) wr ++ wRd cI cZ cJ rd_a (cb_a 0) rd ++ wCb cI cZ cJ cb_a w_a v_a cb ++ wOu cI cZ cJ ou_a ou') ++ (wMo cI cZ cJ mo_a mo') : va_W).Perm (wSd cI cZ cJ sd_a w_a v_a (wr_a 0) (rd_a 0) (cu_a 0) (sp_a 0) sd ++ wSy cI cZ cJ cu_a cu ++ wSy cI cZ cJ sp_a sp ++ wBr cI cZ cJ w_a w_b w ++ wBr cI cZ cJ v_a v_b v ++ wWr cI cZ cJ wr_a (cb_a 0) wr ++ wRd cI cZ cJ rd_a (cb_a 0) rd ++ wCb cI cZ cJ cb_a w_a v_a cb ++ wMo cI cZ cJ mo_a mo' ++ wOu cI cZ cJ ou_a ou') := pm_3 _ _ _ _ _ _ _ _ _ _
    have hP : va_P (dC, dI) vwCl (wSd cI cZ cJ sd_a w_a v_a (wr_a 0) (rd_a 0) (cu_a 0) (sp_a 0) sd ++ wSy cI cZ cJ cu_a cu ++ wSy cI cZ cJ sp_a sp ++ wBr cI cZ cJ w_a w_b w ++ wBr cI cZ cJ v_a v_b v ++ wWr cI cZ cJ wr_a (cb_a 0) wr ++ wRd cI cZ cJ rd_a (cb_a 0) rd ++ wCb cI cZ cJ cb_a w_a v_a cb ++ wMo cI cZ cJ mo_a mo' ++ wOu cI cZ cJ ou_a ou') H := pw_P hP (fun q hq => pm9.mem_iff.mpr hq)
    have hD : va_D A (wSd cI cZ cJ sd_a w_a v_a (wr_a 0) (rd_a 0) (cu_a 0) (sp_a 0) sd ++ wSy cI cZ cJ cu_a cu ++ wSy cI cZ cJ sp_a sp ++ wBr cI cZ cJ w_a w_b w ++ wBr cI cZ cJ v_a v_b v ++ wWr cI cZ cJ wr_a (cb_a 0) wr ++ wRd cI cZ cJ rd_a (cb_a 0) rd ++ wCb cI cZ cJ cb_a w_a v_a cb ++ wMo cI cZ cJ mo_a mo' ++ wOu cI cZ cJ ou_a ou') := pw_Dp hD pm9
    refine lv_istore (lv' := [(6, .int r), (5, .int 0), (0, .ref b), (1, .ref (sd_a 0)), (2, .ref (mo_a 0)), (3, .ref (ou_a 0)), (4, .int i)]) hx hb d_law_950 hl (by decide) rfl (fun ls hl => ?_)
    refine lv_aload_n hx hb d_law_952 rfl (lv_at hl 4 rfl) ?_
    have hth : f_Model_thrown mo' = some (Mo_code mo') := rfl
    have pm9 : ((wSd cI cZ cJ sd_a w_a v_a (wr_a 0) (rd_a 0) (cu_a 0) (sp_a 0) sd ++ wSy cI cZ cJ cu_a cu ++ wSy cI cZ cJ sp_a sp ++ wBr cI cZ cJ w_a w_b w ++ wBr cI cZ cJ v_a v_b v ++ wWr cI cZ cJ wr_a (cb_a 0) wr ++ wRd cI cZ cJ rd_a (cb_a 0) rd ++ wCb cI cZ cJ cb_a w_a v_a cb ++ wMo cI cZ cJ mo_a mo' ++ wOu cI cZ cJ ou_a ou') : va_W).Perm ((wMo cI cZ cJ mo_a mo') ++ (wSd cI cZ cJ sd_a w_a v_a (wr_a 0) (rd_a 0) (cu_a 0) (sp_a 0) sd ++ wSy cI cZ cJ cu_a cu ++ wSy cI cZ cJ sp_a sp ++ wBr cI cZ cJ w_a w_b w ++ wBr cI cZ cJ v_a v_b v ++ wWr cI cZ cJ wr_a (cb_a 0) wr ++ wRd cI cZ cJ rd_a (cb_a 0) rd ++ wCb cI cZ cJ cb_a w_a v_a cb ++ wOu cI cZ cJ ou_a ou')) := pm_2 _ _ _ _ _ _ _ _ _ _
    have hPc := pw_P (ws' := (wMo cI cZ cJ mo_a mo')) hP (fun q hq => pm9.mem_iff.mpr (List.mem_append_left _ hq))
    have hDc := pw_D (wc := (wMo cI cZ cJ mo_a mo')) hD pm9
    have hFc := pw_free (wc := (wMo cI cZ cJ mo_a mo')) hD hS hA (fun q hq => pm9.mem_iff.mpr (List.mem_append_left _ hq))
    refine va_calli (va_runV (As := []) (rest := []) ⟨hx, hb, hml, hown, hts⟩ (k_Model_thrown l dC dI cI cZ cJ mo_a H.size hth) (cwV 0 hts (gV t_906 t_907 t_908 t_63 t_909) rfl rfl rfl hd_Model_thrown ⟨Nat.le_trans (Nat.le_of_ble_eq_true rfl) hRf, Nat.le_trans (Nat.le_of_ble_eq_true rfl) hRl⟩) ⟨kP_blind, va_recv hK hPc (ci := 7) (q0 := 0) rfl rfl, kP_at hPc hK hDc hN⟩ rfl rfl hl.1 rfl (lv_room (Nat.le_of_ble_eq_true rfl)) d_law_953 ⟨by omega, by omega⟩) hS (fun q _ h => hFc q h) hFc (fun r9 u t H1 locs ht hvm hw hB hz1 hk1 hS => ?_)
    rw [hw]
    obtain ⟨hP, hD⟩ := pw_join (wr := (wSd cI cZ cJ sd_a w_a v_a (wr_a 0) (rd_a 0) (cu_a 0) (sp_a 0) sd ++ wSy cI cZ cJ cu_a cu ++ wSy cI cZ cJ sp_a sp ++ wBr cI cZ cJ w_a w_b w ++ wBr cI cZ cJ v_a v_b v ++ wWr cI cZ cJ wr_a (cb_a 0) wr ++ wRd cI cZ cJ rd_a (cb_a 0) rd ++ wCb cI cZ cJ cb_a w_a v_a cb ++ wOu cI cZ cJ ou_a ou')) (w1 := (wMo cI cZ cJ mo_a mo')) hP hD pm9 ht hk1 hFc hB
    generalize H1 = H at hP hS ⊢
    have pm9 : ((wSd cI cZ cJ sd_a w_a v_a (wr_a 0) (rd_a 0) (cu_a 0) (sp_a 0) sd ++ wSy cI cZ cJ cu_a cu ++ wSy cI cZ cJ sp_a sp ++ wBr cI cZ cJ w_a w_b w ++ wBr cI cZ cJ v_a v_b v ++ wWr cI cZ cJ wr_a (cb_a 0) wr ++ wRd cI cZ cJ rd_a (cb_a 0) rd ++ wCb cI cZ cJ cb_a w_a v_a cb ++ wOu cI cZ cJ ou_a ou') ++ (wMo cI cZ cJ mo_a mo') : va_W).Perm (wSd cI cZ cJ sd_a w_a v_a (wr_a 0) (rd_a 0) (cu_a 0) (sp_a 0) sd ++ wSy cI cZ cJ cu_a cu ++ wSy cI cZ cJ sp_a sp ++ wBr cI cZ cJ w_a w_b w ++ wBr cI cZ cJ v_a v_b v ++ wWr cI cZ cJ wr_a (cb_a 0) wr ++ wRd cI cZ cJ rd_a (cb_a 0) rd ++ wCb cI cZ cJ cb_a w_a v_a cb ++ wMo cI cZ cJ mo_a mo' ++ wOu cI cZ cJ ou_a ou') := pm_3 _ _ _ _ _ _ _ _ _ _
    have hP : va_P (dC, dI) vwCl (wSd cI cZ cJ sd_a w_a v_a (wr_a 0) (rd_a 0) (cu_a 0) (sp_a 0) sd ++ wSy cI cZ cJ cu_a cu ++ wSy cI cZ cJ sp_a sp ++ wBr cI cZ cJ w_a w_b w ++ wBr cI cZ cJ v_a v_b v ++ wWr cI cZ cJ wr_a (cb_a 0) wr ++ wRd cI cZ cJ rd_a (cb_a 0) rd ++ wCb cI cZ cJ cb_a w_a v_a cb ++ wMo cI cZ cJ mo_a mo' ++ wOu cI cZ cJ ou_a ou') H := pw_P hP (fun q hq => pm9.mem_iff.mpr hq)
    have hD : va_D A (wSd cI cZ cJ sd_a w_a v_a (wr_a 0) (rd_a 0) (cu_a 0) (sp_a 0) sd ++ wSy cI cZ cJ cu_a cu ++ wSy cI cZ cJ sp_a sp ++ wBr cI cZ cJ w_a w_b w ++ wBr cI cZ cJ v_a v_b v ++ wWr cI cZ cJ wr_a (cb_a 0) wr ++ wRd cI cZ cJ rd_a (cb_a 0) rd ++ wCb cI cZ cJ cb_a w_a v_a cb ++ wMo cI cZ cJ mo_a mo' ++ wOu cI cZ cJ ou_a ou') := pw_Dp hD pm9
    refine lv_iload hx hb d_law_956 (lv_at hl 1 rfl) ?_
    refine lv_icmp_eq (tgt := 963) hx hb d_law_958 (by decide) (fun _ => ?_) (fun h9 => absurd hcode h9)
    refine lv_iload hx hb d_law_963 (lv_at hl 1 rfl) ?_
    refine lv_if_ne (tgt := 980) hx hb d_law_965 (by decide) (fun h9 => absurd rfl h9) (fun _ => ?_)
    refine lv_aload_n hx hb d_law_968 rfl (lv_at hl 5 rfl) ?_
    refine lv_iconst (v := 0) hx hb d_law_969 (by decide) ?_
    refine va_lald (f := Ou_f ou') hx hb hK hP 47 2 rfl rfl (inb_in (by decide)) d_law_970 ?_
    refine lv_iload hx hb d_law_971 (lv_at hl 0 rfl) ?_
    refine lv_i2l (v := r.toInt64) hx hb d_law_973 rfl ?_
    refine W.lcmp hx hb d_law_974 ?_
    refine lv_if_eq (tgt := 980) hx hb d_law_975 (by decide) (fun _ => ?_) (fun h9 => absurd (by rw [hou]; exact cmp_self _) h9)
    refine lv_goto (tgt := 1131) hx hb d_law_980 (by decide) ?_
    have hl := lv_sub (l' := [(0, .ref b), (1, .ref (sd_a 0)), (2, .ref (mo_a 0)), (3, .ref (ou_a 0)), (4, .int i)]) hl [2, 3, 4, 5, 6] rfl
    refine W.widen (k := j + 1 + Br_byL w + Br_byL v) (n := 6 * (j + 1) + 2 * Br_byL w + 2 * Br_byL v) (by omega) (by omega) ?_
    exact hk _ _ _ cu_a sp_a w_b v_b cu sp w v wr rd cb mo' ou' hrel hP hD hS hl
  · refine lv_aload_n hx hb d_law_915 rfl (lv_at hl 1 rfl) ?_
    refine lv_aload_n hx hb d_law_916 rfl (lv_at hl 0 rfl) ?_
    refine lv_iload hx hb d_law_917 (lv_at hl 4 rfl) ?_
    refine lv_iconst (v := 1) hx hb d_law_919 (by decide) ?_
    refine lv_iadd hx hb d_law_920 ?_
    refine va_sld hx hb hX0 hbl hbA hS (hin 1 (by decide) (by decide)) d_law_921 ?_
    refine lv_aload_n hx hb d_law_922 rfl (lv_at hl 0 rfl) ?_
    refine lv_iload hx hb d_law_923 (lv_at hl 4 rfl) ?_
    refine lv_iconst (v := 2) hx hb d_law_925 (by decide) ?_
    refine lv_iadd hx hb d_law_926 ?_
    refine va_sld hx hb hX0 hbl hbA hS (hin 2 (by decide) (by decide)) d_law_927 ?_
    refine lv_aload_n hx hb d_law_928 rfl (lv_at hl 3 rfl) ?_
    have pm9 : ((wSd cI cZ cJ sd_a w_a v_a (wr_a 0) (rd_a 0) (cu_a 0) (sp_a 0) sd ++ wSy cI cZ cJ cu_a cu ++ wSy cI cZ cJ sp_a sp ++ wBr cI cZ cJ w_a w_b w ++ wBr cI cZ cJ v_a v_b v ++ wWr cI cZ cJ wr_a (cb_a 0) wr ++ wRd cI cZ cJ rd_a (cb_a 0) rd ++ wCb cI cZ cJ cb_a w_a v_a cb ++ wMo cI cZ cJ mo_a mo ++ wOu cI cZ cJ ou_a ou) : va_W).Perm ((wSd cI cZ cJ sd_a w_a v_a (wr_a 0) (rd_a 0) (cu_a 0) (sp_a 0) sd ++ wSy cI cZ cJ cu_a cu ++ wOu cI cZ cJ ou_a ou) ++ (wSy cI cZ cJ sp_a sp ++ wBr cI cZ cJ w_a w_b w ++ wBr cI cZ cJ v_a v_b v ++ wWr cI cZ cJ wr_a (cb_a 0) wr ++ wRd cI cZ cJ rd_a (cb_a 0) rd ++ wCb cI cZ cJ cb_a w_a v_a cb ++ wMo cI cZ cJ mo_a mo)) := pm_0 _ _ _ _ _ _ _ _ _ _
    have hPc := pw_P (ws' := (wSd cI cZ cJ sd_a w_a v_a (wr_a 0) (rd_a 0) (cu_a 0) (sp_a 0) sd ++ wSy cI cZ cJ cu_a cu ++ wOu cI cZ cJ ou_a ou)) hP (fun q hq => pm9.mem_iff.mpr (List.mem_append_left _ hq))
    have hDc := pw_D (wc := (wSd cI cZ cJ sd_a w_a v_a (wr_a 0) (rd_a 0) (cu_a 0) (sp_a 0) sd ++ wSy cI cZ cJ cu_a cu ++ wOu cI cZ cJ ou_a ou)) hD pm9
    have hFc := pw_free (wc := (wSd cI cZ cJ sd_a w_a v_a (wr_a 0) (rd_a 0) (cu_a 0) (sp_a 0) sd ++ wSy cI cZ cJ cu_a cu ++ wOu cI cZ cJ ou_a ou)) hD hS hA (fun q hq => pm9.mem_iff.mpr (List.mem_append_left _ hq))
    refine va_calli (w_runS (As := [.ref (sd_a 0), .int (xs (i + 1).toNatClampNeg), .int (xs (i + 2).toNatClampNeg), .ref (ou_a 0)]) (rest := []) ⟨hx, hb, hml, hown, hts⟩ (kx_Law_likeness_3 l hl9 dC dI cI cZ cJ sd_a cu_a ou_a w_a v_a (wr_a 0) (rd_a 0) (sp_a 0) H.size hf) (cwH_of 4 hts t_785 rfl rfl t_53 t_783 t_784 hd_Law_likeness.2 ⟨Nat.le_trans (Nat.le_of_ble_eq_true rfl) hRf, Nat.le_trans (Nat.le_of_ble_eq_true rfl) hRl⟩) ⟨kPX_blind, kPX_at hPc hK hDc hN (fun q hq => hS.2.1 q hq (fun h9 => absurd (hA2 q h9) (Nat.not_le.mpr hq))) hT hX⟩ rfl rfl hl.1 rfl (lv_room (Nat.le_of_ble_eq_true rfl)) d_law_929 ⟨by omega, by omega⟩) hS (fun q _ h => hFc q h) hFc (fun r9 u t H1 locs ht hvm hw hB hz1 hk1 hS => ?_)
    rw [hw]
    obtain ⟨hP, hD⟩ := pw_join (wr := (wSy cI cZ cJ sp_a sp ++ wBr cI cZ cJ w_a w_b w ++ wBr cI cZ cJ v_a v_b v ++ wWr cI cZ cJ wr_a (cb_a 0) wr ++ wRd cI cZ cJ rd_a (cb_a 0) rd ++ wCb cI cZ cJ cb_a w_a v_a cb ++ wMo cI cZ cJ mo_a mo)) (w1 := (wSd cI cZ cJ sd_a w_a v_a (wr_a 0) (rd_a 0) (cu_a 0) (sp_a 0) sd ++ wSy cI cZ cJ cu_a cu ++ wOu cI cZ cJ ou_a ou)) hP hD pm9 ht hk1 hFc hB
    generalize H1 = H at hP hS ⊢
    have pm9 : ((wSy cI cZ cJ sp_a sp ++ wBr cI cZ cJ w_a w_b w ++ wBr cI cZ cJ v_a v_b v ++ wWr cI cZ cJ wr_a (cb_a 0) wr ++ wRd cI cZ cJ rd_a (cb_a 0) rd ++ wCb cI cZ cJ cb_a w_a v_a cb ++ wMo cI cZ cJ mo_a mo) ++ (wSd cI cZ cJ sd_a w_a v_a (wr_a 0) (rd_a 0) (cu_a 0) (sp_a 0) sd ++ wSy cI cZ cJ cu_a cu ++ wOu cI cZ cJ ou_a ou) : va_W).Perm (wSd cI cZ cJ sd_a w_a v_a (wr_a 0) (rd_a 0) (cu_a 0) (sp_a 0) sd ++ wSy cI cZ cJ cu_a cu ++ wSy cI cZ cJ sp_a sp ++ wBr cI cZ cJ w_a w_b w ++ wBr cI cZ cJ v_a v_b v ++ wWr cI cZ cJ wr_a (cb_a 0) wr ++ wRd cI cZ cJ rd_a (cb_a 0) rd ++ wCb cI cZ cJ cb_a w_a v_a cb ++ wMo cI cZ cJ mo_a mo ++ wOu cI cZ cJ ou_a ou) := pm_1 _ _ _ _ _ _ _ _ _ _
    have hP : va_P (dC, dI) vwCl (wSd cI cZ cJ sd_a w_a v_a (wr_a 0) (rd_a 0) (cu_a 0) (sp_a 0) sd ++ wSy cI cZ cJ cu_a cu ++ wSy cI cZ cJ sp_a sp ++ wBr cI cZ cJ w_a w_b w ++ wBr cI cZ cJ v_a v_b v ++ wWr cI cZ cJ wr_a (cb_a 0) wr ++ wRd cI cZ cJ rd_a (cb_a 0) rd ++ wCb cI cZ cJ cb_a w_a v_a cb ++ wMo cI cZ cJ mo_a mo ++ wOu cI cZ cJ ou_a ou) H := pw_P hP (fun q hq => pm9.mem_iff.mpr hq)
    have hD : va_D A (wSd cI cZ cJ sd_a w_a v_a (wr_a 0) (rd_a 0) (cu_a 0) (sp_a 0) sd ++ wSy cI cZ cJ cu_a cu ++ wSy cI cZ cJ sp_a sp ++ wBr cI cZ cJ w_a w_b w ++ wBr cI cZ cJ v_a v_b v ++ wWr cI cZ cJ wr_a (cb_a 0) wr ++ wRd cI cZ cJ rd_a (cb_a 0) rd ++ wCb cI cZ cJ cb_a w_a v_a cb ++ wMo cI cZ cJ mo_a mo ++ wOu cI cZ cJ ou_a ou) := pw_Dp hD pm9
    refine lv_istore (lv' := [(5, .int 1), (0, .ref b), (1, .ref (sd_a 0)), (2, .ref (mo_a 0)), (3, .ref (ou_a 0)), (4, .int i)]) hx hb d_law_932 hl (by decide) rfl (fun ls hl => ?_)
    refine lv_aload_n hx hb d_law_934 rfl (lv_at hl 3 rfl) ?_
    refine lv_aload_n hx hb d_law_935 rfl (lv_at hl 1 rfl) ?_
    refine lv_iload hx hb d_law_936 (lv_at hl 5 rfl) ?_
    refine lv_iconst (v := 1) hx hb d_law_938 (by decide) ?_
    refine lv_iadd hx hb d_law_939 ?_
    refine va_sld hx hb hX0 hbl hbA hS (hin 1 (by decide) (by decide)) d_law_940 ?_
    refine lv_aload_n hx hb d_law_941 rfl (lv_at hl 1 rfl) ?_
    refine lv_iload hx hb d_law_942 (lv_at hl 5 rfl) ?_
    refine lv_iconst (v := 2) hx hb d_law_944 (by decide) ?_
    refine lv_iadd hx hb d_law_945 ?_
    refine va_sld hx hb hX0 hbl hbA hS (hin 2 (by decide) (by decide)) d_law_946 ?_
    have pm9 : ((wSd cI cZ cJ sd_a w_a v_a (wr_a 0) (rd_a 0) (cu_a 0) (sp_a 0) sd ++ wSy cI cZ cJ cu_a cu ++ wSy cI cZ cJ sp_a sp ++ wBr cI cZ cJ w_a w_b w ++ wBr cI cZ cJ v_a v_b v ++ wWr cI cZ cJ wr_a (cb_a 0) wr ++ wRd cI cZ cJ rd_a (cb_a 0) rd ++ wCb cI cZ cJ cb_a w_a v_a cb ++ wMo cI cZ cJ mo_a mo ++ wOu cI cZ cJ ou_a ou) : va_W).Perm ((wMo cI cZ cJ mo_a mo) ++ (wSd cI cZ cJ sd_a w_a v_a (wr_a 0) (rd_a 0) (cu_a 0) (sp_a 0) sd ++ wSy cI cZ cJ cu_a cu ++ wSy cI cZ cJ sp_a sp ++ wBr cI cZ cJ w_a w_b w ++ wBr cI cZ cJ v_a v_b v ++ wWr cI cZ cJ wr_a (cb_a 0) wr ++ wRd cI cZ cJ rd_a (cb_a 0) rd ++ wCb cI cZ cJ cb_a w_a v_a cb ++ wOu cI cZ cJ ou_a ou)) := pm_2 _ _ _ _ _ _ _ _ _ _
    have hPc := pw_P (ws' := (wMo cI cZ cJ mo_a mo)) hP (fun q hq => pm9.mem_iff.mpr (List.mem_append_left _ hq))
    have hDc := pw_D (wc := (wMo cI cZ cJ mo_a mo)) hD pm9
    have hFc := pw_free (wc := (wMo cI cZ cJ mo_a mo)) hD hS hA (fun q hq => pm9.mem_iff.mpr (List.mem_append_left _ hq))
    refine va_calli (va_runV (As := [.int (xs (i + 1).toNatClampNeg), .int (xs (i + 2).toNatClampNeg)]) (rest := []) ⟨hx, hb, hml, hown, hts⟩ (k_Model_likeness l dC dI cI cZ cJ mo_a H.size hg) (cwV 2 hts (gV t_1087 t_1088 t_1089 t_63 t_1090) rfl rfl rfl hd_Model_likeness ⟨Nat.le_trans (Nat.le_of_ble_eq_true rfl) hRf, Nat.le_trans (Nat.le_of_ble_eq_true rfl) hRl⟩) ⟨kP_blind, va_recv hK hPc (ci := 7) (q0 := 0) rfl rfl, kP_at hPc hK hDc hN⟩ rfl rfl hl.1 rfl (lv_room (Nat.le_of_ble_eq_true rfl)) d_law_947 ⟨by omega, by omega⟩) hS (fun q _ h => hFc q h) hFc (fun r9 u t H1 locs ht hvm hw hB hz1 hk1 hS => ?_)
    rw [hw]
    obtain ⟨hP, hD⟩ := pw_join (wr := (wSd cI cZ cJ sd_a w_a v_a (wr_a 0) (rd_a 0) (cu_a 0) (sp_a 0) sd ++ wSy cI cZ cJ cu_a cu ++ wSy cI cZ cJ sp_a sp ++ wBr cI cZ cJ w_a w_b w ++ wBr cI cZ cJ v_a v_b v ++ wWr cI cZ cJ wr_a (cb_a 0) wr ++ wRd cI cZ cJ rd_a (cb_a 0) rd ++ wCb cI cZ cJ cb_a w_a v_a cb ++ wOu cI cZ cJ ou_a ou)) (w1 := (wMo cI cZ cJ mo_a mo')) hP hD pm9 ht hk1 hFc hB
    generalize H1 = H at hP hS ⊢
    have pm9 : ((wSd cI cZ cJ sd_a w_a v_a (wr_a 0) (rd_a 0) (cu_a 0) (sp_a 0) sd ++ wSy cI cZ cJ cu_a cu ++ wSy cI cZ cJ sp_a sp ++ wBr cI cZ cJ w_a w_b w ++ wBr cI cZ cJ v_a v_b v ++ wWr cI cZ cJ wr_a (cb_a 0) wr ++ wRd cI cZ cJ rd_a (cb_a 0) rd ++ wCb cI cZ cJ cb_a w_a v_a cb ++ wOu cI cZ cJ ou_a ou) ++ (wMo cI cZ cJ mo_a mo') : va_W).Perm (wSd cI cZ cJ sd_a w_a v_a (wr_a 0) (rd_a 0) (cu_a 0) (sp_a 0) sd ++ wSy cI cZ cJ cu_a cu ++ wSy cI cZ cJ sp_a sp ++ wBr cI cZ cJ w_a w_b w ++ wBr cI cZ cJ v_a v_b v ++ wWr cI cZ cJ wr_a (cb_a 0) wr ++ wRd cI cZ cJ rd_a (cb_a 0) rd ++ wCb cI cZ cJ cb_a w_a v_a cb ++ wMo cI cZ cJ mo_a mo' ++ wOu cI cZ cJ ou_a ou) := pm_3 _ _ _ _ _ _ _ _ _ _
    have hP : va_P (dC, dI) vwCl (wSd cI cZ cJ sd_a w_a v_a (wr_a 0) (rd_a 0) (cu_a 0) (sp_a 0) sd ++ wSy cI cZ cJ cu_a cu ++ wSy cI cZ cJ sp_a sp ++ wBr cI cZ cJ w_a w_b w ++ wBr cI cZ cJ v_a v_b v ++ wWr cI cZ cJ wr_a (cb_a 0) wr ++ wRd cI cZ cJ rd_a (cb_a 0) rd ++ wCb cI cZ cJ cb_a w_a v_a cb ++ wMo cI cZ cJ mo_a mo' ++ wOu cI cZ cJ ou_a ou) H := pw_P hP (fun q hq => pm9.mem_iff.mpr hq)
    have hD : va_D A (wSd cI cZ cJ sd_a w_a v_a (wr_a 0) (rd_a 0) (cu_a 0) (sp_a 0) sd ++ wSy cI cZ cJ cu_a cu ++ wSy cI cZ cJ sp_a sp ++ wBr cI cZ cJ w_a w_b w ++ wBr cI cZ cJ v_a v_b v ++ wWr cI cZ cJ wr_a (cb_a 0) wr ++ wRd cI cZ cJ rd_a (cb_a 0) rd ++ wCb cI cZ cJ cb_a w_a v_a cb ++ wMo cI cZ cJ mo_a mo' ++ wOu cI cZ cJ ou_a ou) := pw_Dp hD pm9
    refine lv_istore (lv' := [(6, .int q), (5, .int 1), (0, .ref b), (1, .ref (sd_a 0)), (2, .ref (mo_a 0)), (3, .ref (ou_a 0)), (4, .int i)]) hx hb d_law_950 hl (by decide) rfl (fun ls hl => ?_)
    refine lv_aload_n hx hb d_law_952 rfl (lv_at hl 4 rfl) ?_
    have hth : f_Model_thrown mo' = some (Mo_code mo') := rfl
    have pm9 : ((wSd cI cZ cJ sd_a w_a v_a (wr_a 0) (rd_a 0) (cu_a 0) (sp_a 0) sd ++ wSy cI cZ cJ cu_a cu ++ wSy cI cZ cJ sp_a sp ++ wBr cI cZ cJ w_a w_b w ++ wBr cI cZ cJ v_a v_b v ++ wWr cI cZ cJ wr_a (cb_a 0) wr ++ wRd cI cZ cJ rd_a (cb_a 0) rd ++ wCb cI cZ cJ cb_a w_a v_a cb ++ wMo cI cZ cJ mo_a mo' ++ wOu cI cZ cJ ou_a ou) : va_W).Perm ((wMo cI cZ cJ mo_a mo') ++ (wSd cI cZ cJ sd_a w_a v_a (wr_a 0) (rd_a 0) (cu_a 0) (sp_a 0) sd ++ wSy cI cZ cJ cu_a cu ++ wSy cI cZ cJ sp_a sp ++ wBr cI cZ cJ w_a w_b w ++ wBr cI cZ cJ v_a v_b v ++ wWr cI cZ cJ wr_a (cb_a 0) wr ++ wRd cI cZ cJ rd_a (cb_a 0) rd ++ wCb cI cZ cJ cb_a w_a v_a cb ++ wOu cI cZ cJ ou_a ou)) := pm_2 _ _ _ _ _ _ _ _ _ _
    have hPc := pw_P (ws' := (wMo cI cZ cJ mo_a mo')) hP (fun q hq => pm9.mem_iff.mpr (List.mem_append_left _ hq))
    have hDc := pw_D (wc := (wMo cI cZ cJ mo_a mo')) hD pm9
    have hFc := pw_free (wc := (wMo cI cZ cJ mo_a mo')) hD hS hA (fun q hq => pm9.mem_iff.mpr (List.mem_append_left _ hq))
    refine va_calli (va_runV (As := []) (rest := []) ⟨hx, hb, hml, hown, hts⟩ (k_Model_thrown l dC dI cI cZ cJ mo_a H.size hth) (cwV 0 hts (gV t_906 t_907 t_908 t_63 t_909) rfl rfl rfl hd_Model_thrown ⟨Nat.le_trans (Nat.le_of_ble_eq_true rfl) hRf, Nat.le_trans (Nat.le_of_ble_eq_true rfl) hRl⟩) ⟨kP_blind, va_recv hK hPc (ci := 7) (q0 := 0) rfl rfl, kP_at hPc hK hDc hN⟩ rfl rfl hl.1 rfl (lv_room (Nat.le_of_ble_eq_true rfl)) d_law_953 ⟨by omega, by omega⟩) hS (fun q _ h => hFc q h) hFc (fun r9 u t H1 locs ht hvm hw hB hz1 hk1 hS => ?_)
    rw [hw]
    obtain ⟨hP, hD⟩ := pw_join (wr := (wSd cI cZ cJ sd_a w_a v_a (wr_a 0) (rd_a 0) (cu_a 0) (sp_a 0) sd ++ wSy cI cZ cJ cu_a cu ++ wSy cI cZ cJ sp_a sp ++ wBr cI cZ cJ w_a w_b w ++ wBr cI cZ cJ v_a v_b v ++ wWr cI cZ cJ wr_a (cb_a 0) wr ++ wRd cI cZ cJ rd_a (cb_a 0) rd ++ wCb cI cZ cJ cb_a w_a v_a cb ++ wOu cI cZ cJ ou_a ou)) (w1 := (wMo cI cZ cJ mo_a mo')) hP hD pm9 ht hk1 hFc hB
    generalize H1 = H at hP hS ⊢
    have pm9 : ((wSd cI cZ cJ sd_a w_a v_a (wr_a 0) (rd_a 0) (cu_a 0) (sp_a 0) sd ++ wSy cI cZ cJ cu_a cu ++ wSy cI cZ cJ sp_a sp ++ wBr cI cZ cJ w_a w_b w ++ wBr cI cZ cJ v_a v_b v ++ wWr cI cZ cJ wr_a (cb_a 0) wr ++ wRd cI cZ cJ rd_a (cb_a 0) rd ++ wCb cI cZ cJ cb_a w_a v_a cb ++ wOu cI cZ cJ ou_a ou) ++ (wMo cI cZ cJ mo_a mo') : va_W).Perm (wSd cI cZ cJ sd_a w_a v_a (wr_a 0) (rd_a 0) (cu_a 0) (sp_a 0) sd ++ wSy cI cZ cJ cu_a cu ++ wSy cI cZ cJ sp_a sp ++ wBr cI cZ cJ w_a w_b w ++ wBr cI cZ cJ v_a v_b v ++ wWr cI cZ cJ wr_a (cb_a 0) wr ++ wRd cI cZ cJ rd_a (cb_a 0) rd ++ wCb cI cZ cJ cb_a w_a v_a cb ++ wMo cI cZ cJ mo_a mo' ++ wOu cI cZ cJ ou_a ou) := pm_3 _ _ _ _ _ _ _ _ _ _
    have hP : va_P (dC, dI) vwCl (wSd cI cZ cJ sd_a w_a v_a (wr_a 0) (rd_a 0) (cu_a 0) (sp_a 0) sd ++ wSy cI cZ cJ cu_a cu ++ wSy cI cZ cJ sp_a sp ++ wBr cI cZ cJ w_a w_b w ++ wBr cI cZ cJ v_a v_b v ++ wWr cI cZ cJ wr_a (cb_a 0) wr ++ wRd cI cZ cJ rd_a (cb_a 0) rd ++ wCb cI cZ cJ cb_a w_a v_a cb ++ wMo cI cZ cJ mo_a mo' ++ wOu cI cZ cJ ou_a ou) H := pw_P hP (fun q hq => pm9.mem_iff.mpr hq)
    have hD : va_D A (wSd cI cZ cJ sd_a w_a v_a (wr_a 0) (rd_a 0) (cu_a 0) (sp_a 0) sd ++ wSy cI cZ cJ cu_a cu ++ wSy cI cZ cJ sp_a sp ++ wBr cI cZ cJ w_a w_b w ++ wBr cI cZ cJ v_a v_b v ++ wWr cI cZ cJ wr_a (cb_a 0) wr ++ wRd cI cZ cJ rd_a (cb_a 0) rd ++ wCb cI cZ cJ cb_a w_a v_a cb ++ wMo cI cZ cJ mo_a mo' ++ wOu cI cZ cJ ou_a ou) := pw_Dp hD pm9
    refine lv_iload hx hb d_law_956 (lv_at hl 1 rfl) ?_
    refine lv_icmp_eq (tgt := 963) hx hb d_law_958 (by decide) (fun _ => ?_) (fun h9 => absurd hcode h9)
    refine lv_iload hx hb d_law_963 (lv_at hl 1 rfl) ?_
    refine lv_if_ne (tgt := 980) hx hb d_law_965 (by decide) (fun _ => ?_) (fun h9 => absurd h9 (by decide))
    refine lv_goto (tgt := 1131) hx hb d_law_980 (by decide) ?_
    have hl := lv_sub (l' := [(0, .ref b), (1, .ref (sd_a 0)), (2, .ref (mo_a 0)), (3, .ref (ou_a 0)), (4, .int i)]) hl [2, 3, 4, 5, 6] rfl
    refine W.widen (k := j + 1 + Br_byL w + Br_byL v) (n := 6 * (j + 1) + 2 * Br_byL w + 2 * Br_byL v) (by omega) (by omega) ?_
    exact hk _ _ _ cu_a sp_a w_b v_b cu sp w v wr rd cb mo' ou hrel hP hD hS hl
set_option maxHeartbeats 8000000 in
set_option maxRecDepth 100000 in
theorem L_C_classes {p : Program} {l : Launch} {e : Env} {R : Room} {s : State} {m : MethodId} {args : Array Value} {below : List Frame} {meth : Method} {c : Code} {Q : State → Prop} {A : Nat → Prop} {dC : Nat → ClassId} {dI : Nat → Nat → Nat} {cI cZ cJ : ClassId} {sd_a cu_a sp_a : Nat → Nat} {w_a w_b v_a v_b : Nat} {wr_a rd_a cb_a mo_a ou_a : Nat → Nat} {sd : Sd} {cu sp : Sy} {w v : Br} {wr : Wr} {rd : Rd} {cb : Cb} {mo : Mo} {ou : Ou} {b L : Nat} {xs : Nat → Int32} {i : Int32} {j : Nat} {Rl : Sd → Sy → Sy → Br → Br → Wr → Rd → Cb → Mo → Prop} (hl9 : l.stackTraces = false) (C0 : lcx p c m s args R (dC, dI) (TYS cI cZ cJ) A b L xs i j) (hRb : ∀ sd cu sp w v wr rd cb mo, Rl sd cu sp w v wr rd cb mo → Br_byL w ≤ 40000 ∧ Br_byL v ≤ 40000) (hR0 : Rl sd cu sp w v wr rd cb mo) (hT0 : T_C_classes Rl sd cu sp w v wr rd cb mo (xs (i + 1).toNatClampNeg))
    (hk : ∀ (H : Heap) (locs : List Loc) (ls : Array Slot) (cu_a sp_a : Nat → Nat) (w_b v_b : Nat) (cu sp : Sy) (w v : Br) (wr : Wr) (rd : Rd) (cb : Cb) (mo : Mo) (ou : Ou), Rl sd cu sp w v wr rd cb mo → va_P (dC, dI) vwCl (wSd cI cZ cJ sd_a w_a v_a (wr_a 0) (rd_a 0) (cu_a 0) (sp_a 0) sd ++ wSy cI cZ cJ cu_a cu ++ wSy cI cZ cJ sp_a sp ++ wBr cI cZ cJ w_a w_b w ++ wBr cI cZ cJ v_a v_b v ++ wWr cI cZ cJ wr_a (cb_a 0) wr ++ wRd cI cZ cJ rd_a (cb_a 0) rd ++ wCb cI cZ cJ cb_a w_a v_a cb ++ wMo cI cZ cJ mo_a mo ++ wOu cI cZ cJ ou_a ou) H → va_D A (wSd cI cZ cJ sd_a w_a v_a (wr_a 0) (rd_a 0) (cu_a 0) (sp_a 0) sd ++ wSy cI cZ cJ cu_a cu ++ wSy cI cZ cJ sp_a sp ++ wBr cI cZ cJ w_a w_b w ++ wBr cI cZ cJ v_a v_b v ++ wWr cI cZ cJ wr_a (cb_a 0) wr ++ wRd cI cZ cJ rd_a (cb_a 0) rd ++ wCb cI cZ cJ cb_a w_a v_a cb ++ wMo cI cZ cJ mo_a mo ++ wOu cI cZ cJ ou_a ou) → va_S A s.heap H locs → lv_has ls 7 [(0, .ref b), (1, .ref (sd_a 0)), (2, .ref (mo_a 0)), (3, .ref (ou_a 0)), (4, .int i)] → W p l e R s m args below meth c H locs (j + 1 + Br_byL w + Br_byL v) (6 * (j + 1) + 2 * Br_byL w + 2 * Br_byL v) Q (F0 m 1131 ls []))
    {H : Heap} {locs : List Loc} {ls : Array Slot} (hP : va_P (dC, dI) vwCl (wSd cI cZ cJ sd_a w_a v_a (wr_a 0) (rd_a 0) (cu_a 0) (sp_a 0) sd ++ wSy cI cZ cJ cu_a cu ++ wSy cI cZ cJ sp_a sp ++ wBr cI cZ cJ w_a w_b w ++ wBr cI cZ cJ v_a v_b v ++ wWr cI cZ cJ wr_a (cb_a 0) wr ++ wRd cI cZ cJ rd_a (cb_a 0) rd ++ wCb cI cZ cJ cb_a w_a v_a cb ++ wMo cI cZ cJ mo_a mo ++ wOu cI cZ cJ ou_a ou) H) (hD : va_D A (wSd cI cZ cJ sd_a w_a v_a (wr_a 0) (rd_a 0) (cu_a 0) (sp_a 0) sd ++ wSy cI cZ cJ cu_a cu ++ wSy cI cZ cJ sp_a sp ++ wBr cI cZ cJ w_a w_b w ++ wBr cI cZ cJ v_a v_b v ++ wWr cI cZ cJ wr_a (cb_a 0) wr ++ wRd cI cZ cJ rd_a (cb_a 0) rd ++ wCb cI cZ cJ cb_a w_a v_a cb ++ wMo cI cZ cJ mo_a mo ++ wOu cI cZ cJ ou_a ou)) (hS : va_S A s.heap H locs) (hl : lv_has ls 7 [(0, .ref b), (1, .ref (sd_a 0)), (2, .ref (mo_a 0)), (3, .ref (ou_a 0)), (4, .int i)]) : W p l e R s m args below meth c H locs (j + Br_byL w + Br_byL v) (6 * j + 2 * Br_byL w + 2 * Br_byL v) Q (F0 m 983 ls []) := by
  obtain ⟨hx, hb, hml, hown, hts, hK, hA, hA2, hRf, hRl, hN, hT, hX, hX0, hbl, hin, hj, hRc, hRs⟩ := C0
  have hbA : ¬ A b := fun h => absurd (hA2 b h) (Nat.not_le.mpr hbl)
  obtain ⟨hw0, hv0⟩ := hRb _ _ _ _ _ _ _ _ _ hR0
  unfold T_C_classes at hT0
  rcases hT0 with ⟨r, cu', mo', hf, hg, hcode, hrel⟩ | ⟨hf, q, mo', hg, hcode, hrel⟩
  · obtain ⟨ou', heou⟩ : ∃ z : Ou, z = (vp_updL (Ou_f ou) 0 r.toInt64) := ⟨_, rfl⟩
    have hf1 : f_Law_classes sd cu ou (xs (i + 1).toNatClampNeg) = some (0, cu', ou') := by
      rw [f_Law_classes, hf, bd_s, heou]
      rfl
    have hou : Ou_f ou' (0 : Int32).toNatClampNeg = r.toInt64 := by rw [heou]; exact updL_at _ _ _
    refine lv_aload_n hx hb d_law_983 rfl (lv_at hl 1 rfl) ?_
    refine lv_aload_n hx hb d_law_984 rfl (lv_at hl 0 rfl) ?_
    refine lv_iload hx hb d_law_985 (lv_at hl 4 rfl) ?_
    refine lv_iconst (v := 1) hx hb d_law_987 (by decide) ?_
    refine lv_iadd hx hb d_law_988 ?_
    refine va_sld hx hb hX0 hbl hbA hS (hin 1 (by decide) (by decide)) d_law_989 ?_
    refine lv_aload_n hx hb d_law_990 rfl (lv_at hl 3 rfl) ?_
    have pm9 : ((wSd cI cZ cJ sd_a w_a v_a (wr_a 0) (rd_a 0) (cu_a 0) (sp_a 0) sd ++ wSy cI cZ cJ cu_a cu ++ wSy cI cZ cJ sp_a sp ++ wBr cI cZ cJ w_a w_b w ++ wBr cI cZ cJ v_a v_b v ++ wWr cI cZ cJ wr_a (cb_a 0) wr ++ wRd cI cZ cJ rd_a (cb_a 0) rd ++ wCb cI cZ cJ cb_a w_a v_a cb ++ wMo cI cZ cJ mo_a mo ++ wOu cI cZ cJ ou_a ou) : va_W).Perm ((wSd cI cZ cJ sd_a w_a v_a (wr_a 0) (rd_a 0) (cu_a 0) (sp_a 0) sd ++ wSy cI cZ cJ cu_a cu ++ wOu cI cZ cJ ou_a ou) ++ (wSy cI cZ cJ sp_a sp ++ wBr cI cZ cJ w_a w_b w ++ wBr cI cZ cJ v_a v_b v ++ wWr cI cZ cJ wr_a (cb_a 0) wr ++ wRd cI cZ cJ rd_a (cb_a 0) rd ++ wCb cI cZ cJ cb_a w_a v_a cb ++ wMo cI cZ cJ mo_a mo)) := pm_0 _ _ _ _ _ _ _ _ _ _
    have hPc := pw_P (ws' := (wSd cI cZ cJ sd_a w_a v_a (wr_a 0) (rd_a 0) (cu_a 0) (sp_a 0) sd ++ wSy cI cZ cJ cu_a cu ++ wOu cI cZ cJ ou_a ou)) hP (fun q hq => pm9.mem_iff.mpr (List.mem_append_left _ hq))
    have hDc := pw_D (wc := (wSd cI cZ cJ sd_a w_a v_a (wr_a 0) (rd_a 0) (cu_a 0) (sp_a 0) sd ++ wSy cI cZ cJ cu_a cu ++ wOu cI cZ cJ ou_a ou)) hD pm9
    have hFc := pw_free (wc := (wSd cI cZ cJ sd_a w_a v_a (wr_a 0) (rd_a 0) (cu_a 0) (sp_a 0) sd ++ wSy cI cZ cJ cu_a cu ++ wOu cI cZ cJ ou_a ou)) hD hS hA (fun q hq => pm9.mem_iff.mpr (List.mem_append_left _ hq))
    refine va_calli (w_runS (As := [.ref (sd_a 0), .int (xs (i + 1).toNatClampNeg), .ref (ou_a 0)]) (rest := []) ⟨hx, hb, hml, hown, hts⟩ (k_Law_classes l dC dI cI cZ cJ sd_a cu_a ou_a w_a v_a (wr_a 0) (rd_a 0) (sp_a 0) H.size hf1) (cwH_of 3 hts t_796 rfl rfl t_53 t_794 t_795 hd_Law_classes.2 ⟨Nat.le_trans (Nat.le_of_ble_eq_true rfl) hRf, Nat.le_trans (Nat.le_of_ble_eq_true rfl) hRl⟩) ⟨kP_blind, kP_at hPc hK hDc hN⟩ rfl rfl hl.1 rfl (lv_room (Nat.le_of_ble_eq_true rfl)) d_law_991 ⟨by omega, by omega⟩) hS (fun q _ h => hFc q h) hFc (fun r9 u t H1 locs ht hvm hw hB hz1 hk1 hS => ?_)
    rw [hw]
    obtain ⟨hP, hD⟩ := pw_join (wr := (wSy cI cZ cJ sp_a sp ++ wBr cI cZ cJ w_a w_b w ++ wBr cI cZ cJ v_a v_b v ++ wWr cI cZ cJ wr_a (cb_a 0) wr ++ wRd cI cZ cJ rd_a (cb_a 0) rd ++ wCb cI cZ cJ cb_a w_a v_a cb ++ wMo cI cZ cJ mo_a mo)) (w1 := (wSd cI cZ cJ sd_a w_a v_a (wr_a 0) (rd_a 0) (cu_a 0) (sp_a 0) sd ++ wSy cI cZ cJ cu_a cu' ++ wOu cI cZ cJ ou_a ou')) hP hD pm9 ht hk1 hFc hB
    generalize H1 = H at hP hS ⊢
    have pm9 : ((wSy cI cZ cJ sp_a sp ++ wBr cI cZ cJ w_a w_b w ++ wBr cI cZ cJ v_a v_b v ++ wWr cI cZ cJ wr_a (cb_a 0) wr ++ wRd cI cZ cJ rd_a (cb_a 0) rd ++ wCb cI cZ cJ cb_a w_a v_a cb ++ wMo cI cZ cJ mo_a mo) ++ (wSd cI cZ cJ sd_a w_a v_a (wr_a 0) (rd_a 0) (cu_a 0) (sp_a 0) sd ++ wSy cI cZ cJ cu_a cu' ++ wOu cI cZ cJ ou_a ou') : va_W).Perm (wSd cI cZ cJ sd_a w_a v_a (wr_a 0) (rd_a 0) (cu_a 0) (sp_a 0) sd ++ wSy cI cZ cJ cu_a cu' ++ wSy cI cZ cJ sp_a sp ++ wBr cI cZ cJ w_a w_b w ++ wBr cI cZ cJ v_a v_b v ++ wWr cI cZ cJ wr_a (cb_a 0) wr ++ wRd cI cZ cJ rd_a (cb_a 0) rd ++ wCb cI cZ cJ cb_a w_a v_a cb ++ wMo cI cZ cJ mo_a mo ++ wOu cI cZ cJ ou_a ou') := pm_1 _ _ _ _ _ _ _ _ _ _
    have hP : va_P (dC, dI) vwCl (wSd cI cZ cJ sd_a w_a v_a (wr_a 0) (rd_a 0) (cu_a 0) (sp_a 0) sd ++ wSy cI cZ cJ cu_a cu' ++ wSy cI cZ cJ sp_a sp ++ wBr cI cZ cJ w_a w_b w ++ wBr cI cZ cJ v_a v_b v ++ wWr cI cZ cJ wr_a (cb_a 0) wr ++ wRd cI cZ cJ rd_a (cb_a 0) rd ++ wCb cI cZ cJ cb_a w_a v_a cb ++ wMo cI cZ cJ mo_a mo ++ wOu cI cZ cJ ou_a ou') H := pw_P hP (fun q hq => pm9.mem_iff.mpr hq)
    have hD : va_D A (wSd cI cZ cJ sd_a w_a v_a (wr_a 0) (rd_a 0) (cu_a 0) (sp_a 0) sd ++ wSy cI cZ cJ cu_a cu' ++ wSy cI cZ cJ sp_a sp ++ wBr cI cZ cJ w_a w_b w ++ wBr cI cZ cJ v_a v_b v ++ wWr cI cZ cJ wr_a (cb_a 0) wr ++ wRd cI cZ cJ rd_a (cb_a 0) rd ++ wCb cI cZ cJ cb_a w_a v_a cb ++ wMo cI cZ cJ mo_a mo ++ wOu cI cZ cJ ou_a ou') := pw_Dp hD pm9
    refine lv_istore (lv' := [(5, .int 0), (0, .ref b), (1, .ref (sd_a 0)), (2, .ref (mo_a 0)), (3, .ref (ou_a 0)), (4, .int i)]) hx hb d_law_994 hl (by decide) rfl (fun ls hl => ?_)
    refine lv_aload_n hx hb d_law_996 rfl (lv_at hl 3 rfl) ?_
    refine lv_aload_n hx hb d_law_997 rfl (lv_at hl 1 rfl) ?_
    refine lv_iload hx hb d_law_998 (lv_at hl 5 rfl) ?_
    refine lv_iconst (v := 1) hx hb d_law_1000 (by decide) ?_
    refine lv_iadd hx hb d_law_1001 ?_
    refine va_sld hx hb hX0 hbl hbA hS (hin 1 (by decide) (by decide)) d_law_1002 ?_
    have pm9 : ((wSd cI cZ cJ sd_a w_a v_a (wr_a 0) (rd_a 0) (cu_a 0) (sp_a 0) sd ++ wSy cI cZ cJ cu_a cu' ++ wSy cI cZ cJ sp_a sp ++ wBr cI cZ cJ w_a w_b w ++ wBr cI cZ cJ v_a v_b v ++ wWr cI cZ cJ wr_a (cb_a 0) wr ++ wRd cI cZ cJ rd_a (cb_a 0) rd ++ wCb cI cZ cJ cb_a w_a v_a cb ++ wMo cI cZ cJ mo_a mo ++ wOu cI cZ cJ ou_a ou') : va_W).Perm ((wMo cI cZ cJ mo_a mo) ++ (wSd cI cZ cJ sd_a w_a v_a (wr_a 0) (rd_a 0) (cu_a 0) (sp_a 0) sd ++ wSy cI cZ cJ cu_a cu' ++ wSy cI cZ cJ sp_a sp ++ wBr cI cZ cJ w_a w_b w ++ wBr cI cZ cJ v_a v_b v ++ wWr cI cZ cJ wr_a (cb_a 0) wr ++ wRd cI cZ cJ rd_a (cb_a 0) rd ++ wCb cI cZ cJ cb_a w_a v_a cb ++ wOu cI cZ cJ ou_a ou')) := pm_2 _ _ _ _ _ _ _ _ _ _
    have hPc := pw_P (ws' := (wMo cI cZ cJ mo_a mo)) hP (fun q hq => pm9.mem_iff.mpr (List.mem_append_left _ hq))
    have hDc := pw_D (wc := (wMo cI cZ cJ mo_a mo)) hD pm9
    have hFc := pw_free (wc := (wMo cI cZ cJ mo_a mo)) hD hS hA (fun q hq => pm9.mem_iff.mpr (List.mem_append_left _ hq))
    refine va_calli (va_runV (As := [.int (xs (i + 1).toNatClampNeg)]) (rest := []) ⟨hx, hb, hml, hown, hts⟩ (k_Model_classes l dC dI cI cZ cJ mo_a H.size hg) (cwV 1 hts (gV t_1095 t_1096 t_1097 t_63 t_1098) rfl rfl rfl hd_Model_classes ⟨Nat.le_trans (Nat.le_of_ble_eq_true rfl) hRf, Nat.le_trans (Nat.le_of_ble_eq_true rfl) hRl⟩) ⟨kP_blind, va_recv hK hPc (ci := 7) (q0 := 0) rfl rfl, kP_at hPc hK hDc hN⟩ rfl rfl hl.1 rfl (lv_room (Nat.le_of_ble_eq_true rfl)) d_law_1003 ⟨by omega, by omega⟩) hS (fun q _ h => hFc q h) hFc (fun r9 u t H1 locs ht hvm hw hB hz1 hk1 hS => ?_)
    rw [hw]
    obtain ⟨hP, hD⟩ := pw_join (wr := (wSd cI cZ cJ sd_a w_a v_a (wr_a 0) (rd_a 0) (cu_a 0) (sp_a 0) sd ++ wSy cI cZ cJ cu_a cu' ++ wSy cI cZ cJ sp_a sp ++ wBr cI cZ cJ w_a w_b w ++ wBr cI cZ cJ v_a v_b v ++ wWr cI cZ cJ wr_a (cb_a 0) wr ++ wRd cI cZ cJ rd_a (cb_a 0) rd ++ wCb cI cZ cJ cb_a w_a v_a cb ++ wOu cI cZ cJ ou_a ou')) (w1 := (wMo cI cZ cJ mo_a mo')) hP hD pm9 ht hk1 hFc hB
    generalize H1 = H at hP hS ⊢
    have pm9 : ((wSd cI cZ cJ sd_a w_a v_a (wr_a 0) (rd_a 0) (cu_a 0) (sp_a 0) sd ++ wSy cI cZ cJ cu_a cu' ++ wSy cI cZ cJ sp_a sp ++ wBr cI cZ cJ w_a w_b w ++ wBr cI cZ cJ v_a v_b v ++ wWr cI cZ cJ wr_a (cb_a 0) wr ++ wRd cI cZ cJ rd_a (cb_a 0) rd ++ wCb cI cZ cJ cb_a w_a v_a cb ++ wOu cI cZ cJ ou_a ou') ++ (wMo cI cZ cJ mo_a mo') : va_W).Perm (wSd cI cZ cJ sd_a w_a v_a (wr_a 0) (rd_a 0) (cu_a 0) (sp_a 0) sd ++ wSy cI cZ cJ cu_a cu' ++ wSy cI cZ cJ sp_a sp ++ wBr cI cZ cJ w_a w_b w ++ wBr cI cZ cJ v_a v_b v ++ wWr cI cZ cJ wr_a (cb_a 0) wr ++ wRd cI cZ cJ rd_a (cb_a 0) rd ++ wCb cI cZ cJ cb_a w_a v_a cb ++ wMo cI cZ cJ mo_a mo' ++ wOu cI cZ cJ ou_a ou') := pm_3 _ _ _ _ _ _ _ _ _ _
    have hP : va_P (dC, dI) vwCl (wSd cI cZ cJ sd_a w_a v_a (wr_a 0) (rd_a 0) (cu_a 0) (sp_a 0) sd ++ wSy cI cZ cJ cu_a cu' ++ wSy cI cZ cJ sp_a sp ++ wBr cI cZ cJ w_a w_b w ++ wBr cI cZ cJ v_a v_b v ++ wWr cI cZ cJ wr_a (cb_a 0) wr ++ wRd cI cZ cJ rd_a (cb_a 0) rd ++ wCb cI cZ cJ cb_a w_a v_a cb ++ wMo cI cZ cJ mo_a mo' ++ wOu cI cZ cJ ou_a ou') H := pw_P hP (fun q hq => pm9.mem_iff.mpr hq)
    have hD : va_D A (wSd cI cZ cJ sd_a w_a v_a (wr_a 0) (rd_a 0) (cu_a 0) (sp_a 0) sd ++ wSy cI cZ cJ cu_a cu' ++ wSy cI cZ cJ sp_a sp ++ wBr cI cZ cJ w_a w_b w ++ wBr cI cZ cJ v_a v_b v ++ wWr cI cZ cJ wr_a (cb_a 0) wr ++ wRd cI cZ cJ rd_a (cb_a 0) rd ++ wCb cI cZ cJ cb_a w_a v_a cb ++ wMo cI cZ cJ mo_a mo' ++ wOu cI cZ cJ ou_a ou') := pw_Dp hD pm9
    refine lv_istore (lv' := [(6, .int r), (5, .int 0), (0, .ref b), (1, .ref (sd_a 0)), (2, .ref (mo_a 0)), (3, .ref (ou_a 0)), (4, .int i)]) hx hb d_law_1006 hl (by decide) rfl (fun ls hl => ?_)
    refine lv_aload_n hx hb d_law_1008 rfl (lv_at hl 4 rfl) ?_
    have hth : f_Model_thrown mo' = some (Mo_code mo') := rfl
    have pm9 : ((wSd cI cZ cJ sd_a w_a v_a (wr_a 0) (rd_a 0) (cu_a 0) (sp_a 0) sd ++ wSy cI cZ cJ cu_a cu' ++ wSy cI cZ cJ sp_a sp ++ wBr cI cZ cJ w_a w_b w ++ wBr cI cZ cJ v_a v_b v ++ wWr cI cZ cJ wr_a (cb_a 0) wr ++ wRd cI cZ cJ rd_a (cb_a 0) rd ++ wCb cI cZ cJ cb_a w_a v_a cb ++ wMo cI cZ cJ mo_a mo' ++ wOu cI cZ cJ ou_a ou') : va_W).Perm ((wMo cI cZ cJ mo_a mo') ++ (wSd cI cZ cJ sd_a w_a v_a (wr_a 0) (rd_a 0) (cu_a 0) (sp_a 0) sd ++ wSy cI cZ cJ cu_a cu' ++ wSy cI cZ cJ sp_a sp ++ wBr cI cZ cJ w_a w_b w ++ wBr cI cZ cJ v_a v_b v ++ wWr cI cZ cJ wr_a (cb_a 0) wr ++ wRd cI cZ cJ rd_a (cb_a 0) rd ++ wCb cI cZ cJ cb_a w_a v_a cb ++ wOu cI cZ cJ ou_a ou')) := pm_2 _ _ _ _ _ _ _ _ _ _
    have hPc := pw_P (ws' := (wMo cI cZ cJ mo_a mo')) hP (fun q hq => pm9.mem_iff.mpr (List.mem_append_left _ hq))
    have hDc := pw_D (wc := (wMo cI cZ cJ mo_a mo')) hD pm9
    have hFc := pw_free (wc := (wMo cI cZ cJ mo_a mo')) hD hS hA (fun q hq => pm9.mem_iff.mpr (List.mem_append_left _ hq))
    refine va_calli (va_runV (As := []) (rest := []) ⟨hx, hb, hml, hown, hts⟩ (k_Model_thrown l dC dI cI cZ cJ mo_a H.size hth) (cwV 0 hts (gV t_906 t_907 t_908 t_63 t_909) rfl rfl rfl hd_Model_thrown ⟨Nat.le_trans (Nat.le_of_ble_eq_true rfl) hRf, Nat.le_trans (Nat.le_of_ble_eq_true rfl) hRl⟩) ⟨kP_blind, va_recv hK hPc (ci := 7) (q0 := 0) rfl rfl, kP_at hPc hK hDc hN⟩ rfl rfl hl.1 rfl (lv_room (Nat.le_of_ble_eq_true rfl)) d_law_1009 ⟨by omega, by omega⟩) hS (fun q _ h => hFc q h) hFc (fun r9 u t H1 locs ht hvm hw hB hz1 hk1 hS => ?_)
    rw [hw]
    obtain ⟨hP, hD⟩ := pw_join (wr := (wSd cI cZ cJ sd_a w_a v_a (wr_a 0) (rd_a 0) (cu_a 0) (sp_a 0) sd ++ wSy cI cZ cJ cu_a cu' ++ wSy cI cZ cJ sp_a sp ++ wBr cI cZ cJ w_a w_b w ++ wBr cI cZ cJ v_a v_b v ++ wWr cI cZ cJ wr_a (cb_a 0) wr ++ wRd cI cZ cJ rd_a (cb_a 0) rd ++ wCb cI cZ cJ cb_a w_a v_a cb ++ wOu cI cZ cJ ou_a ou')) (w1 := (wMo cI cZ cJ mo_a mo')) hP hD pm9 ht hk1 hFc hB
    generalize H1 = H at hP hS ⊢
    have pm9 : ((wSd cI cZ cJ sd_a w_a v_a (wr_a 0) (rd_a 0) (cu_a 0) (sp_a 0) sd ++ wSy cI cZ cJ cu_a cu' ++ wSy cI cZ cJ sp_a sp ++ wBr cI cZ cJ w_a w_b w ++ wBr cI cZ cJ v_a v_b v ++ wWr cI cZ cJ wr_a (cb_a 0) wr ++ wRd cI cZ cJ rd_a (cb_a 0) rd ++ wCb cI cZ cJ cb_a w_a v_a cb ++ wOu cI cZ cJ ou_a ou') ++ (wMo cI cZ cJ mo_a mo') : va_W).Perm (wSd cI cZ cJ sd_a w_a v_a (wr_a 0) (rd_a 0) (cu_a 0) (sp_a 0) sd ++ wSy cI cZ cJ cu_a cu' ++ wSy cI cZ cJ sp_a sp ++ wBr cI cZ cJ w_a w_b w ++ wBr cI cZ cJ v_a v_b v ++ wWr cI cZ cJ wr_a (cb_a 0) wr ++ wRd cI cZ cJ rd_a (cb_a 0) rd ++ wCb cI cZ cJ cb_a w_a v_a cb ++ wMo cI cZ cJ mo_a mo' ++ wOu cI cZ cJ ou_a ou') := pm_3 _ _ _ _ _ _ _ _ _ _
    have hP : va_P (dC, dI) vwCl (wSd cI cZ cJ sd_a w_a v_a (wr_a 0) (rd_a 0) (cu_a 0) (sp_a 0) sd ++ wSy cI cZ cJ cu_a cu' ++ wSy cI cZ cJ sp_a sp ++ wBr cI cZ cJ w_a w_b w ++ wBr cI cZ cJ v_a v_b v ++ wWr cI cZ cJ wr_a (cb_a 0) wr ++ wRd cI cZ cJ rd_a (cb_a 0) rd ++ wCb cI cZ cJ cb_a w_a v_a cb ++ wMo cI cZ cJ mo_a mo' ++ wOu cI cZ cJ ou_a ou') H := pw_P hP (fun q hq => pm9.mem_iff.mpr hq)
    have hD : va_D A (wSd cI cZ cJ sd_a w_a v_a (wr_a 0) (rd_a 0) (cu_a 0) (sp_a 0) sd ++ wSy cI cZ cJ cu_a cu' ++ wSy cI cZ cJ sp_a sp ++ wBr cI cZ cJ w_a w_b w ++ wBr cI cZ cJ v_a v_b v ++ wWr cI cZ cJ wr_a (cb_a 0) wr ++ wRd cI cZ cJ rd_a (cb_a 0) rd ++ wCb cI cZ cJ cb_a w_a v_a cb ++ wMo cI cZ cJ mo_a mo' ++ wOu cI cZ cJ ou_a ou') := pw_Dp hD pm9
    refine lv_iload hx hb d_law_1012 (lv_at hl 1 rfl) ?_
    refine lv_icmp_eq (tgt := 1019) hx hb d_law_1014 (by decide) (fun _ => ?_) (fun h9 => absurd hcode h9)
    refine lv_iload hx hb d_law_1019 (lv_at hl 1 rfl) ?_
    refine lv_if_ne (tgt := 1036) hx hb d_law_1021 (by decide) (fun h9 => absurd rfl h9) (fun _ => ?_)
    refine lv_aload_n hx hb d_law_1024 rfl (lv_at hl 5 rfl) ?_
    refine lv_iconst (v := 0) hx hb d_law_1025 (by decide) ?_
    refine va_lald (f := Ou_f ou') hx hb hK hP 47 2 rfl rfl (inb_in (by decide)) d_law_1026 ?_
    refine lv_iload hx hb d_law_1027 (lv_at hl 0 rfl) ?_
    refine lv_i2l (v := r.toInt64) hx hb d_law_1029 rfl ?_
    refine W.lcmp hx hb d_law_1030 ?_
    refine lv_if_eq (tgt := 1036) hx hb d_law_1031 (by decide) (fun _ => ?_) (fun h9 => absurd (by rw [hou]; exact cmp_self _) h9)
    refine lv_goto (tgt := 1131) hx hb d_law_1036 (by decide) ?_
    have hl := lv_sub (l' := [(0, .ref b), (1, .ref (sd_a 0)), (2, .ref (mo_a 0)), (3, .ref (ou_a 0)), (4, .int i)]) hl [2, 3, 4, 5, 6] rfl
    refine W.widen (k := j + 1 + Br_byL w + Br_byL v) (n := 6 * (j + 1) + 2 * Br_byL w + 2 * Br_byL v) (by omega) (by omega) ?_
    exact hk _ _ _ cu_a sp_a w_b v_b cu' sp w v wr rd cb mo' ou' hrel hP hD hS hl
  · refine lv_aload_n hx hb d_law_983 rfl (lv_at hl 1 rfl) ?_
    refine lv_aload_n hx hb d_law_984 rfl (lv_at hl 0 rfl) ?_
    refine lv_iload hx hb d_law_985 (lv_at hl 4 rfl) ?_
    refine lv_iconst (v := 1) hx hb d_law_987 (by decide) ?_
    refine lv_iadd hx hb d_law_988 ?_
    refine va_sld hx hb hX0 hbl hbA hS (hin 1 (by decide) (by decide)) d_law_989 ?_
    refine lv_aload_n hx hb d_law_990 rfl (lv_at hl 3 rfl) ?_
    have pm9 : ((wSd cI cZ cJ sd_a w_a v_a (wr_a 0) (rd_a 0) (cu_a 0) (sp_a 0) sd ++ wSy cI cZ cJ cu_a cu ++ wSy cI cZ cJ sp_a sp ++ wBr cI cZ cJ w_a w_b w ++ wBr cI cZ cJ v_a v_b v ++ wWr cI cZ cJ wr_a (cb_a 0) wr ++ wRd cI cZ cJ rd_a (cb_a 0) rd ++ wCb cI cZ cJ cb_a w_a v_a cb ++ wMo cI cZ cJ mo_a mo ++ wOu cI cZ cJ ou_a ou) : va_W).Perm ((wSd cI cZ cJ sd_a w_a v_a (wr_a 0) (rd_a 0) (cu_a 0) (sp_a 0) sd ++ wSy cI cZ cJ cu_a cu ++ wOu cI cZ cJ ou_a ou) ++ (wSy cI cZ cJ sp_a sp ++ wBr cI cZ cJ w_a w_b w ++ wBr cI cZ cJ v_a v_b v ++ wWr cI cZ cJ wr_a (cb_a 0) wr ++ wRd cI cZ cJ rd_a (cb_a 0) rd ++ wCb cI cZ cJ cb_a w_a v_a cb ++ wMo cI cZ cJ mo_a mo)) := pm_0 _ _ _ _ _ _ _ _ _ _
    have hPc := pw_P (ws' := (wSd cI cZ cJ sd_a w_a v_a (wr_a 0) (rd_a 0) (cu_a 0) (sp_a 0) sd ++ wSy cI cZ cJ cu_a cu ++ wOu cI cZ cJ ou_a ou)) hP (fun q hq => pm9.mem_iff.mpr (List.mem_append_left _ hq))
    have hDc := pw_D (wc := (wSd cI cZ cJ sd_a w_a v_a (wr_a 0) (rd_a 0) (cu_a 0) (sp_a 0) sd ++ wSy cI cZ cJ cu_a cu ++ wOu cI cZ cJ ou_a ou)) hD pm9
    have hFc := pw_free (wc := (wSd cI cZ cJ sd_a w_a v_a (wr_a 0) (rd_a 0) (cu_a 0) (sp_a 0) sd ++ wSy cI cZ cJ cu_a cu ++ wOu cI cZ cJ ou_a ou)) hD hS hA (fun q hq => pm9.mem_iff.mpr (List.mem_append_left _ hq))
    refine va_calli (w_runS (As := [.ref (sd_a 0), .int (xs (i + 1).toNatClampNeg), .ref (ou_a 0)]) (rest := []) ⟨hx, hb, hml, hown, hts⟩ (kx_Law_classes_1 l hl9 dC dI cI cZ cJ sd_a cu_a ou_a w_a v_a (wr_a 0) (rd_a 0) (sp_a 0) H.size hf) (cwH_of 3 hts t_796 rfl rfl t_53 t_794 t_795 hd_Law_classes.2 ⟨Nat.le_trans (Nat.le_of_ble_eq_true rfl) hRf, Nat.le_trans (Nat.le_of_ble_eq_true rfl) hRl⟩) ⟨kPX_blind, kPX_at hPc hK hDc hN (fun q hq => hS.2.1 q hq (fun h9 => absurd (hA2 q h9) (Nat.not_le.mpr hq))) hT hX⟩ rfl rfl hl.1 rfl (lv_room (Nat.le_of_ble_eq_true rfl)) d_law_991 ⟨by omega, by omega⟩) hS (fun q _ h => hFc q h) hFc (fun r9 u t H1 locs ht hvm hw hB hz1 hk1 hS => ?_)
    rw [hw]
    obtain ⟨hP, hD⟩ := pw_join (wr := (wSy cI cZ cJ sp_a sp ++ wBr cI cZ cJ w_a w_b w ++ wBr cI cZ cJ v_a v_b v ++ wWr cI cZ cJ wr_a (cb_a 0) wr ++ wRd cI cZ cJ rd_a (cb_a 0) rd ++ wCb cI cZ cJ cb_a w_a v_a cb ++ wMo cI cZ cJ mo_a mo)) (w1 := (wSd cI cZ cJ sd_a w_a v_a (wr_a 0) (rd_a 0) (cu_a 0) (sp_a 0) sd ++ wSy cI cZ cJ cu_a cu ++ wOu cI cZ cJ ou_a ou)) hP hD pm9 ht hk1 hFc hB
    generalize H1 = H at hP hS ⊢
    have pm9 : ((wSy cI cZ cJ sp_a sp ++ wBr cI cZ cJ w_a w_b w ++ wBr cI cZ cJ v_a v_b v ++ wWr cI cZ cJ wr_a (cb_a 0) wr ++ wRd cI cZ cJ rd_a (cb_a 0) rd ++ wCb cI cZ cJ cb_a w_a v_a cb ++ wMo cI cZ cJ mo_a mo) ++ (wSd cI cZ cJ sd_a w_a v_a (wr_a 0) (rd_a 0) (cu_a 0) (sp_a 0) sd ++ wSy cI cZ cJ cu_a cu ++ wOu cI cZ cJ ou_a ou) : va_W).Perm (wSd cI cZ cJ sd_a w_a v_a (wr_a 0) (rd_a 0) (cu_a 0) (sp_a 0) sd ++ wSy cI cZ cJ cu_a cu ++ wSy cI cZ cJ sp_a sp ++ wBr cI cZ cJ w_a w_b w ++ wBr cI cZ cJ v_a v_b v ++ wWr cI cZ cJ wr_a (cb_a 0) wr ++ wRd cI cZ cJ rd_a (cb_a 0) rd ++ wCb cI cZ cJ cb_a w_a v_a cb ++ wMo cI cZ cJ mo_a mo ++ wOu cI cZ cJ ou_a ou) := pm_1 _ _ _ _ _ _ _ _ _ _
    have hP : va_P (dC, dI) vwCl (wSd cI cZ cJ sd_a w_a v_a (wr_a 0) (rd_a 0) (cu_a 0) (sp_a 0) sd ++ wSy cI cZ cJ cu_a cu ++ wSy cI cZ cJ sp_a sp ++ wBr cI cZ cJ w_a w_b w ++ wBr cI cZ cJ v_a v_b v ++ wWr cI cZ cJ wr_a (cb_a 0) wr ++ wRd cI cZ cJ rd_a (cb_a 0) rd ++ wCb cI cZ cJ cb_a w_a v_a cb ++ wMo cI cZ cJ mo_a mo ++ wOu cI cZ cJ ou_a ou) H := pw_P hP (fun q hq => pm9.mem_iff.mpr hq)
    have hD : va_D A (wSd cI cZ cJ sd_a w_a v_a (wr_a 0) (rd_a 0) (cu_a 0) (sp_a 0) sd ++ wSy cI cZ cJ cu_a cu ++ wSy cI cZ cJ sp_a sp ++ wBr cI cZ cJ w_a w_b w ++ wBr cI cZ cJ v_a v_b v ++ wWr cI cZ cJ wr_a (cb_a 0) wr ++ wRd cI cZ cJ rd_a (cb_a 0) rd ++ wCb cI cZ cJ cb_a w_a v_a cb ++ wMo cI cZ cJ mo_a mo ++ wOu cI cZ cJ ou_a ou) := pw_Dp hD pm9
    refine lv_istore (lv' := [(5, .int 1), (0, .ref b), (1, .ref (sd_a 0)), (2, .ref (mo_a 0)), (3, .ref (ou_a 0)), (4, .int i)]) hx hb d_law_994 hl (by decide) rfl (fun ls hl => ?_)
    refine lv_aload_n hx hb d_law_996 rfl (lv_at hl 3 rfl) ?_
    refine lv_aload_n hx hb d_law_997 rfl (lv_at hl 1 rfl) ?_
    refine lv_iload hx hb d_law_998 (lv_at hl 5 rfl) ?_
    refine lv_iconst (v := 1) hx hb d_law_1000 (by decide) ?_
    refine lv_iadd hx hb d_law_1001 ?_
    refine va_sld hx hb hX0 hbl hbA hS (hin 1 (by decide) (by decide)) d_law_1002 ?_
    have pm9 : ((wSd cI cZ cJ sd_a w_a v_a (wr_a 0) (rd_a 0) (cu_a 0) (sp_a 0) sd ++ wSy cI cZ cJ cu_a cu ++ wSy cI cZ cJ sp_a sp ++ wBr cI cZ cJ w_a w_b w ++ wBr cI cZ cJ v_a v_b v ++ wWr cI cZ cJ wr_a (cb_a 0) wr ++ wRd cI cZ cJ rd_a (cb_a 0) rd ++ wCb cI cZ cJ cb_a w_a v_a cb ++ wMo cI cZ cJ mo_a mo ++ wOu cI cZ cJ ou_a ou) : va_W).Perm ((wMo cI cZ cJ mo_a mo) ++ (wSd cI cZ cJ sd_a w_a v_a (wr_a 0) (rd_a 0) (cu_a 0) (sp_a 0) sd ++ wSy cI cZ cJ cu_a cu ++ wSy cI cZ cJ sp_a sp ++ wBr cI cZ cJ w_a w_b w ++ wBr cI cZ cJ v_a v_b v ++ wWr cI cZ cJ wr_a (cb_a 0) wr ++ wRd cI cZ cJ rd_a (cb_a 0) rd ++ wCb cI cZ cJ cb_a w_a v_a cb ++ wOu cI cZ cJ ou_a ou)) := pm_2 _ _ _ _ _ _ _ _ _ _
    have hPc := pw_P (ws' := (wMo cI cZ cJ mo_a mo)) hP (fun q hq => pm9.mem_iff.mpr (List.mem_append_left _ hq))
    have hDc := pw_D (wc := (wMo cI cZ cJ mo_a mo)) hD pm9
    have hFc := pw_free (wc := (wMo cI cZ cJ mo_a mo)) hD hS hA (fun q hq => pm9.mem_iff.mpr (List.mem_append_left _ hq))
    refine va_calli (va_runV (As := [.int (xs (i + 1).toNatClampNeg)]) (rest := []) ⟨hx, hb, hml, hown, hts⟩ (k_Model_classes l dC dI cI cZ cJ mo_a H.size hg) (cwV 1 hts (gV t_1095 t_1096 t_1097 t_63 t_1098) rfl rfl rfl hd_Model_classes ⟨Nat.le_trans (Nat.le_of_ble_eq_true rfl) hRf, Nat.le_trans (Nat.le_of_ble_eq_true rfl) hRl⟩) ⟨kP_blind, va_recv hK hPc (ci := 7) (q0 := 0) rfl rfl, kP_at hPc hK hDc hN⟩ rfl rfl hl.1 rfl (lv_room (Nat.le_of_ble_eq_true rfl)) d_law_1003 ⟨by omega, by omega⟩) hS (fun q _ h => hFc q h) hFc (fun r9 u t H1 locs ht hvm hw hB hz1 hk1 hS => ?_)
    rw [hw]
    obtain ⟨hP, hD⟩ := pw_join (wr := (wSd cI cZ cJ sd_a w_a v_a (wr_a 0) (rd_a 0) (cu_a 0) (sp_a 0) sd ++ wSy cI cZ cJ cu_a cu ++ wSy cI cZ cJ sp_a sp ++ wBr cI cZ cJ w_a w_b w ++ wBr cI cZ cJ v_a v_b v ++ wWr cI cZ cJ wr_a (cb_a 0) wr ++ wRd cI cZ cJ rd_a (cb_a 0) rd ++ wCb cI cZ cJ cb_a w_a v_a cb ++ wOu cI cZ cJ ou_a ou)) (w1 := (wMo cI cZ cJ mo_a mo')) hP hD pm9 ht hk1 hFc hB
    generalize H1 = H at hP hS ⊢
    have pm9 : ((wSd cI cZ cJ sd_a w_a v_a (wr_a 0) (rd_a 0) (cu_a 0) (sp_a 0) sd ++ wSy cI cZ cJ cu_a cu ++ wSy cI cZ cJ sp_a sp ++ wBr cI cZ cJ w_a w_b w ++ wBr cI cZ cJ v_a v_b v ++ wWr cI cZ cJ wr_a (cb_a 0) wr ++ wRd cI cZ cJ rd_a (cb_a 0) rd ++ wCb cI cZ cJ cb_a w_a v_a cb ++ wOu cI cZ cJ ou_a ou) ++ (wMo cI cZ cJ mo_a mo') : va_W).Perm (wSd cI cZ cJ sd_a w_a v_a (wr_a 0) (rd_a 0) (cu_a 0) (sp_a 0) sd ++ wSy cI cZ cJ cu_a cu ++ wSy cI cZ cJ sp_a sp ++ wBr cI cZ cJ w_a w_b w ++ wBr cI cZ cJ v_a v_b v ++ wWr cI cZ cJ wr_a (cb_a 0) wr ++ wRd cI cZ cJ rd_a (cb_a 0) rd ++ wCb cI cZ cJ cb_a w_a v_a cb ++ wMo cI cZ cJ mo_a mo' ++ wOu cI cZ cJ ou_a ou) := pm_3 _ _ _ _ _ _ _ _ _ _
    have hP : va_P (dC, dI) vwCl (wSd cI cZ cJ sd_a w_a v_a (wr_a 0) (rd_a 0) (cu_a 0) (sp_a 0) sd ++ wSy cI cZ cJ cu_a cu ++ wSy cI cZ cJ sp_a sp ++ wBr cI cZ cJ w_a w_b w ++ wBr cI cZ cJ v_a v_b v ++ wWr cI cZ cJ wr_a (cb_a 0) wr ++ wRd cI cZ cJ rd_a (cb_a 0) rd ++ wCb cI cZ cJ cb_a w_a v_a cb ++ wMo cI cZ cJ mo_a mo' ++ wOu cI cZ cJ ou_a ou) H := pw_P hP (fun q hq => pm9.mem_iff.mpr hq)
    have hD : va_D A (wSd cI cZ cJ sd_a w_a v_a (wr_a 0) (rd_a 0) (cu_a 0) (sp_a 0) sd ++ wSy cI cZ cJ cu_a cu ++ wSy cI cZ cJ sp_a sp ++ wBr cI cZ cJ w_a w_b w ++ wBr cI cZ cJ v_a v_b v ++ wWr cI cZ cJ wr_a (cb_a 0) wr ++ wRd cI cZ cJ rd_a (cb_a 0) rd ++ wCb cI cZ cJ cb_a w_a v_a cb ++ wMo cI cZ cJ mo_a mo' ++ wOu cI cZ cJ ou_a ou) := pw_Dp hD pm9
    refine lv_istore (lv' := [(6, .int q), (5, .int 1), (0, .ref b), (1, .ref (sd_a 0)), (2, .ref (mo_a 0)), (3, .ref (ou_a 0)), (4, .int i)]) hx hb d_law_1006 hl (by decide) rfl (fun ls hl => ?_)
    refine lv_aload_n hx hb d_law_1008 rfl (lv_at hl 4 rfl) ?_
    have hth : f_Model_thrown mo' = some (Mo_code mo') := rfl
    have pm9 : ((wSd cI cZ cJ sd_a w_a v_a (wr_a 0) (rd_a 0) (cu_a 0) (sp_a 0) sd ++ wSy cI cZ cJ cu_a cu ++ wSy cI cZ cJ sp_a sp ++ wBr cI cZ cJ w_a w_b w ++ wBr cI cZ cJ v_a v_b v ++ wWr cI cZ cJ wr_a (cb_a 0) wr ++ wRd cI cZ cJ rd_a (cb_a 0) rd ++ wCb cI cZ cJ cb_a w_a v_a cb ++ wMo cI cZ cJ mo_a mo' ++ wOu cI cZ cJ ou_a ou) : va_W).Perm ((wMo cI cZ cJ mo_a mo') ++ (wSd cI cZ cJ sd_a w_a v_a (wr_a 0) (rd_a 0) (cu_a 0) (sp_a 0) sd ++ wSy cI cZ cJ cu_a cu ++ wSy cI cZ cJ sp_a sp ++ wBr cI cZ cJ w_a w_b w ++ wBr cI cZ cJ v_a v_b v ++ wWr cI cZ cJ wr_a (cb_a 0) wr ++ wRd cI cZ cJ rd_a (cb_a 0) rd ++ wCb cI cZ cJ cb_a w_a v_a cb ++ wOu cI cZ cJ ou_a ou)) := pm_2 _ _ _ _ _ _ _ _ _ _
    have hPc := pw_P (ws' := (wMo cI cZ cJ mo_a mo')) hP (fun q hq => pm9.mem_iff.mpr (List.mem_append_left _ hq))
    have hDc := pw_D (wc := (wMo cI cZ cJ mo_a mo')) hD pm9
    have hFc := pw_free (wc := (wMo cI cZ cJ mo_a mo')) hD hS hA (fun q hq => pm9.mem_iff.mpr (List.mem_append_left _ hq))
    refine va_calli (va_runV (As := []) (rest := []) ⟨hx, hb, hml, hown, hts⟩ (k_Model_thrown l dC dI cI cZ cJ mo_a H.size hth) (cwV 0 hts (gV t_906 t_907 t_908 t_63 t_909) rfl rfl rfl hd_Model_thrown ⟨Nat.le_trans (Nat.le_of_ble_eq_true rfl) hRf, Nat.le_trans (Nat.le_of_ble_eq_true rfl) hRl⟩) ⟨kP_blind, va_recv hK hPc (ci := 7) (q0 := 0) rfl rfl, kP_at hPc hK hDc hN⟩ rfl rfl hl.1 rfl (lv_room (Nat.le_of_ble_eq_true rfl)) d_law_1009 ⟨by omega, by omega⟩) hS (fun q _ h => hFc q h) hFc (fun r9 u t H1 locs ht hvm hw hB hz1 hk1 hS => ?_)
    rw [hw]
    obtain ⟨hP, hD⟩ := pw_join (wr := (wSd cI cZ cJ sd_a w_a v_a (wr_a 0) (rd_a 0) (cu_a 0) (sp_a 0) sd ++ wSy cI cZ cJ cu_a cu ++ wSy cI cZ cJ sp_a sp ++ wBr cI cZ cJ w_a w_b w ++ wBr cI cZ cJ v_a v_b v ++ wWr cI cZ cJ wr_a (cb_a 0) wr ++ wRd cI cZ cJ rd_a (cb_a 0) rd ++ wCb cI cZ cJ cb_a w_a v_a cb ++ wOu cI cZ cJ ou_a ou)) (w1 := (wMo cI cZ cJ mo_a mo')) hP hD pm9 ht hk1 hFc hB
    generalize H1 = H at hP hS ⊢
    have pm9 : ((wSd cI cZ cJ sd_a w_a v_a (wr_a 0) (rd_a 0) (cu_a 0) (sp_a 0) sd ++ wSy cI cZ cJ cu_a cu ++ wSy cI cZ cJ sp_a sp ++ wBr cI cZ cJ w_a w_b w ++ wBr cI cZ cJ v_a v_b v ++ wWr cI cZ cJ wr_a (cb_a 0) wr ++ wRd cI cZ cJ rd_a (cb_a 0) rd ++ wCb cI cZ cJ cb_a w_a v_a cb ++ wOu cI cZ cJ ou_a ou) ++ (wMo cI cZ cJ mo_a mo') : va_W).Perm (wSd cI cZ cJ sd_a w_a v_a (wr_a 0) (rd_a 0) (cu_a 0) (sp_a 0) sd ++ wSy cI cZ cJ cu_a cu ++ wSy cI cZ cJ sp_a sp ++ wBr cI cZ cJ w_a w_b w ++ wBr cI cZ cJ v_a v_b v ++ wWr cI cZ cJ wr_a (cb_a 0) wr ++ wRd cI cZ cJ rd_a (cb_a 0) rd ++ wCb cI cZ cJ cb_a w_a v_a cb ++ wMo cI cZ cJ mo_a mo' ++ wOu cI cZ cJ ou_a ou) := pm_3 _ _ _ _ _ _ _ _ _ _
    have hP : va_P (dC, dI) vwCl (wSd cI cZ cJ sd_a w_a v_a (wr_a 0) (rd_a 0) (cu_a 0) (sp_a 0) sd ++ wSy cI cZ cJ cu_a cu ++ wSy cI cZ cJ sp_a sp ++ wBr cI cZ cJ w_a w_b w ++ wBr cI cZ cJ v_a v_b v ++ wWr cI cZ cJ wr_a (cb_a 0) wr ++ wRd cI cZ cJ rd_a (cb_a 0) rd ++ wCb cI cZ cJ cb_a w_a v_a cb ++ wMo cI cZ cJ mo_a mo' ++ wOu cI cZ cJ ou_a ou) H := pw_P hP (fun q hq => pm9.mem_iff.mpr hq)
    have hD : va_D A (wSd cI cZ cJ sd_a w_a v_a (wr_a 0) (rd_a 0) (cu_a 0) (sp_a 0) sd ++ wSy cI cZ cJ cu_a cu ++ wSy cI cZ cJ sp_a sp ++ wBr cI cZ cJ w_a w_b w ++ wBr cI cZ cJ v_a v_b v ++ wWr cI cZ cJ wr_a (cb_a 0) wr ++ wRd cI cZ cJ rd_a (cb_a 0) rd ++ wCb cI cZ cJ cb_a w_a v_a cb ++ wMo cI cZ cJ mo_a mo' ++ wOu cI cZ cJ ou_a ou) := pw_Dp hD pm9
    refine lv_iload hx hb d_law_1012 (lv_at hl 1 rfl) ?_
    refine lv_icmp_eq (tgt := 1019) hx hb d_law_1014 (by decide) (fun _ => ?_) (fun h9 => absurd hcode h9)
    refine lv_iload hx hb d_law_1019 (lv_at hl 1 rfl) ?_
    refine lv_if_ne (tgt := 1036) hx hb d_law_1021 (by decide) (fun _ => ?_) (fun h9 => absurd h9 (by decide))
    refine lv_goto (tgt := 1131) hx hb d_law_1036 (by decide) ?_
    have hl := lv_sub (l' := [(0, .ref b), (1, .ref (sd_a 0)), (2, .ref (mo_a 0)), (3, .ref (ou_a 0)), (4, .int i)]) hl [2, 3, 4, 5, 6] rfl
    refine W.widen (k := j + 1 + Br_byL w + Br_byL v) (n := 6 * (j + 1) + 2 * Br_byL w + 2 * Br_byL v) (by omega) (by omega) ?_
    exact hk _ _ _ cu_a sp_a w_b v_b cu sp w v wr rd cb mo' ou hrel hP hD hS hl
set_option maxHeartbeats 8000000 in
set_option maxRecDepth 100000 in
theorem L_C_cls {p : Program} {l : Launch} {e : Env} {R : Room} {s : State} {m : MethodId} {args : Array Value} {below : List Frame} {meth : Method} {c : Code} {Q : State → Prop} {A : Nat → Prop} {dC : Nat → ClassId} {dI : Nat → Nat → Nat} {cI cZ cJ : ClassId} {sd_a cu_a sp_a : Nat → Nat} {w_a w_b v_a v_b : Nat} {wr_a rd_a cb_a mo_a ou_a : Nat → Nat} {sd : Sd} {cu sp : Sy} {w v : Br} {wr : Wr} {rd : Rd} {cb : Cb} {mo : Mo} {ou : Ou} {b L : Nat} {xs : Nat → Int32} {i : Int32} {j : Nat} {Rl : Sd → Sy → Sy → Br → Br → Wr → Rd → Cb → Mo → Prop} (hl9 : l.stackTraces = false) (C0 : lcx p c m s args R (dC, dI) (TYS cI cZ cJ) A b L xs i j) (hRb : ∀ sd cu sp w v wr rd cb mo, Rl sd cu sp w v wr rd cb mo → Br_byL w ≤ 40000 ∧ Br_byL v ≤ 40000) (hR0 : Rl sd cu sp w v wr rd cb mo) (hT0 : T_C_cls Rl sd cu sp w v wr rd cb mo (xs (i + 1).toNatClampNeg))
    (hk : ∀ (H : Heap) (locs : List Loc) (ls : Array Slot) (cu_a sp_a : Nat → Nat) (w_b v_b : Nat) (cu sp : Sy) (w v : Br) (wr : Wr) (rd : Rd) (cb : Cb) (mo : Mo) (ou : Ou), Rl sd cu sp w v wr rd cb mo → va_P (dC, dI) vwCl (wSd cI cZ cJ sd_a w_a v_a (wr_a 0) (rd_a 0) (cu_a 0) (sp_a 0) sd ++ wSy cI cZ cJ cu_a cu ++ wSy cI cZ cJ sp_a sp ++ wBr cI cZ cJ w_a w_b w ++ wBr cI cZ cJ v_a v_b v ++ wWr cI cZ cJ wr_a (cb_a 0) wr ++ wRd cI cZ cJ rd_a (cb_a 0) rd ++ wCb cI cZ cJ cb_a w_a v_a cb ++ wMo cI cZ cJ mo_a mo ++ wOu cI cZ cJ ou_a ou) H → va_D A (wSd cI cZ cJ sd_a w_a v_a (wr_a 0) (rd_a 0) (cu_a 0) (sp_a 0) sd ++ wSy cI cZ cJ cu_a cu ++ wSy cI cZ cJ sp_a sp ++ wBr cI cZ cJ w_a w_b w ++ wBr cI cZ cJ v_a v_b v ++ wWr cI cZ cJ wr_a (cb_a 0) wr ++ wRd cI cZ cJ rd_a (cb_a 0) rd ++ wCb cI cZ cJ cb_a w_a v_a cb ++ wMo cI cZ cJ mo_a mo ++ wOu cI cZ cJ ou_a ou) → va_S A s.heap H locs → lv_has ls 7 [(0, .ref b), (1, .ref (sd_a 0)), (2, .ref (mo_a 0)), (3, .ref (ou_a 0)), (4, .int i)] → W p l e R s m args below meth c H locs (j + 1 + Br_byL w + Br_byL v) (6 * (j + 1) + 2 * Br_byL w + 2 * Br_byL v) Q (F0 m 1131 ls []))
    {H : Heap} {locs : List Loc} {ls : Array Slot} (hP : va_P (dC, dI) vwCl (wSd cI cZ cJ sd_a w_a v_a (wr_a 0) (rd_a 0) (cu_a 0) (sp_a 0) sd ++ wSy cI cZ cJ cu_a cu ++ wSy cI cZ cJ sp_a sp ++ wBr cI cZ cJ w_a w_b w ++ wBr cI cZ cJ v_a v_b v ++ wWr cI cZ cJ wr_a (cb_a 0) wr ++ wRd cI cZ cJ rd_a (cb_a 0) rd ++ wCb cI cZ cJ cb_a w_a v_a cb ++ wMo cI cZ cJ mo_a mo ++ wOu cI cZ cJ ou_a ou) H) (hD : va_D A (wSd cI cZ cJ sd_a w_a v_a (wr_a 0) (rd_a 0) (cu_a 0) (sp_a 0) sd ++ wSy cI cZ cJ cu_a cu ++ wSy cI cZ cJ sp_a sp ++ wBr cI cZ cJ w_a w_b w ++ wBr cI cZ cJ v_a v_b v ++ wWr cI cZ cJ wr_a (cb_a 0) wr ++ wRd cI cZ cJ rd_a (cb_a 0) rd ++ wCb cI cZ cJ cb_a w_a v_a cb ++ wMo cI cZ cJ mo_a mo ++ wOu cI cZ cJ ou_a ou)) (hS : va_S A s.heap H locs) (hl : lv_has ls 7 [(0, .ref b), (1, .ref (sd_a 0)), (2, .ref (mo_a 0)), (3, .ref (ou_a 0)), (4, .int i)]) : W p l e R s m args below meth c H locs (j + Br_byL w + Br_byL v) (6 * j + 2 * Br_byL w + 2 * Br_byL v) Q (F0 m 1039 ls []) := by
  obtain ⟨hx, hb, hml, hown, hts, hK, hA, hA2, hRf, hRl, hN, hT, hX, hX0, hbl, hin, hj, hRc, hRs⟩ := C0
  have hbA : ¬ A b := fun h => absurd (hA2 b h) (Nat.not_le.mpr hbl)
  obtain ⟨hw0, hv0⟩ := hRb _ _ _ _ _ _ _ _ _ hR0
  unfold T_C_cls at hT0
  rcases hT0 with ⟨r, mo', hf, hg, hcode, hrel⟩ | ⟨hf, q, mo', hg, hcode, hrel⟩
  · obtain ⟨ou', heou⟩ : ∃ z : Ou, z = (vp_updL (Ou_f ou) 0 r.toInt64) := ⟨_, rfl⟩
    have hf1 : f_Law_cls sd cu ou (xs (i + 1).toNatClampNeg) = some (0, ou') := by
      rw [f_Law_cls, hf, bd_s, heou]
      rfl
    have hou : Ou_f ou' (0 : Int32).toNatClampNeg = r.toInt64 := by rw [heou]; exact updL_at _ _ _
    refine lv_aload_n hx hb d_law_1039 rfl (lv_at hl 1 rfl) ?_
    refine lv_aload_n hx hb d_law_1040 rfl (lv_at hl 0 rfl) ?_
    refine lv_iload hx hb d_law_1041 (lv_at hl 4 rfl) ?_
    refine lv_iconst (v := 1) hx hb d_law_1043 (by decide) ?_
    refine lv_iadd hx hb d_law_1044 ?_
    refine va_sld hx hb hX0 hbl hbA hS (hin 1 (by decide) (by decide)) d_law_1045 ?_
    refine lv_aload_n hx hb d_law_1046 rfl (lv_at hl 3 rfl) ?_
    have pm9 : ((wSd cI cZ cJ sd_a w_a v_a (wr_a 0) (rd_a 0) (cu_a 0) (sp_a 0) sd ++ wSy cI cZ cJ cu_a cu ++ wSy cI cZ cJ sp_a sp ++ wBr cI cZ cJ w_a w_b w ++ wBr cI cZ cJ v_a v_b v ++ wWr cI cZ cJ wr_a (cb_a 0) wr ++ wRd cI cZ cJ rd_a (cb_a 0) rd ++ wCb cI cZ cJ cb_a w_a v_a cb ++ wMo cI cZ cJ mo_a mo ++ wOu cI cZ cJ ou_a ou) : va_W).Perm ((wSd cI cZ cJ sd_a w_a v_a (wr_a 0) (rd_a 0) (cu_a 0) (sp_a 0) sd ++ wSy cI cZ cJ cu_a cu ++ wOu cI cZ cJ ou_a ou) ++ (wSy cI cZ cJ sp_a sp ++ wBr cI cZ cJ w_a w_b w ++ wBr cI cZ cJ v_a v_b v ++ wWr cI cZ cJ wr_a (cb_a 0) wr ++ wRd cI cZ cJ rd_a (cb_a 0) rd ++ wCb cI cZ cJ cb_a w_a v_a cb ++ wMo cI cZ cJ mo_a mo)) := pm_0 _ _ _ _ _ _ _ _ _ _
    have hPc := pw_P (ws' := (wSd cI cZ cJ sd_a w_a v_a (wr_a 0) (rd_a 0) (cu_a 0) (sp_a 0) sd ++ wSy cI cZ cJ cu_a cu ++ wOu cI cZ cJ ou_a ou)) hP (fun q hq => pm9.mem_iff.mpr (List.mem_append_left _ hq))
    have hDc := pw_D (wc := (wSd cI cZ cJ sd_a w_a v_a (wr_a 0) (rd_a 0) (cu_a 0) (sp_a 0) sd ++ wSy cI cZ cJ cu_a cu ++ wOu cI cZ cJ ou_a ou)) hD pm9
    have hFc := pw_free (wc := (wSd cI cZ cJ sd_a w_a v_a (wr_a 0) (rd_a 0) (cu_a 0) (sp_a 0) sd ++ wSy cI cZ cJ cu_a cu ++ wOu cI cZ cJ ou_a ou)) hD hS hA (fun q hq => pm9.mem_iff.mpr (List.mem_append_left _ hq))
    refine va_calli (w_runS (As := [.ref (sd_a 0), .int (xs (i + 1).toNatClampNeg), .ref (ou_a 0)]) (rest := []) ⟨hx, hb, hml, hown, hts⟩ (k_Law_cls l dC dI cI cZ cJ sd_a cu_a ou_a w_a v_a (wr_a 0) (rd_a 0) (sp_a 0) H.size hf1) (cwH_of 3 hts t_813 rfl rfl t_53 t_811 t_812 hd_Law_cls.2 ⟨Nat.le_trans (Nat.le_of_ble_eq_true rfl) hRf, Nat.le_trans (Nat.le_of_ble_eq_true rfl) hRl⟩) ⟨kP_blind, kP_at hPc hK hDc hN⟩ rfl rfl hl.1 rfl (lv_room (Nat.le_of_ble_eq_true rfl)) d_law_1047 ⟨by omega, by omega⟩) hS (fun q _ h => hFc q h) hFc (fun r9 u t H1 locs ht hvm hw hB hz1 hk1 hS => ?_)
    rw [hw]
    obtain ⟨hP, hD⟩ := pw_join (wr := (wSy cI cZ cJ sp_a sp ++ wBr cI cZ cJ w_a w_b w ++ wBr cI cZ cJ v_a v_b v ++ wWr cI cZ cJ wr_a (cb_a 0) wr ++ wRd cI cZ cJ rd_a (cb_a 0) rd ++ wCb cI cZ cJ cb_a w_a v_a cb ++ wMo cI cZ cJ mo_a mo)) (w1 := (wSd cI cZ cJ sd_a w_a v_a (wr_a 0) (rd_a 0) (cu_a 0) (sp_a 0) sd ++ wSy cI cZ cJ cu_a cu ++ wOu cI cZ cJ ou_a ou')) hP hD pm9 ht hk1 hFc hB
    generalize H1 = H at hP hS ⊢
    have pm9 : ((wSy cI cZ cJ sp_a sp ++ wBr cI cZ cJ w_a w_b w ++ wBr cI cZ cJ v_a v_b v ++ wWr cI cZ cJ wr_a (cb_a 0) wr ++ wRd cI cZ cJ rd_a (cb_a 0) rd ++ wCb cI cZ cJ cb_a w_a v_a cb ++ wMo cI cZ cJ mo_a mo) ++ (wSd cI cZ cJ sd_a w_a v_a (wr_a 0) (rd_a 0) (cu_a 0) (sp_a 0) sd ++ wSy cI cZ cJ cu_a cu ++ wOu cI cZ cJ ou_a ou') : va_W).Perm (wSd cI cZ cJ sd_a w_a v_a (wr_a 0) (rd_a 0) (cu_a 0) (sp_a 0) sd ++ wSy cI cZ cJ cu_a cu ++ wSy cI cZ cJ sp_a sp ++ wBr cI cZ cJ w_a w_b w ++ wBr cI cZ cJ v_a v_b v ++ wWr cI cZ cJ wr_a (cb_a 0) wr ++ wRd cI cZ cJ rd_a (cb_a 0) rd ++ wCb cI cZ cJ cb_a w_a v_a cb ++ wMo cI cZ cJ mo_a mo ++ wOu cI cZ cJ ou_a ou') := pm_1 _ _ _ _ _ _ _ _ _ _
    have hP : va_P (dC, dI) vwCl (wSd cI cZ cJ sd_a w_a v_a (wr_a 0) (rd_a 0) (cu_a 0) (sp_a 0) sd ++ wSy cI cZ cJ cu_a cu ++ wSy cI cZ cJ sp_a sp ++ wBr cI cZ cJ w_a w_b w ++ wBr cI cZ cJ v_a v_b v ++ wWr cI cZ cJ wr_a (cb_a 0) wr ++ wRd cI cZ cJ rd_a (cb_a 0) rd ++ wCb cI cZ cJ cb_a w_a v_a cb ++ wMo cI cZ cJ mo_a mo ++ wOu cI cZ cJ ou_a ou') H := pw_P hP (fun q hq => pm9.mem_iff.mpr hq)
    have hD : va_D A (wSd cI cZ cJ sd_a w_a v_a (wr_a 0) (rd_a 0) (cu_a 0) (sp_a 0) sd ++ wSy cI cZ cJ cu_a cu ++ wSy cI cZ cJ sp_a sp ++ wBr cI cZ cJ w_a w_b w ++ wBr cI cZ cJ v_a v_b v ++ wWr cI cZ cJ wr_a (cb_a 0) wr ++ wRd cI cZ cJ rd_a (cb_a 0) rd ++ wCb cI cZ cJ cb_a w_a v_a cb ++ wMo cI cZ cJ mo_a mo ++ wOu cI cZ cJ ou_a ou') := pw_Dp hD pm9
    refine lv_istore (lv' := [(5, .int 0), (0, .ref b), (1, .ref (sd_a 0)), (2, .ref (mo_a 0)), (3, .ref (ou_a 0)), (4, .int i)]) hx hb d_law_1050 hl (by decide) rfl (fun ls hl => ?_)
    refine lv_aload_n hx hb d_law_1052 rfl (lv_at hl 3 rfl) ?_
    refine lv_aload_n hx hb d_law_1053 rfl (lv_at hl 1 rfl) ?_
    refine lv_iload hx hb d_law_1054 (lv_at hl 5 rfl) ?_
    refine lv_iconst (v := 1) hx hb d_law_1056 (by decide) ?_
    refine lv_iadd hx hb d_law_1057 ?_
    refine va_sld hx hb hX0 hbl hbA hS (hin 1 (by decide) (by decide)) d_law_1058 ?_
    have pm9 : ((wSd cI cZ cJ sd_a w_a v_a (wr_a 0) (rd_a 0) (cu_a 0) (sp_a 0) sd ++ wSy cI cZ cJ cu_a cu ++ wSy cI cZ cJ sp_a sp ++ wBr cI cZ cJ w_a w_b w ++ wBr cI cZ cJ v_a v_b v ++ wWr cI cZ cJ wr_a (cb_a 0) wr ++ wRd cI cZ cJ rd_a (cb_a 0) rd ++ wCb cI cZ cJ cb_a w_a v_a cb ++ wMo cI cZ cJ mo_a mo ++ wOu cI cZ cJ ou_a ou') : va_W).Perm ((wMo cI cZ cJ mo_a mo) ++ (wSd cI cZ cJ sd_a w_a v_a (wr_a 0) (rd_a 0) (cu_a 0) (sp_a 0) sd ++ wSy cI cZ cJ cu_a cu ++ wSy cI cZ cJ sp_a sp ++ wBr cI cZ cJ w_a w_b w ++ wBr cI cZ cJ v_a v_b v ++ wWr cI cZ cJ wr_a (cb_a 0) wr ++ wRd cI cZ cJ rd_a (cb_a 0) rd ++ wCb cI cZ cJ cb_a w_a v_a cb ++ wOu cI cZ cJ ou_a ou')) := pm_2 _ _ _ _ _ _ _ _ _ _
    have hPc := pw_P (ws' := (wMo cI cZ cJ mo_a mo)) hP (fun q hq => pm9.mem_iff.mpr (List.mem_append_left _ hq))
    have hDc := pw_D (wc := (wMo cI cZ cJ mo_a mo)) hD pm9
    have hFc := pw_free (wc := (wMo cI cZ cJ mo_a mo)) hD hS hA (fun q hq => pm9.mem_iff.mpr (List.mem_append_left _ hq))
    refine va_calli (va_runV (As := [.int (xs (i + 1).toNatClampNeg)]) (rest := []) ⟨hx, hb, hml, hown, hts⟩ (k_Model_cls l dC dI cI cZ cJ mo_a H.size hg) (cwV 1 hts (gV t_1099 t_1100 t_1101 t_63 t_1102) rfl rfl rfl hd_Model_cls ⟨Nat.le_trans (Nat.le_of_ble_eq_true rfl) hRf, Nat.le_trans (Nat.le_of_ble_eq_true rfl) hRl⟩) ⟨kP_blind, va_recv hK hPc (ci := 7) (q0 := 0) rfl rfl, kP_at hPc hK hDc hN⟩ rfl rfl hl.1 rfl (lv_room (Nat.le_of_ble_eq_true rfl)) d_law_1059 ⟨by omega, by omega⟩) hS (fun q _ h => hFc q h) hFc (fun r9 u t H1 locs ht hvm hw hB hz1 hk1 hS => ?_)
    rw [hw]
    obtain ⟨hP, hD⟩ := pw_join (wr := (wSd cI cZ cJ sd_a w_a v_a (wr_a 0) (rd_a 0) (cu_a 0) (sp_a 0) sd ++ wSy cI cZ cJ cu_a cu ++ wSy cI cZ cJ sp_a sp ++ wBr cI cZ cJ w_a w_b w ++ wBr cI cZ cJ v_a v_b v ++ wWr cI cZ cJ wr_a (cb_a 0) wr ++ wRd cI cZ cJ rd_a (cb_a 0) rd ++ wCb cI cZ cJ cb_a w_a v_a cb ++ wOu cI cZ cJ ou_a ou')) (w1 := (wMo cI cZ cJ mo_a mo')) hP hD pm9 ht hk1 hFc hB
    generalize H1 = H at hP hS ⊢
    have pm9 : ((wSd cI cZ cJ sd_a w_a v_a (wr_a 0) (rd_a 0) (cu_a 0) (sp_a 0) sd ++ wSy cI cZ cJ cu_a cu ++ wSy cI cZ cJ sp_a sp ++ wBr cI cZ cJ w_a w_b w ++ wBr cI cZ cJ v_a v_b v ++ wWr cI cZ cJ wr_a (cb_a 0) wr ++ wRd cI cZ cJ rd_a (cb_a 0) rd ++ wCb cI cZ cJ cb_a w_a v_a cb ++ wOu cI cZ cJ ou_a ou') ++ (wMo cI cZ cJ mo_a mo') : va_W).Perm (wSd cI cZ cJ sd_a w_a v_a (wr_a 0) (rd_a 0) (cu_a 0) (sp_a 0) sd ++ wSy cI cZ cJ cu_a cu ++ wSy cI cZ cJ sp_a sp ++ wBr cI cZ cJ w_a w_b w ++ wBr cI cZ cJ v_a v_b v ++ wWr cI cZ cJ wr_a (cb_a 0) wr ++ wRd cI cZ cJ rd_a (cb_a 0) rd ++ wCb cI cZ cJ cb_a w_a v_a cb ++ wMo cI cZ cJ mo_a mo' ++ wOu cI cZ cJ ou_a ou') := pm_3 _ _ _ _ _ _ _ _ _ _
    have hP : va_P (dC, dI) vwCl (wSd cI cZ cJ sd_a w_a v_a (wr_a 0) (rd_a 0) (cu_a 0) (sp_a 0) sd ++ wSy cI cZ cJ cu_a cu ++ wSy cI cZ cJ sp_a sp ++ wBr cI cZ cJ w_a w_b w ++ wBr cI cZ cJ v_a v_b v ++ wWr cI cZ cJ wr_a (cb_a 0) wr ++ wRd cI cZ cJ rd_a (cb_a 0) rd ++ wCb cI cZ cJ cb_a w_a v_a cb ++ wMo cI cZ cJ mo_a mo' ++ wOu cI cZ cJ ou_a ou') H := pw_P hP (fun q hq => pm9.mem_iff.mpr hq)
    have hD : va_D A (wSd cI cZ cJ sd_a w_a v_a (wr_a 0) (rd_a 0) (cu_a 0) (sp_a 0) sd ++ wSy cI cZ cJ cu_a cu ++ wSy cI cZ cJ sp_a sp ++ wBr cI cZ cJ w_a w_b w ++ wBr cI cZ cJ v_a v_b v ++ wWr cI cZ cJ wr_a (cb_a 0) wr ++ wRd cI cZ cJ rd_a (cb_a 0) rd ++ wCb cI cZ cJ cb_a w_a v_a cb ++ wMo cI cZ cJ mo_a mo' ++ wOu cI cZ cJ ou_a ou') := pw_Dp hD pm9
    refine lv_istore (lv' := [(6, .int r), (5, .int 0), (0, .ref b), (1, .ref (sd_a 0)), (2, .ref (mo_a 0)), (3, .ref (ou_a 0)), (4, .int i)]) hx hb d_law_1062 hl (by decide) rfl (fun ls hl => ?_)
    refine lv_aload_n hx hb d_law_1064 rfl (lv_at hl 4 rfl) ?_
    have hth : f_Model_thrown mo' = some (Mo_code mo') := rfl
    have pm9 : ((wSd cI cZ cJ sd_a w_a v_a (wr_a 0) (rd_a 0) (cu_a 0) (sp_a 0) sd ++ wSy cI cZ cJ cu_a cu ++ wSy cI cZ cJ sp_a sp ++ wBr cI cZ cJ w_a w_b w ++ wBr cI cZ cJ v_a v_b v ++ wWr cI cZ cJ wr_a (cb_a 0) wr ++ wRd cI cZ cJ rd_a (cb_a 0) rd ++ wCb cI cZ cJ cb_a w_a v_a cb ++ wMo cI cZ cJ mo_a mo' ++ wOu cI cZ cJ ou_a ou') : va_W).Perm ((wMo cI cZ cJ mo_a mo') ++ (wSd cI cZ cJ sd_a w_a v_a (wr_a 0) (rd_a 0) (cu_a 0) (sp_a 0) sd ++ wSy cI cZ cJ cu_a cu ++ wSy cI cZ cJ sp_a sp ++ wBr cI cZ cJ w_a w_b w ++ wBr cI cZ cJ v_a v_b v ++ wWr cI cZ cJ wr_a (cb_a 0) wr ++ wRd cI cZ cJ rd_a (cb_a 0) rd ++ wCb cI cZ cJ cb_a w_a v_a cb ++ wOu cI cZ cJ ou_a ou')) := pm_2 _ _ _ _ _ _ _ _ _ _
    have hPc := pw_P (ws' := (wMo cI cZ cJ mo_a mo')) hP (fun q hq => pm9.mem_iff.mpr (List.mem_append_left _ hq))
    have hDc := pw_D (wc := (wMo cI cZ cJ mo_a mo')) hD pm9
    have hFc := pw_free (wc := (wMo cI cZ cJ mo_a mo')) hD hS hA (fun q hq => pm9.mem_iff.mpr (List.mem_append_left _ hq))
    refine va_calli (va_runV (As := []) (rest := []) ⟨hx, hb, hml, hown, hts⟩ (k_Model_thrown l dC dI cI cZ cJ mo_a H.size hth) (cwV 0 hts (gV t_906 t_907 t_908 t_63 t_909) rfl rfl rfl hd_Model_thrown ⟨Nat.le_trans (Nat.le_of_ble_eq_true rfl) hRf, Nat.le_trans (Nat.le_of_ble_eq_true rfl) hRl⟩) ⟨kP_blind, va_recv hK hPc (ci := 7) (q0 := 0) rfl rfl, kP_at hPc hK hDc hN⟩ rfl rfl hl.1 rfl (lv_room (Nat.le_of_ble_eq_true rfl)) d_law_1065 ⟨by omega, by omega⟩) hS (fun q _ h => hFc q h) hFc (fun r9 u t H1 locs ht hvm hw hB hz1 hk1 hS => ?_)
    rw [hw]
    obtain ⟨hP, hD⟩ := pw_join (wr := (wSd cI cZ cJ sd_a w_a v_a (wr_a 0) (rd_a 0) (cu_a 0) (sp_a 0) sd ++ wSy cI cZ cJ cu_a cu ++ wSy cI cZ cJ sp_a sp ++ wBr cI cZ cJ w_a w_b w ++ wBr cI cZ cJ v_a v_b v ++ wWr cI cZ cJ wr_a (cb_a 0) wr ++ wRd cI cZ cJ rd_a (cb_a 0) rd ++ wCb cI cZ cJ cb_a w_a v_a cb ++ wOu cI cZ cJ ou_a ou')) (w1 := (wMo cI cZ cJ mo_a mo')) hP hD pm9 ht hk1 hFc hB
    generalize H1 = H at hP hS ⊢
    have pm9 : ((wSd cI cZ cJ sd_a w_a v_a (wr_a 0) (rd_a 0) (cu_a 0) (sp_a 0) sd ++ wSy cI cZ cJ cu_a cu ++ wSy cI cZ cJ sp_a sp ++ wBr cI cZ cJ w_a w_b w ++ wBr cI cZ cJ v_a v_b v ++ wWr cI cZ cJ wr_a (cb_a 0) wr ++ wRd cI cZ cJ rd_a (cb_a 0) rd ++ wCb cI cZ cJ cb_a w_a v_a cb ++ wOu cI cZ cJ ou_a ou') ++ (wMo cI cZ cJ mo_a mo') : va_W).Perm (wSd cI cZ cJ sd_a w_a v_a (wr_a 0) (rd_a 0) (cu_a 0) (sp_a 0) sd ++ wSy cI cZ cJ cu_a cu ++ wSy cI cZ cJ sp_a sp ++ wBr cI cZ cJ w_a w_b w ++ wBr cI cZ cJ v_a v_b v ++ wWr cI cZ cJ wr_a (cb_a 0) wr ++ wRd cI cZ cJ rd_a (cb_a 0) rd ++ wCb cI cZ cJ cb_a w_a v_a cb ++ wMo cI cZ cJ mo_a mo' ++ wOu cI cZ cJ ou_a ou') := pm_3 _ _ _ _ _ _ _ _ _ _
    have hP : va_P (dC, dI) vwCl (wSd cI cZ cJ sd_a w_a v_a (wr_a 0) (rd_a 0) (cu_a 0) (sp_a 0) sd ++ wSy cI cZ cJ cu_a cu ++ wSy cI cZ cJ sp_a sp ++ wBr cI cZ cJ w_a w_b w ++ wBr cI cZ cJ v_a v_b v ++ wWr cI cZ cJ wr_a (cb_a 0) wr ++ wRd cI cZ cJ rd_a (cb_a 0) rd ++ wCb cI cZ cJ cb_a w_a v_a cb ++ wMo cI cZ cJ mo_a mo' ++ wOu cI cZ cJ ou_a ou') H := pw_P hP (fun q hq => pm9.mem_iff.mpr hq)
    have hD : va_D A (wSd cI cZ cJ sd_a w_a v_a (wr_a 0) (rd_a 0) (cu_a 0) (sp_a 0) sd ++ wSy cI cZ cJ cu_a cu ++ wSy cI cZ cJ sp_a sp ++ wBr cI cZ cJ w_a w_b w ++ wBr cI cZ cJ v_a v_b v ++ wWr cI cZ cJ wr_a (cb_a 0) wr ++ wRd cI cZ cJ rd_a (cb_a 0) rd ++ wCb cI cZ cJ cb_a w_a v_a cb ++ wMo cI cZ cJ mo_a mo' ++ wOu cI cZ cJ ou_a ou') := pw_Dp hD pm9
    refine lv_iload hx hb d_law_1068 (lv_at hl 1 rfl) ?_
    refine lv_icmp_eq (tgt := 1075) hx hb d_law_1070 (by decide) (fun _ => ?_) (fun h9 => absurd hcode h9)
    refine lv_iload hx hb d_law_1075 (lv_at hl 1 rfl) ?_
    refine lv_if_ne (tgt := 1092) hx hb d_law_1077 (by decide) (fun h9 => absurd rfl h9) (fun _ => ?_)
    refine lv_aload_n hx hb d_law_1080 rfl (lv_at hl 5 rfl) ?_
    refine lv_iconst (v := 0) hx hb d_law_1081 (by decide) ?_
    refine va_lald (f := Ou_f ou') hx hb hK hP 47 2 rfl rfl (inb_in (by decide)) d_law_1082 ?_
    refine lv_iload hx hb d_law_1083 (lv_at hl 0 rfl) ?_
    refine lv_i2l (v := r.toInt64) hx hb d_law_1085 rfl ?_
    refine W.lcmp hx hb d_law_1086 ?_
    refine lv_if_eq (tgt := 1092) hx hb d_law_1087 (by decide) (fun _ => ?_) (fun h9 => absurd (by rw [hou]; exact cmp_self _) h9)
    refine lv_goto (tgt := 1131) hx hb d_law_1092 (by decide) ?_
    have hl := lv_sub (l' := [(0, .ref b), (1, .ref (sd_a 0)), (2, .ref (mo_a 0)), (3, .ref (ou_a 0)), (4, .int i)]) hl [2, 3, 4, 5, 6] rfl
    refine W.widen (k := j + 1 + Br_byL w + Br_byL v) (n := 6 * (j + 1) + 2 * Br_byL w + 2 * Br_byL v) (by omega) (by omega) ?_
    exact hk _ _ _ cu_a sp_a w_b v_b cu sp w v wr rd cb mo' ou' hrel hP hD hS hl
  · refine lv_aload_n hx hb d_law_1039 rfl (lv_at hl 1 rfl) ?_
    refine lv_aload_n hx hb d_law_1040 rfl (lv_at hl 0 rfl) ?_
    refine lv_iload hx hb d_law_1041 (lv_at hl 4 rfl) ?_
    refine lv_iconst (v := 1) hx hb d_law_1043 (by decide) ?_
    refine lv_iadd hx hb d_law_1044 ?_
    refine va_sld hx hb hX0 hbl hbA hS (hin 1 (by decide) (by decide)) d_law_1045 ?_
    refine lv_aload_n hx hb d_law_1046 rfl (lv_at hl 3 rfl) ?_
    have pm9 : ((wSd cI cZ cJ sd_a w_a v_a (wr_a 0) (rd_a 0) (cu_a 0) (sp_a 0) sd ++ wSy cI cZ cJ cu_a cu ++ wSy cI cZ cJ sp_a sp ++ wBr cI cZ cJ w_a w_b w ++ wBr cI cZ cJ v_a v_b v ++ wWr cI cZ cJ wr_a (cb_a 0) wr ++ wRd cI cZ cJ rd_a (cb_a 0) rd ++ wCb cI cZ cJ cb_a w_a v_a cb ++ wMo cI cZ cJ mo_a mo ++ wOu cI cZ cJ ou_a ou) : va_W).Perm ((wSd cI cZ cJ sd_a w_a v_a (wr_a 0) (rd_a 0) (cu_a 0) (sp_a 0) sd ++ wSy cI cZ cJ cu_a cu ++ wOu cI cZ cJ ou_a ou) ++ (wSy cI cZ cJ sp_a sp ++ wBr cI cZ cJ w_a w_b w ++ wBr cI cZ cJ v_a v_b v ++ wWr cI cZ cJ wr_a (cb_a 0) wr ++ wRd cI cZ cJ rd_a (cb_a 0) rd ++ wCb cI cZ cJ cb_a w_a v_a cb ++ wMo cI cZ cJ mo_a mo)) := pm_0 _ _ _ _ _ _ _ _ _ _
    have hPc := pw_P (ws' := (wSd cI cZ cJ sd_a w_a v_a (wr_a 0) (rd_a 0) (cu_a 0) (sp_a 0) sd ++ wSy cI cZ cJ cu_a cu ++ wOu cI cZ cJ ou_a ou)) hP (fun q hq => pm9.mem_iff.mpr (List.mem_append_left _ hq))
    have hDc := pw_D (wc := (wSd cI cZ cJ sd_a w_a v_a (wr_a 0) (rd_a 0) (cu_a 0) (sp_a 0) sd ++ wSy cI cZ cJ cu_a cu ++ wOu cI cZ cJ ou_a ou)) hD pm9
    have hFc := pw_free (wc := (wSd cI cZ cJ sd_a w_a v_a (wr_a 0) (rd_a 0) (cu_a 0) (sp_a 0) sd ++ wSy cI cZ cJ cu_a cu ++ wOu cI cZ cJ ou_a ou)) hD hS hA (fun q hq => pm9.mem_iff.mpr (List.mem_append_left _ hq))
    refine va_calli (w_runS (As := [.ref (sd_a 0), .int (xs (i + 1).toNatClampNeg), .ref (ou_a 0)]) (rest := []) ⟨hx, hb, hml, hown, hts⟩ (kx_Law_cls_3 l hl9 dC dI cI cZ cJ sd_a cu_a ou_a w_a v_a (wr_a 0) (rd_a 0) (sp_a 0) H.size hf) (cwH_of 3 hts t_813 rfl rfl t_53 t_811 t_812 hd_Law_cls.2 ⟨Nat.le_trans (Nat.le_of_ble_eq_true rfl) hRf, Nat.le_trans (Nat.le_of_ble_eq_true rfl) hRl⟩) ⟨kPX_blind, kPX_at hPc hK hDc hN (fun q hq => hS.2.1 q hq (fun h9 => absurd (hA2 q h9) (Nat.not_le.mpr hq))) hT hX⟩ rfl rfl hl.1 rfl (lv_room (Nat.le_of_ble_eq_true rfl)) d_law_1047 ⟨by omega, by omega⟩) hS (fun q _ h => hFc q h) hFc (fun r9 u t H1 locs ht hvm hw hB hz1 hk1 hS => ?_)
    rw [hw]
    obtain ⟨hP, hD⟩ := pw_join (wr := (wSy cI cZ cJ sp_a sp ++ wBr cI cZ cJ w_a w_b w ++ wBr cI cZ cJ v_a v_b v ++ wWr cI cZ cJ wr_a (cb_a 0) wr ++ wRd cI cZ cJ rd_a (cb_a 0) rd ++ wCb cI cZ cJ cb_a w_a v_a cb ++ wMo cI cZ cJ mo_a mo)) (w1 := (wSd cI cZ cJ sd_a w_a v_a (wr_a 0) (rd_a 0) (cu_a 0) (sp_a 0) sd ++ wSy cI cZ cJ cu_a cu ++ wOu cI cZ cJ ou_a ou)) hP hD pm9 ht hk1 hFc hB
    generalize H1 = H at hP hS ⊢
    have pm9 : ((wSy cI cZ cJ sp_a sp ++ wBr cI cZ cJ w_a w_b w ++ wBr cI cZ cJ v_a v_b v ++ wWr cI cZ cJ wr_a (cb_a 0) wr ++ wRd cI cZ cJ rd_a (cb_a 0) rd ++ wCb cI cZ cJ cb_a w_a v_a cb ++ wMo cI cZ cJ mo_a mo) ++ (wSd cI cZ cJ sd_a w_a v_a (wr_a 0) (rd_a 0) (cu_a 0) (sp_a 0) sd ++ wSy cI cZ cJ cu_a cu ++ wOu cI cZ cJ ou_a ou) : va_W).Perm (wSd cI cZ cJ sd_a w_a v_a (wr_a 0) (rd_a 0) (cu_a 0) (sp_a 0) sd ++ wSy cI cZ cJ cu_a cu ++ wSy cI cZ cJ sp_a sp ++ wBr cI cZ cJ w_a w_b w ++ wBr cI cZ cJ v_a v_b v ++ wWr cI cZ cJ wr_a (cb_a 0) wr ++ wRd cI cZ cJ rd_a (cb_a 0) rd ++ wCb cI cZ cJ cb_a w_a v_a cb ++ wMo cI cZ cJ mo_a mo ++ wOu cI cZ cJ ou_a ou) := pm_1 _ _ _ _ _ _ _ _ _ _
    have hP : va_P (dC, dI) vwCl (wSd cI cZ cJ sd_a w_a v_a (wr_a 0) (rd_a 0) (cu_a 0) (sp_a 0) sd ++ wSy cI cZ cJ cu_a cu ++ wSy cI cZ cJ sp_a sp ++ wBr cI cZ cJ w_a w_b w ++ wBr cI cZ cJ v_a v_b v ++ wWr cI cZ cJ wr_a (cb_a 0) wr ++ wRd cI cZ cJ rd_a (cb_a 0) rd ++ wCb cI cZ cJ cb_a w_a v_a cb ++ wMo cI cZ cJ mo_a mo ++ wOu cI cZ cJ ou_a ou) H := pw_P hP (fun q hq => pm9.mem_iff.mpr hq)
    have hD : va_D A (wSd cI cZ cJ sd_a w_a v_a (wr_a 0) (rd_a 0) (cu_a 0) (sp_a 0) sd ++ wSy cI cZ cJ cu_a cu ++ wSy cI cZ cJ sp_a sp ++ wBr cI cZ cJ w_a w_b w ++ wBr cI cZ cJ v_a v_b v ++ wWr cI cZ cJ wr_a (cb_a 0) wr ++ wRd cI cZ cJ rd_a (cb_a 0) rd ++ wCb cI cZ cJ cb_a w_a v_a cb ++ wMo cI cZ cJ mo_a mo ++ wOu cI cZ cJ ou_a ou) := pw_Dp hD pm9
    refine lv_istore (lv' := [(5, .int 1), (0, .ref b), (1, .ref (sd_a 0)), (2, .ref (mo_a 0)), (3, .ref (ou_a 0)), (4, .int i)]) hx hb d_law_1050 hl (by decide) rfl (fun ls hl => ?_)
    refine lv_aload_n hx hb d_law_1052 rfl (lv_at hl 3 rfl) ?_
    refine lv_aload_n hx hb d_law_1053 rfl (lv_at hl 1 rfl) ?_
    refine lv_iload hx hb d_law_1054 (lv_at hl 5 rfl) ?_
    refine lv_iconst (v := 1) hx hb d_law_1056 (by decide) ?_
    refine lv_iadd hx hb d_law_1057 ?_
    refine va_sld hx hb hX0 hbl hbA hS (hin 1 (by decide) (by decide)) d_law_1058 ?_
    have pm9 : ((wSd cI cZ cJ sd_a w_a v_a (wr_a 0) (rd_a 0) (cu_a 0) (sp_a 0) sd ++ wSy cI cZ cJ cu_a cu ++ wSy cI cZ cJ sp_a sp ++ wBr cI cZ cJ w_a w_b w ++ wBr cI cZ cJ v_a v_b v ++ wWr cI cZ cJ wr_a (cb_a 0) wr ++ wRd cI cZ cJ rd_a (cb_a 0) rd ++ wCb cI cZ cJ cb_a w_a v_a cb ++ wMo cI cZ cJ mo_a mo ++ wOu cI cZ cJ ou_a ou) : va_W).Perm ((wMo cI cZ cJ mo_a mo) ++ (wSd cI cZ cJ sd_a w_a v_a (wr_a 0) (rd_a 0) (cu_a 0) (sp_a 0) sd ++ wSy cI cZ cJ cu_a cu ++ wSy cI cZ cJ sp_a sp ++ wBr cI cZ cJ w_a w_b w ++ wBr cI cZ cJ v_a v_b v ++ wWr cI cZ cJ wr_a (cb_a 0) wr ++ wRd cI cZ cJ rd_a (cb_a 0) rd ++ wCb cI cZ cJ cb_a w_a v_a cb ++ wOu cI cZ cJ ou_a ou)) := pm_2 _ _ _ _ _ _ _ _ _ _
    have hPc := pw_P (ws' := (wMo cI cZ cJ mo_a mo)) hP (fun q hq => pm9.mem_iff.mpr (List.mem_append_left _ hq))
    have hDc := pw_D (wc := (wMo cI cZ cJ mo_a mo)) hD pm9
    have hFc := pw_free (wc := (wMo cI cZ cJ mo_a mo)) hD hS hA (fun q hq => pm9.mem_iff.mpr (List.mem_append_left _ hq))
    refine va_calli (va_runV (As := [.int (xs (i + 1).toNatClampNeg)]) (rest := []) ⟨hx, hb, hml, hown, hts⟩ (k_Model_cls l dC dI cI cZ cJ mo_a H.size hg) (cwV 1 hts (gV t_1099 t_1100 t_1101 t_63 t_1102) rfl rfl rfl hd_Model_cls ⟨Nat.le_trans (Nat.le_of_ble_eq_true rfl) hRf, Nat.le_trans (Nat.le_of_ble_eq_true rfl) hRl⟩) ⟨kP_blind, va_recv hK hPc (ci := 7) (q0 := 0) rfl rfl, kP_at hPc hK hDc hN⟩ rfl rfl hl.1 rfl (lv_room (Nat.le_of_ble_eq_true rfl)) d_law_1059 ⟨by omega, by omega⟩) hS (fun q _ h => hFc q h) hFc (fun r9 u t H1 locs ht hvm hw hB hz1 hk1 hS => ?_)
    rw [hw]
    obtain ⟨hP, hD⟩ := pw_join (wr := (wSd cI cZ cJ sd_a w_a v_a (wr_a 0) (rd_a 0) (cu_a 0) (sp_a 0) sd ++ wSy cI cZ cJ cu_a cu ++ wSy cI cZ cJ sp_a sp ++ wBr cI cZ cJ w_a w_b w ++ wBr cI cZ cJ v_a v_b v ++ wWr cI cZ cJ wr_a (cb_a 0) wr ++ wRd cI cZ cJ rd_a (cb_a 0) rd ++ wCb cI cZ cJ cb_a w_a v_a cb ++ wOu cI cZ cJ ou_a ou)) (w1 := (wMo cI cZ cJ mo_a mo')) hP hD pm9 ht hk1 hFc hB
    generalize H1 = H at hP hS ⊢
    have pm9 : ((wSd cI cZ cJ sd_a w_a v_a (wr_a 0) (rd_a 0) (cu_a 0) (sp_a 0) sd ++ wSy cI cZ cJ cu_a cu ++ wSy cI cZ cJ sp_a sp ++ wBr cI cZ cJ w_a w_b w ++ wBr cI cZ cJ v_a v_b v ++ wWr cI cZ cJ wr_a (cb_a 0) wr ++ wRd cI cZ cJ rd_a (cb_a 0) rd ++ wCb cI cZ cJ cb_a w_a v_a cb ++ wOu cI cZ cJ ou_a ou) ++ (wMo cI cZ cJ mo_a mo') : va_W).Perm (wSd cI cZ cJ sd_a w_a v_a (wr_a 0) (rd_a 0) (cu_a 0) (sp_a 0) sd ++ wSy cI cZ cJ cu_a cu ++ wSy cI cZ cJ sp_a sp ++ wBr cI cZ cJ w_a w_b w ++ wBr cI cZ cJ v_a v_b v ++ wWr cI cZ cJ wr_a (cb_a 0) wr ++ wRd cI cZ cJ rd_a (cb_a 0) rd ++ wCb cI cZ cJ cb_a w_a v_a cb ++ wMo cI cZ cJ mo_a mo' ++ wOu cI cZ cJ ou_a ou) := pm_3 _ _ _ _ _ _ _ _ _ _
    have hP : va_P (dC, dI) vwCl (wSd cI cZ cJ sd_a w_a v_a (wr_a 0) (rd_a 0) (cu_a 0) (sp_a 0) sd ++ wSy cI cZ cJ cu_a cu ++ wSy cI cZ cJ sp_a sp ++ wBr cI cZ cJ w_a w_b w ++ wBr cI cZ cJ v_a v_b v ++ wWr cI cZ cJ wr_a (cb_a 0) wr ++ wRd cI cZ cJ rd_a (cb_a 0) rd ++ wCb cI cZ cJ cb_a w_a v_a cb ++ wMo cI cZ cJ mo_a mo' ++ wOu cI cZ cJ ou_a ou) H := pw_P hP (fun q hq => pm9.mem_iff.mpr hq)
    have hD : va_D A (wSd cI cZ cJ sd_a w_a v_a (wr_a 0) (rd_a 0) (cu_a 0) (sp_a 0) sd ++ wSy cI cZ cJ cu_a cu ++ wSy cI cZ cJ sp_a sp ++ wBr cI cZ cJ w_a w_b w ++ wBr cI cZ cJ v_a v_b v ++ wWr cI cZ cJ wr_a (cb_a 0) wr ++ wRd cI cZ cJ rd_a (cb_a 0) rd ++ wCb cI cZ cJ cb_a w_a v_a cb ++ wMo cI cZ cJ mo_a mo' ++ wOu cI cZ cJ ou_a ou) := pw_Dp hD pm9
    refine lv_istore (lv' := [(6, .int q), (5, .int 1), (0, .ref b), (1, .ref (sd_a 0)), (2, .ref (mo_a 0)), (3, .ref (ou_a 0)), (4, .int i)]) hx hb d_law_1062 hl (by decide) rfl (fun ls hl => ?_)
    refine lv_aload_n hx hb d_law_1064 rfl (lv_at hl 4 rfl) ?_
    have hth : f_Model_thrown mo' = some (Mo_code mo') := rfl
    have pm9 : ((wSd cI cZ cJ sd_a w_a v_a (wr_a 0) (rd_a 0) (cu_a 0) (sp_a 0) sd ++ wSy cI cZ cJ cu_a cu ++ wSy cI cZ cJ sp_a sp ++ wBr cI cZ cJ w_a w_b w ++ wBr cI cZ cJ v_a v_b v ++ wWr cI cZ cJ wr_a (cb_a 0) wr ++ wRd cI cZ cJ rd_a (cb_a 0) rd ++ wCb cI cZ cJ cb_a w_a v_a cb ++ wMo cI cZ cJ mo_a mo' ++ wOu cI cZ cJ ou_a ou) : va_W).Perm ((wMo cI cZ cJ mo_a mo') ++ (wSd cI cZ cJ sd_a w_a v_a (wr_a 0) (rd_a 0) (cu_a 0) (sp_a 0) sd ++ wSy cI cZ cJ cu_a cu ++ wSy cI cZ cJ sp_a sp ++ wBr cI cZ cJ w_a w_b w ++ wBr cI cZ cJ v_a v_b v ++ wWr cI cZ cJ wr_a (cb_a 0) wr ++ wRd cI cZ cJ rd_a (cb_a 0) rd ++ wCb cI cZ cJ cb_a w_a v_a cb ++ wOu cI cZ cJ ou_a ou)) := pm_2 _ _ _ _ _ _ _ _ _ _
    have hPc := pw_P (ws' := (wMo cI cZ cJ mo_a mo')) hP (fun q hq => pm9.mem_iff.mpr (List.mem_append_left _ hq))
    have hDc := pw_D (wc := (wMo cI cZ cJ mo_a mo')) hD pm9
    have hFc := pw_free (wc := (wMo cI cZ cJ mo_a mo')) hD hS hA (fun q hq => pm9.mem_iff.mpr (List.mem_append_left _ hq))
    refine va_calli (va_runV (As := []) (rest := []) ⟨hx, hb, hml, hown, hts⟩ (k_Model_thrown l dC dI cI cZ cJ mo_a H.size hth) (cwV 0 hts (gV t_906 t_907 t_908 t_63 t_909) rfl rfl rfl hd_Model_thrown ⟨Nat.le_trans (Nat.le_of_ble_eq_true rfl) hRf, Nat.le_trans (Nat.le_of_ble_eq_true rfl) hRl⟩) ⟨kP_blind, va_recv hK hPc (ci := 7) (q0 := 0) rfl rfl, kP_at hPc hK hDc hN⟩ rfl rfl hl.1 rfl (lv_room (Nat.le_of_ble_eq_true rfl)) d_law_1065 ⟨by omega, by omega⟩) hS (fun q _ h => hFc q h) hFc (fun r9 u t H1 locs ht hvm hw hB hz1 hk1 hS => ?_)
    rw [hw]
    obtain ⟨hP, hD⟩ := pw_join (wr := (wSd cI cZ cJ sd_a w_a v_a (wr_a 0) (rd_a 0) (cu_a 0) (sp_a 0) sd ++ wSy cI cZ cJ cu_a cu ++ wSy cI cZ cJ sp_a sp ++ wBr cI cZ cJ w_a w_b w ++ wBr cI cZ cJ v_a v_b v ++ wWr cI cZ cJ wr_a (cb_a 0) wr ++ wRd cI cZ cJ rd_a (cb_a 0) rd ++ wCb cI cZ cJ cb_a w_a v_a cb ++ wOu cI cZ cJ ou_a ou)) (w1 := (wMo cI cZ cJ mo_a mo')) hP hD pm9 ht hk1 hFc hB
    generalize H1 = H at hP hS ⊢
    have pm9 : ((wSd cI cZ cJ sd_a w_a v_a (wr_a 0) (rd_a 0) (cu_a 0) (sp_a 0) sd ++ wSy cI cZ cJ cu_a cu ++ wSy cI cZ cJ sp_a sp ++ wBr cI cZ cJ w_a w_b w ++ wBr cI cZ cJ v_a v_b v ++ wWr cI cZ cJ wr_a (cb_a 0) wr ++ wRd cI cZ cJ rd_a (cb_a 0) rd ++ wCb cI cZ cJ cb_a w_a v_a cb ++ wOu cI cZ cJ ou_a ou) ++ (wMo cI cZ cJ mo_a mo') : va_W).Perm (wSd cI cZ cJ sd_a w_a v_a (wr_a 0) (rd_a 0) (cu_a 0) (sp_a 0) sd ++ wSy cI cZ cJ cu_a cu ++ wSy cI cZ cJ sp_a sp ++ wBr cI cZ cJ w_a w_b w ++ wBr cI cZ cJ v_a v_b v ++ wWr cI cZ cJ wr_a (cb_a 0) wr ++ wRd cI cZ cJ rd_a (cb_a 0) rd ++ wCb cI cZ cJ cb_a w_a v_a cb ++ wMo cI cZ cJ mo_a mo' ++ wOu cI cZ cJ ou_a ou) := pm_3 _ _ _ _ _ _ _ _ _ _
    have hP : va_P (dC, dI) vwCl (wSd cI cZ cJ sd_a w_a v_a (wr_a 0) (rd_a 0) (cu_a 0) (sp_a 0) sd ++ wSy cI cZ cJ cu_a cu ++ wSy cI cZ cJ sp_a sp ++ wBr cI cZ cJ w_a w_b w ++ wBr cI cZ cJ v_a v_b v ++ wWr cI cZ cJ wr_a (cb_a 0) wr ++ wRd cI cZ cJ rd_a (cb_a 0) rd ++ wCb cI cZ cJ cb_a w_a v_a cb ++ wMo cI cZ cJ mo_a mo' ++ wOu cI cZ cJ ou_a ou) H := pw_P hP (fun q hq => pm9.mem_iff.mpr hq)
    have hD : va_D A (wSd cI cZ cJ sd_a w_a v_a (wr_a 0) (rd_a 0) (cu_a 0) (sp_a 0) sd ++ wSy cI cZ cJ cu_a cu ++ wSy cI cZ cJ sp_a sp ++ wBr cI cZ cJ w_a w_b w ++ wBr cI cZ cJ v_a v_b v ++ wWr cI cZ cJ wr_a (cb_a 0) wr ++ wRd cI cZ cJ rd_a (cb_a 0) rd ++ wCb cI cZ cJ cb_a w_a v_a cb ++ wMo cI cZ cJ mo_a mo' ++ wOu cI cZ cJ ou_a ou) := pw_Dp hD pm9
    refine lv_iload hx hb d_law_1068 (lv_at hl 1 rfl) ?_
    refine lv_icmp_eq (tgt := 1075) hx hb d_law_1070 (by decide) (fun _ => ?_) (fun h9 => absurd hcode h9)
    refine lv_iload hx hb d_law_1075 (lv_at hl 1 rfl) ?_
    refine lv_if_ne (tgt := 1092) hx hb d_law_1077 (by decide) (fun _ => ?_) (fun h9 => absurd h9 (by decide))
    refine lv_goto (tgt := 1131) hx hb d_law_1092 (by decide) ?_
    have hl := lv_sub (l' := [(0, .ref b), (1, .ref (sd_a 0)), (2, .ref (mo_a 0)), (3, .ref (ou_a 0)), (4, .int i)]) hl [2, 3, 4, 5, 6] rfl
    refine W.widen (k := j + 1 + Br_byL w + Br_byL v) (n := 6 * (j + 1) + 2 * Br_byL w + 2 * Br_byL v) (by omega) (by omega) ?_
    exact hk _ _ _ cu_a sp_a w_b v_b cu sp w v wr rd cb mo' ou hrel hP hD hS hl
set_option maxHeartbeats 8000000 in
set_option maxRecDepth 100000 in
theorem L_C_count {p : Program} {l : Launch} {e : Env} {R : Room} {s : State} {m : MethodId} {args : Array Value} {below : List Frame} {meth : Method} {c : Code} {Q : State → Prop} {A : Nat → Prop} {dC : Nat → ClassId} {dI : Nat → Nat → Nat} {cI cZ cJ : ClassId} {sd_a cu_a sp_a : Nat → Nat} {w_a w_b v_a v_b : Nat} {wr_a rd_a cb_a mo_a ou_a : Nat → Nat} {sd : Sd} {cu sp : Sy} {w v : Br} {wr : Wr} {rd : Rd} {cb : Cb} {mo : Mo} {ou : Ou} {b L : Nat} {xs : Nat → Int32} {i : Int32} {j : Nat} {Rl : Sd → Sy → Sy → Br → Br → Wr → Rd → Cb → Mo → Prop} (hl9 : l.stackTraces = false) (C0 : lcx p c m s args R (dC, dI) (TYS cI cZ cJ) A b L xs i j) (hRb : ∀ sd cu sp w v wr rd cb mo, Rl sd cu sp w v wr rd cb mo → Br_byL w ≤ 40000 ∧ Br_byL v ≤ 40000) (hR0 : Rl sd cu sp w v wr rd cb mo) (hT0 : T_C_count Rl sd cu sp w v wr rd cb mo (xs (i + 1).toNatClampNeg))
    (hk : ∀ (H : Heap) (locs : List Loc) (ls : Array Slot) (cu_a sp_a : Nat → Nat) (w_b v_b : Nat) (cu sp : Sy) (w v : Br) (wr : Wr) (rd : Rd) (cb : Cb) (mo : Mo) (ou : Ou), Rl sd cu sp w v wr rd cb mo → va_P (dC, dI) vwCl (wSd cI cZ cJ sd_a w_a v_a (wr_a 0) (rd_a 0) (cu_a 0) (sp_a 0) sd ++ wSy cI cZ cJ cu_a cu ++ wSy cI cZ cJ sp_a sp ++ wBr cI cZ cJ w_a w_b w ++ wBr cI cZ cJ v_a v_b v ++ wWr cI cZ cJ wr_a (cb_a 0) wr ++ wRd cI cZ cJ rd_a (cb_a 0) rd ++ wCb cI cZ cJ cb_a w_a v_a cb ++ wMo cI cZ cJ mo_a mo ++ wOu cI cZ cJ ou_a ou) H → va_D A (wSd cI cZ cJ sd_a w_a v_a (wr_a 0) (rd_a 0) (cu_a 0) (sp_a 0) sd ++ wSy cI cZ cJ cu_a cu ++ wSy cI cZ cJ sp_a sp ++ wBr cI cZ cJ w_a w_b w ++ wBr cI cZ cJ v_a v_b v ++ wWr cI cZ cJ wr_a (cb_a 0) wr ++ wRd cI cZ cJ rd_a (cb_a 0) rd ++ wCb cI cZ cJ cb_a w_a v_a cb ++ wMo cI cZ cJ mo_a mo ++ wOu cI cZ cJ ou_a ou) → va_S A s.heap H locs → lv_has ls 7 [(0, .ref b), (1, .ref (sd_a 0)), (2, .ref (mo_a 0)), (3, .ref (ou_a 0)), (4, .int i)] → W p l e R s m args below meth c H locs (j + 1 + Br_byL w + Br_byL v) (6 * (j + 1) + 2 * Br_byL w + 2 * Br_byL v) Q (F0 m 1131 ls []))
    {H : Heap} {locs : List Loc} {ls : Array Slot} (hP : va_P (dC, dI) vwCl (wSd cI cZ cJ sd_a w_a v_a (wr_a 0) (rd_a 0) (cu_a 0) (sp_a 0) sd ++ wSy cI cZ cJ cu_a cu ++ wSy cI cZ cJ sp_a sp ++ wBr cI cZ cJ w_a w_b w ++ wBr cI cZ cJ v_a v_b v ++ wWr cI cZ cJ wr_a (cb_a 0) wr ++ wRd cI cZ cJ rd_a (cb_a 0) rd ++ wCb cI cZ cJ cb_a w_a v_a cb ++ wMo cI cZ cJ mo_a mo ++ wOu cI cZ cJ ou_a ou) H) (hD : va_D A (wSd cI cZ cJ sd_a w_a v_a (wr_a 0) (rd_a 0) (cu_a 0) (sp_a 0) sd ++ wSy cI cZ cJ cu_a cu ++ wSy cI cZ cJ sp_a sp ++ wBr cI cZ cJ w_a w_b w ++ wBr cI cZ cJ v_a v_b v ++ wWr cI cZ cJ wr_a (cb_a 0) wr ++ wRd cI cZ cJ rd_a (cb_a 0) rd ++ wCb cI cZ cJ cb_a w_a v_a cb ++ wMo cI cZ cJ mo_a mo ++ wOu cI cZ cJ ou_a ou)) (hS : va_S A s.heap H locs) (hl : lv_has ls 7 [(0, .ref b), (1, .ref (sd_a 0)), (2, .ref (mo_a 0)), (3, .ref (ou_a 0)), (4, .int i)]) : W p l e R s m args below meth c H locs (j + Br_byL w + Br_byL v) (6 * j + 2 * Br_byL w + 2 * Br_byL v) Q (F0 m 1095 ls []) := by
  obtain ⟨hx, hb, hml, hown, hts, hK, hA, hA2, hRf, hRl, hN, hT, hX, hX0, hbl, hin, hj, hRc, hRs⟩ := C0
  have hbA : ¬ A b := fun h => absurd (hA2 b h) (Nat.not_le.mpr hbl)
  obtain ⟨hw0, hv0⟩ := hRb _ _ _ _ _ _ _ _ _ hR0
  unfold T_C_count at hT0
  obtain ⟨r, mo', hf, hg, hrel⟩ := hT0
  refine lv_aload_n hx hb d_law_1095 rfl (lv_at hl 1 rfl) ?_
  refine lv_aload_n hx hb d_law_1096 rfl (lv_at hl 0 rfl) ?_
  refine lv_iload hx hb d_law_1097 (lv_at hl 4 rfl) ?_
  refine lv_iconst (v := 1) hx hb d_law_1099 (by decide) ?_
  refine lv_iadd hx hb d_law_1100 ?_
  refine va_sld hx hb hX0 hbl hbA hS (hin 1 (by decide) (by decide)) d_law_1101 ?_
  have pm9 : ((wSd cI cZ cJ sd_a w_a v_a (wr_a 0) (rd_a 0) (cu_a 0) (sp_a 0) sd ++ wSy cI cZ cJ cu_a cu ++ wSy cI cZ cJ sp_a sp ++ wBr cI cZ cJ w_a w_b w ++ wBr cI cZ cJ v_a v_b v ++ wWr cI cZ cJ wr_a (cb_a 0) wr ++ wRd cI cZ cJ rd_a (cb_a 0) rd ++ wCb cI cZ cJ cb_a w_a v_a cb ++ wMo cI cZ cJ mo_a mo ++ wOu cI cZ cJ ou_a ou) : va_W).Perm ((wSd cI cZ cJ sd_a w_a v_a (wr_a 0) (rd_a 0) (cu_a 0) (sp_a 0) sd ++ wSy cI cZ cJ cu_a cu ++ wBr cI cZ cJ w_a w_b w ++ wBr cI cZ cJ v_a v_b v) ++ (wSy cI cZ cJ sp_a sp ++ wWr cI cZ cJ wr_a (cb_a 0) wr ++ wRd cI cZ cJ rd_a (cb_a 0) rd ++ wCb cI cZ cJ cb_a w_a v_a cb ++ wMo cI cZ cJ mo_a mo ++ wOu cI cZ cJ ou_a ou)) := pm_15 _ _ _ _ _ _ _ _ _ _
  have hPc := pw_P (ws' := (wSd cI cZ cJ sd_a w_a v_a (wr_a 0) (rd_a 0) (cu_a 0) (sp_a 0) sd ++ wSy cI cZ cJ cu_a cu ++ wBr cI cZ cJ w_a w_b w ++ wBr cI cZ cJ v_a v_b v)) hP (fun q hq => pm9.mem_iff.mpr (List.mem_append_left _ hq))
  have hDc := pw_D (wc := (wSd cI cZ cJ sd_a w_a v_a (wr_a 0) (rd_a 0) (cu_a 0) (sp_a 0) sd ++ wSy cI cZ cJ cu_a cu ++ wBr cI cZ cJ w_a w_b w ++ wBr cI cZ cJ v_a v_b v)) hD pm9
  have hFc := pw_free (wc := (wSd cI cZ cJ sd_a w_a v_a (wr_a 0) (rd_a 0) (cu_a 0) (sp_a 0) sd ++ wSy cI cZ cJ cu_a cu ++ wBr cI cZ cJ w_a w_b w ++ wBr cI cZ cJ v_a v_b v)) hD hS hA (fun q hq => pm9.mem_iff.mpr (List.mem_append_left _ hq))
  refine va_calli (va_runV (As := [.int (xs (i + 1).toNatClampNeg)]) (rest := []) ⟨hx, hb, hml, hown, hts⟩ (k_SD_count l dC dI cI cZ cJ sd_a cu_a w_a w_b v_a v_b (wr_a 0) (rd_a 0) (sp_a 0) H.size hf) (cwV 1 hts (gV t_546 t_547 t_548 t_54 t_549) rfl rfl rfl hd_SD_count ⟨Nat.le_trans (Nat.le_of_ble_eq_true rfl) hRf, Nat.le_trans (Nat.le_of_ble_eq_true rfl) hRl⟩) ⟨kP_blind, va_recv hK hPc (ci := 6) (q0 := 0) rfl rfl, kP_at hPc hK hDc hN⟩ rfl rfl hl.1 rfl (lv_room (Nat.le_of_ble_eq_true rfl)) d_law_1102 ⟨by omega, by omega⟩) hS (fun q _ h => hFc q h) hFc (fun r9 u t H1 locs ht hvm hw hB hz1 hk1 hS => ?_)
  rw [hw]
  obtain ⟨hP, hD⟩ := pw_join (wr := (wSy cI cZ cJ sp_a sp ++ wWr cI cZ cJ wr_a (cb_a 0) wr ++ wRd cI cZ cJ rd_a (cb_a 0) rd ++ wCb cI cZ cJ cb_a w_a v_a cb ++ wMo cI cZ cJ mo_a mo ++ wOu cI cZ cJ ou_a ou)) (w1 := (wSd cI cZ cJ sd_a w_a v_a (wr_a 0) (rd_a 0) (cu_a 0) (sp_a 0) sd ++ wSy cI cZ cJ cu_a cu ++ wBr cI cZ cJ w_a w_b w ++ wBr cI cZ cJ v_a v_b v)) hP hD pm9 ht hk1 hFc hB
  generalize H1 = H at hP hS ⊢
  have pm9 : ((wSy cI cZ cJ sp_a sp ++ wWr cI cZ cJ wr_a (cb_a 0) wr ++ wRd cI cZ cJ rd_a (cb_a 0) rd ++ wCb cI cZ cJ cb_a w_a v_a cb ++ wMo cI cZ cJ mo_a mo ++ wOu cI cZ cJ ou_a ou) ++ (wSd cI cZ cJ sd_a w_a v_a (wr_a 0) (rd_a 0) (cu_a 0) (sp_a 0) sd ++ wSy cI cZ cJ cu_a cu ++ wBr cI cZ cJ w_a w_b w ++ wBr cI cZ cJ v_a v_b v) : va_W).Perm (wSd cI cZ cJ sd_a w_a v_a (wr_a 0) (rd_a 0) (cu_a 0) (sp_a 0) sd ++ wSy cI cZ cJ cu_a cu ++ wSy cI cZ cJ sp_a sp ++ wBr cI cZ cJ w_a w_b w ++ wBr cI cZ cJ v_a v_b v ++ wWr cI cZ cJ wr_a (cb_a 0) wr ++ wRd cI cZ cJ rd_a (cb_a 0) rd ++ wCb cI cZ cJ cb_a w_a v_a cb ++ wMo cI cZ cJ mo_a mo ++ wOu cI cZ cJ ou_a ou) := pm_16 _ _ _ _ _ _ _ _ _ _
  have hP : va_P (dC, dI) vwCl (wSd cI cZ cJ sd_a w_a v_a (wr_a 0) (rd_a 0) (cu_a 0) (sp_a 0) sd ++ wSy cI cZ cJ cu_a cu ++ wSy cI cZ cJ sp_a sp ++ wBr cI cZ cJ w_a w_b w ++ wBr cI cZ cJ v_a v_b v ++ wWr cI cZ cJ wr_a (cb_a 0) wr ++ wRd cI cZ cJ rd_a (cb_a 0) rd ++ wCb cI cZ cJ cb_a w_a v_a cb ++ wMo cI cZ cJ mo_a mo ++ wOu cI cZ cJ ou_a ou) H := pw_P hP (fun q hq => pm9.mem_iff.mpr hq)
  have hD : va_D A (wSd cI cZ cJ sd_a w_a v_a (wr_a 0) (rd_a 0) (cu_a 0) (sp_a 0) sd ++ wSy cI cZ cJ cu_a cu ++ wSy cI cZ cJ sp_a sp ++ wBr cI cZ cJ w_a w_b w ++ wBr cI cZ cJ v_a v_b v ++ wWr cI cZ cJ wr_a (cb_a 0) wr ++ wRd cI cZ cJ rd_a (cb_a 0) rd ++ wCb cI cZ cJ cb_a w_a v_a cb ++ wMo cI cZ cJ mo_a mo ++ wOu cI cZ cJ ou_a ou) := pw_Dp hD pm9
  refine lv_aload_n hx hb d_law_1105 rfl (lv_at hl 2 rfl) ?_
  refine lv_aload_n hx hb d_law_1106 rfl (lv_at hl 0 rfl) ?_
  refine lv_iload hx hb d_law_1107 (lv_at hl 4 rfl) ?_
  refine lv_iconst (v := 1) hx hb d_law_1109 (by decide) ?_
  refine lv_iadd hx hb d_law_1110 ?_
  refine va_sld hx hb hX0 hbl hbA hS (hin 1 (by decide) (by decide)) d_law_1111 ?_
  have pm9 : ((wSd cI cZ cJ sd_a w_a v_a (wr_a 0) (rd_a 0) (cu_a 0) (sp_a 0) sd ++ wSy cI cZ cJ cu_a cu ++ wSy cI cZ cJ sp_a sp ++ wBr cI cZ cJ w_a w_b w ++ wBr cI cZ cJ v_a v_b v ++ wWr cI cZ cJ wr_a (cb_a 0) wr ++ wRd cI cZ cJ rd_a (cb_a 0) rd ++ wCb cI cZ cJ cb_a w_a v_a cb ++ wMo cI cZ cJ mo_a mo ++ wOu cI cZ cJ ou_a ou) : va_W).Perm ((wMo cI cZ cJ mo_a mo) ++ (wSd cI cZ cJ sd_a w_a v_a (wr_a 0) (rd_a 0) (cu_a 0) (sp_a 0) sd ++ wSy cI cZ cJ cu_a cu ++ wSy cI cZ cJ sp_a sp ++ wBr cI cZ cJ w_a w_b w ++ wBr cI cZ cJ v_a v_b v ++ wWr cI cZ cJ wr_a (cb_a 0) wr ++ wRd cI cZ cJ rd_a (cb_a 0) rd ++ wCb cI cZ cJ cb_a w_a v_a cb ++ wOu cI cZ cJ ou_a ou)) := pm_2 _ _ _ _ _ _ _ _ _ _
  have hPc := pw_P (ws' := (wMo cI cZ cJ mo_a mo)) hP (fun q hq => pm9.mem_iff.mpr (List.mem_append_left _ hq))
  have hDc := pw_D (wc := (wMo cI cZ cJ mo_a mo)) hD pm9
  have hFc := pw_free (wc := (wMo cI cZ cJ mo_a mo)) hD hS hA (fun q hq => pm9.mem_iff.mpr (List.mem_append_left _ hq))
  refine va_calli (va_runV (As := [.int (xs (i + 1).toNatClampNeg)]) (rest := [.int r]) ⟨hx, hb, hml, hown, hts⟩ (k_Model_count l dC dI cI cZ cJ mo_a H.size hg) (cwV 1 hts (gV t_1103 t_1104 t_1105 t_63 t_1106) rfl rfl rfl hd_Model_count ⟨Nat.le_trans (Nat.le_of_ble_eq_true rfl) hRf, Nat.le_trans (Nat.le_of_ble_eq_true rfl) hRl⟩) ⟨kP_blind, va_recv hK hPc (ci := 7) (q0 := 0) rfl rfl, kP_at hPc hK hDc hN⟩ rfl rfl hl.1 rfl (lv_room (Nat.le_of_ble_eq_true rfl)) d_law_1112 ⟨by omega, by omega⟩) hS (fun q _ h => hFc q h) hFc (fun r9 u t H1 locs ht hvm hw hB hz1 hk1 hS => ?_)
  rw [hw]
  obtain ⟨hP, hD⟩ := pw_join (wr := (wSd cI cZ cJ sd_a w_a v_a (wr_a 0) (rd_a 0) (cu_a 0) (sp_a 0) sd ++ wSy cI cZ cJ cu_a cu ++ wSy cI cZ cJ sp_a sp ++ wBr cI cZ cJ w_a w_b w ++ wBr cI cZ cJ v_a v_b v ++ wWr cI cZ cJ wr_a (cb_a 0) wr ++ wRd cI cZ cJ rd_a (cb_a 0) rd ++ wCb cI cZ cJ cb_a w_a v_a cb ++ wOu cI cZ cJ ou_a ou)) (w1 := (wMo cI cZ cJ mo_a mo')) hP hD pm9 ht hk1 hFc hB
  generalize H1 = H at hP hS ⊢
  have pm9 : ((wSd cI cZ cJ sd_a w_a v_a (wr_a 0) (rd_a 0) (cu_a 0) (sp_a 0) sd ++ wSy cI cZ cJ cu_a cu ++ wSy cI cZ cJ sp_a sp ++ wBr cI cZ cJ w_a w_b w ++ wBr cI cZ cJ v_a v_b v ++ wWr cI cZ cJ wr_a (cb_a 0) wr ++ wRd cI cZ cJ rd_a (cb_a 0) rd ++ wCb cI cZ cJ cb_a w_a v_a cb ++ wOu cI cZ cJ ou_a ou) ++ (wMo cI cZ cJ mo_a mo') : va_W).Perm (wSd cI cZ cJ sd_a w_a v_a (wr_a 0) (rd_a 0) (cu_a 0) (sp_a 0) sd ++ wSy cI cZ cJ cu_a cu ++ wSy cI cZ cJ sp_a sp ++ wBr cI cZ cJ w_a w_b w ++ wBr cI cZ cJ v_a v_b v ++ wWr cI cZ cJ wr_a (cb_a 0) wr ++ wRd cI cZ cJ rd_a (cb_a 0) rd ++ wCb cI cZ cJ cb_a w_a v_a cb ++ wMo cI cZ cJ mo_a mo' ++ wOu cI cZ cJ ou_a ou) := pm_3 _ _ _ _ _ _ _ _ _ _
  have hP : va_P (dC, dI) vwCl (wSd cI cZ cJ sd_a w_a v_a (wr_a 0) (rd_a 0) (cu_a 0) (sp_a 0) sd ++ wSy cI cZ cJ cu_a cu ++ wSy cI cZ cJ sp_a sp ++ wBr cI cZ cJ w_a w_b w ++ wBr cI cZ cJ v_a v_b v ++ wWr cI cZ cJ wr_a (cb_a 0) wr ++ wRd cI cZ cJ rd_a (cb_a 0) rd ++ wCb cI cZ cJ cb_a w_a v_a cb ++ wMo cI cZ cJ mo_a mo' ++ wOu cI cZ cJ ou_a ou) H := pw_P hP (fun q hq => pm9.mem_iff.mpr hq)
  have hD : va_D A (wSd cI cZ cJ sd_a w_a v_a (wr_a 0) (rd_a 0) (cu_a 0) (sp_a 0) sd ++ wSy cI cZ cJ cu_a cu ++ wSy cI cZ cJ sp_a sp ++ wBr cI cZ cJ w_a w_b w ++ wBr cI cZ cJ v_a v_b v ++ wWr cI cZ cJ wr_a (cb_a 0) wr ++ wRd cI cZ cJ rd_a (cb_a 0) rd ++ wCb cI cZ cJ cb_a w_a v_a cb ++ wMo cI cZ cJ mo_a mo' ++ wOu cI cZ cJ ou_a ou) := pw_Dp hD pm9
  refine lv_icmp_eq (tgt := 1131) hx hb d_law_1115 (by decide) (fun _ => ?_) (fun h9 => absurd rfl h9)
  have hl := lv_sub (l' := [(0, .ref b), (1, .ref (sd_a 0)), (2, .ref (mo_a 0)), (3, .ref (ou_a 0)), (4, .int i)]) hl [0, 1, 2, 3, 4] rfl
  refine W.widen (k := j + 1 + Br_byL w + Br_byL v) (n := 6 * (j + 1) + 2 * Br_byL w + 2 * Br_byL v) (by omega) (by omega) ?_
  exact hk _ _ _ cu_a sp_a w_b v_b cu sp w v wr rd cb mo' ou hrel hP hD hS hl
set_option maxHeartbeats 8000000 in
set_option maxRecDepth 100000 in
theorem L_C_clear {p : Program} {l : Launch} {e : Env} {R : Room} {s : State} {m : MethodId} {args : Array Value} {below : List Frame} {meth : Method} {c : Code} {Q : State → Prop} {A : Nat → Prop} {dC : Nat → ClassId} {dI : Nat → Nat → Nat} {cI cZ cJ : ClassId} {sd_a cu_a sp_a : Nat → Nat} {w_a w_b v_a v_b : Nat} {wr_a rd_a cb_a mo_a ou_a : Nat → Nat} {sd : Sd} {cu sp : Sy} {w v : Br} {wr : Wr} {rd : Rd} {cb : Cb} {mo : Mo} {ou : Ou} {b L : Nat} {xs : Nat → Int32} {i : Int32} {j : Nat} {Rl : Sd → Sy → Sy → Br → Br → Wr → Rd → Cb → Mo → Prop} (hl9 : l.stackTraces = false) (C0 : lcx p c m s args R (dC, dI) (TYS cI cZ cJ) A b L xs i j) (hRb : ∀ sd cu sp w v wr rd cb mo, Rl sd cu sp w v wr rd cb mo → Br_byL w ≤ 40000 ∧ Br_byL v ≤ 40000) (hR0 : Rl sd cu sp w v wr rd cb mo) (hT0 : T_C_clear Rl sd cu sp w v wr rd cb mo)
    (hk : ∀ (H : Heap) (locs : List Loc) (ls : Array Slot) (cu_a sp_a : Nat → Nat) (w_b v_b : Nat) (cu sp : Sy) (w v : Br) (wr : Wr) (rd : Rd) (cb : Cb) (mo : Mo) (ou : Ou), Rl sd cu sp w v wr rd cb mo → va_P (dC, dI) vwCl (wSd cI cZ cJ sd_a w_a v_a (wr_a 0) (rd_a 0) (cu_a 0) (sp_a 0) sd ++ wSy cI cZ cJ cu_a cu ++ wSy cI cZ cJ sp_a sp ++ wBr cI cZ cJ w_a w_b w ++ wBr cI cZ cJ v_a v_b v ++ wWr cI cZ cJ wr_a (cb_a 0) wr ++ wRd cI cZ cJ rd_a (cb_a 0) rd ++ wCb cI cZ cJ cb_a w_a v_a cb ++ wMo cI cZ cJ mo_a mo ++ wOu cI cZ cJ ou_a ou) H → va_D A (wSd cI cZ cJ sd_a w_a v_a (wr_a 0) (rd_a 0) (cu_a 0) (sp_a 0) sd ++ wSy cI cZ cJ cu_a cu ++ wSy cI cZ cJ sp_a sp ++ wBr cI cZ cJ w_a w_b w ++ wBr cI cZ cJ v_a v_b v ++ wWr cI cZ cJ wr_a (cb_a 0) wr ++ wRd cI cZ cJ rd_a (cb_a 0) rd ++ wCb cI cZ cJ cb_a w_a v_a cb ++ wMo cI cZ cJ mo_a mo ++ wOu cI cZ cJ ou_a ou) → va_S A s.heap H locs → lv_has ls 7 [(0, .ref b), (1, .ref (sd_a 0)), (2, .ref (mo_a 0)), (3, .ref (ou_a 0)), (4, .int i)] → W p l e R s m args below meth c H locs (j + 1 + Br_byL w + Br_byL v) (6 * (j + 1) + 2 * Br_byL w + 2 * Br_byL v) Q (F0 m 1131 ls []))
    {H : Heap} {locs : List Loc} {ls : Array Slot} (hP : va_P (dC, dI) vwCl (wSd cI cZ cJ sd_a w_a v_a (wr_a 0) (rd_a 0) (cu_a 0) (sp_a 0) sd ++ wSy cI cZ cJ cu_a cu ++ wSy cI cZ cJ sp_a sp ++ wBr cI cZ cJ w_a w_b w ++ wBr cI cZ cJ v_a v_b v ++ wWr cI cZ cJ wr_a (cb_a 0) wr ++ wRd cI cZ cJ rd_a (cb_a 0) rd ++ wCb cI cZ cJ cb_a w_a v_a cb ++ wMo cI cZ cJ mo_a mo ++ wOu cI cZ cJ ou_a ou) H) (hD : va_D A (wSd cI cZ cJ sd_a w_a v_a (wr_a 0) (rd_a 0) (cu_a 0) (sp_a 0) sd ++ wSy cI cZ cJ cu_a cu ++ wSy cI cZ cJ sp_a sp ++ wBr cI cZ cJ w_a w_b w ++ wBr cI cZ cJ v_a v_b v ++ wWr cI cZ cJ wr_a (cb_a 0) wr ++ wRd cI cZ cJ rd_a (cb_a 0) rd ++ wCb cI cZ cJ cb_a w_a v_a cb ++ wMo cI cZ cJ mo_a mo ++ wOu cI cZ cJ ou_a ou)) (hS : va_S A s.heap H locs) (hl : lv_has ls 7 [(0, .ref b), (1, .ref (sd_a 0)), (2, .ref (mo_a 0)), (3, .ref (ou_a 0)), (4, .int i)]) : W p l e R s m args below meth c H locs (j + Br_byL w + Br_byL v) (6 * j + 2 * Br_byL w + 2 * Br_byL v) Q (F0 m 1120 ls []) := by
  obtain ⟨hx, hb, hml, hown, hts, hK, hA, hA2, hRf, hRl, hN, hT, hX, hX0, hbl, hin, hj, hRc, hRs⟩ := C0
  have hbA : ¬ A b := fun h => absurd (hA2 b h) (Nat.not_le.mpr hbl)
  obtain ⟨hw0, hv0⟩ := hRb _ _ _ _ _ _ _ _ _ hR0
  unfold T_C_clear at hT0
  obtain ⟨cu', w', v', mo', hf, hg, hlw, hlv, hrel⟩ := hT0
  refine lv_aload_n hx hb d_law_1120 rfl (lv_at hl 1 rfl) ?_
  have pm9 : ((wSd cI cZ cJ sd_a w_a v_a (wr_a 0) (rd_a 0) (cu_a 0) (sp_a 0) sd ++ wSy cI cZ cJ cu_a cu ++ wSy cI cZ cJ sp_a sp ++ wBr cI cZ cJ w_a w_b w ++ wBr cI cZ cJ v_a v_b v ++ wWr cI cZ cJ wr_a (cb_a 0) wr ++ wRd cI cZ cJ rd_a (cb_a 0) rd ++ wCb cI cZ cJ cb_a w_a v_a cb ++ wMo cI cZ cJ mo_a mo ++ wOu cI cZ cJ ou_a ou) : va_W).Perm ((wSd cI cZ cJ sd_a w_a v_a (wr_a 0) (rd_a 0) (cu_a 0) (sp_a 0) sd ++ wSy cI cZ cJ cu_a cu ++ wBr cI cZ cJ w_a w_b w ++ wBr cI cZ cJ v_a v_b v) ++ (wSy cI cZ cJ sp_a sp ++ wWr cI cZ cJ wr_a (cb_a 0) wr ++ wRd cI cZ cJ rd_a (cb_a 0) rd ++ wCb cI cZ cJ cb_a w_a v_a cb ++ wMo cI cZ cJ mo_a mo ++ wOu cI cZ cJ ou_a ou)) := pm_15 _ _ _ _ _ _ _ _ _ _
  have hPc := pw_P (ws' := (wSd cI cZ cJ sd_a w_a v_a (wr_a 0) (rd_a 0) (cu_a 0) (sp_a 0) sd ++ wSy cI cZ cJ cu_a cu ++ wBr cI cZ cJ w_a w_b w ++ wBr cI cZ cJ v_a v_b v)) hP (fun q hq => pm9.mem_iff.mpr (List.mem_append_left _ hq))
  have hDc := pw_D (wc := (wSd cI cZ cJ sd_a w_a v_a (wr_a 0) (rd_a 0) (cu_a 0) (sp_a 0) sd ++ wSy cI cZ cJ cu_a cu ++ wBr cI cZ cJ w_a w_b w ++ wBr cI cZ cJ v_a v_b v)) hD pm9
  have hFc := pw_free (wc := (wSd cI cZ cJ sd_a w_a v_a (wr_a 0) (rd_a 0) (cu_a 0) (sp_a 0) sd ++ wSy cI cZ cJ cu_a cu ++ wBr cI cZ cJ w_a w_b w ++ wBr cI cZ cJ v_a v_b v)) hD hS hA (fun q hq => pm9.mem_iff.mpr (List.mem_append_left _ hq))
  refine va_callv (va_runV (As := []) (rest := []) ⟨hx, hb, hml, hown, hts⟩ (k_SD_clear l dC dI cI cZ cJ sd_a cu_a w_a w_b v_a v_b (wr_a 0) (rd_a 0) (sp_a 0) H.size hf) (cwV 0 hts (gV t_550 t_551 t_552 t_54 t_553) rfl rfl rfl hd_SD_clear ⟨Nat.le_trans (Nat.le_of_ble_eq_true rfl) hRf, Nat.le_trans (Nat.le_of_ble_eq_true rfl) hRl⟩) ⟨kP_blind, va_recv hK hPc (ci := 6) (q0 := 0) rfl rfl, kP_at hPc hK hDc hN⟩ rfl rfl hl.1 rfl (lv_room (Nat.le_of_ble_eq_true rfl)) d_law_1121 ⟨by omega, by omega⟩) hS (fun q _ h => hFc q h) hFc (fun u t H1 locs ht hvm hw hB hz1 hk1 hS => ?_)
  obtain ⟨hP, hD⟩ := pw_join (wr := (wSy cI cZ cJ sp_a sp ++ wWr cI cZ cJ wr_a (cb_a 0) wr ++ wRd cI cZ cJ rd_a (cb_a 0) rd ++ wCb cI cZ cJ cb_a w_a v_a cb ++ wMo cI cZ cJ mo_a mo ++ wOu cI cZ cJ ou_a ou)) (w1 := (wSd cI cZ cJ sd_a w_a v_a (wr_a 0) (rd_a 0) (cu_a 0) (sp_a 0) sd ++ wSy cI cZ cJ cu_a cu' ++ wBr cI cZ cJ w_a w_b w' ++ wBr cI cZ cJ v_a v_b v')) hP hD pm9 ht hk1 hFc hB
  generalize H1 = H at hP hS ⊢
  have pm9 : ((wSy cI cZ cJ sp_a sp ++ wWr cI cZ cJ wr_a (cb_a 0) wr ++ wRd cI cZ cJ rd_a (cb_a 0) rd ++ wCb cI cZ cJ cb_a w_a v_a cb ++ wMo cI cZ cJ mo_a mo ++ wOu cI cZ cJ ou_a ou) ++ (wSd cI cZ cJ sd_a w_a v_a (wr_a 0) (rd_a 0) (cu_a 0) (sp_a 0) sd ++ wSy cI cZ cJ cu_a cu' ++ wBr cI cZ cJ w_a w_b w' ++ wBr cI cZ cJ v_a v_b v') : va_W).Perm (wSd cI cZ cJ sd_a w_a v_a (wr_a 0) (rd_a 0) (cu_a 0) (sp_a 0) sd ++ wSy cI cZ cJ cu_a cu' ++ wSy cI cZ cJ sp_a sp ++ wBr cI cZ cJ w_a w_b w' ++ wBr cI cZ cJ v_a v_b v' ++ wWr cI cZ cJ wr_a (cb_a 0) wr ++ wRd cI cZ cJ rd_a (cb_a 0) rd ++ wCb cI cZ cJ cb_a w_a v_a cb ++ wMo cI cZ cJ mo_a mo ++ wOu cI cZ cJ ou_a ou) := pm_16 _ _ _ _ _ _ _ _ _ _
  have hP : va_P (dC, dI) vwCl (wSd cI cZ cJ sd_a w_a v_a (wr_a 0) (rd_a 0) (cu_a 0) (sp_a 0) sd ++ wSy cI cZ cJ cu_a cu' ++ wSy cI cZ cJ sp_a sp ++ wBr cI cZ cJ w_a w_b w' ++ wBr cI cZ cJ v_a v_b v' ++ wWr cI cZ cJ wr_a (cb_a 0) wr ++ wRd cI cZ cJ rd_a (cb_a 0) rd ++ wCb cI cZ cJ cb_a w_a v_a cb ++ wMo cI cZ cJ mo_a mo ++ wOu cI cZ cJ ou_a ou) H := pw_P hP (fun q hq => pm9.mem_iff.mpr hq)
  have hD : va_D A (wSd cI cZ cJ sd_a w_a v_a (wr_a 0) (rd_a 0) (cu_a 0) (sp_a 0) sd ++ wSy cI cZ cJ cu_a cu' ++ wSy cI cZ cJ sp_a sp ++ wBr cI cZ cJ w_a w_b w' ++ wBr cI cZ cJ v_a v_b v' ++ wWr cI cZ cJ wr_a (cb_a 0) wr ++ wRd cI cZ cJ rd_a (cb_a 0) rd ++ wCb cI cZ cJ cb_a w_a v_a cb ++ wMo cI cZ cJ mo_a mo ++ wOu cI cZ cJ ou_a ou) := pw_Dp hD pm9
  refine lv_aload_n hx hb d_law_1124 rfl (lv_at hl 2 rfl) ?_
  have pm9 : ((wSd cI cZ cJ sd_a w_a v_a (wr_a 0) (rd_a 0) (cu_a 0) (sp_a 0) sd ++ wSy cI cZ cJ cu_a cu' ++ wSy cI cZ cJ sp_a sp ++ wBr cI cZ cJ w_a w_b w' ++ wBr cI cZ cJ v_a v_b v' ++ wWr cI cZ cJ wr_a (cb_a 0) wr ++ wRd cI cZ cJ rd_a (cb_a 0) rd ++ wCb cI cZ cJ cb_a w_a v_a cb ++ wMo cI cZ cJ mo_a mo ++ wOu cI cZ cJ ou_a ou) : va_W).Perm ((wMo cI cZ cJ mo_a mo) ++ (wSd cI cZ cJ sd_a w_a v_a (wr_a 0) (rd_a 0) (cu_a 0) (sp_a 0) sd ++ wSy cI cZ cJ cu_a cu' ++ wSy cI cZ cJ sp_a sp ++ wBr cI cZ cJ w_a w_b w' ++ wBr cI cZ cJ v_a v_b v' ++ wWr cI cZ cJ wr_a (cb_a 0) wr ++ wRd cI cZ cJ rd_a (cb_a 0) rd ++ wCb cI cZ cJ cb_a w_a v_a cb ++ wOu cI cZ cJ ou_a ou)) := pm_2 _ _ _ _ _ _ _ _ _ _
  have hPc := pw_P (ws' := (wMo cI cZ cJ mo_a mo)) hP (fun q hq => pm9.mem_iff.mpr (List.mem_append_left _ hq))
  have hDc := pw_D (wc := (wMo cI cZ cJ mo_a mo)) hD pm9
  have hFc := pw_free (wc := (wMo cI cZ cJ mo_a mo)) hD hS hA (fun q hq => pm9.mem_iff.mpr (List.mem_append_left _ hq))
  refine va_callv (va_runV (As := []) (rest := []) ⟨hx, hb, hml, hown, hts⟩ (k_Model_clear l dC dI cI cZ cJ mo_a H.size hg) (cwV 0 hts (gV t_1107 t_1108 t_1109 t_63 t_1110) rfl rfl rfl hd_Model_clear ⟨Nat.le_trans (Nat.le_of_ble_eq_true rfl) hRf, Nat.le_trans (Nat.le_of_ble_eq_true rfl) hRl⟩) ⟨kP_blind, va_recv hK hPc (ci := 7) (q0 := 0) rfl rfl, kP_at hPc hK hDc hN⟩ rfl rfl hl.1 rfl (lv_room (Nat.le_of_ble_eq_true rfl)) d_law_1125 ⟨by omega, by omega⟩) hS (fun q _ h => hFc q h) hFc (fun u t H1 locs ht hvm hw hB hz1 hk1 hS => ?_)
  obtain ⟨hP, hD⟩ := pw_join (wr := (wSd cI cZ cJ sd_a w_a v_a (wr_a 0) (rd_a 0) (cu_a 0) (sp_a 0) sd ++ wSy cI cZ cJ cu_a cu' ++ wSy cI cZ cJ sp_a sp ++ wBr cI cZ cJ w_a w_b w' ++ wBr cI cZ cJ v_a v_b v' ++ wWr cI cZ cJ wr_a (cb_a 0) wr ++ wRd cI cZ cJ rd_a (cb_a 0) rd ++ wCb cI cZ cJ cb_a w_a v_a cb ++ wOu cI cZ cJ ou_a ou)) (w1 := (wMo cI cZ cJ mo_a mo')) hP hD pm9 ht hk1 hFc hB
  generalize H1 = H at hP hS ⊢
  have pm9 : ((wSd cI cZ cJ sd_a w_a v_a (wr_a 0) (rd_a 0) (cu_a 0) (sp_a 0) sd ++ wSy cI cZ cJ cu_a cu' ++ wSy cI cZ cJ sp_a sp ++ wBr cI cZ cJ w_a w_b w' ++ wBr cI cZ cJ v_a v_b v' ++ wWr cI cZ cJ wr_a (cb_a 0) wr ++ wRd cI cZ cJ rd_a (cb_a 0) rd ++ wCb cI cZ cJ cb_a w_a v_a cb ++ wOu cI cZ cJ ou_a ou) ++ (wMo cI cZ cJ mo_a mo') : va_W).Perm (wSd cI cZ cJ sd_a w_a v_a (wr_a 0) (rd_a 0) (cu_a 0) (sp_a 0) sd ++ wSy cI cZ cJ cu_a cu' ++ wSy cI cZ cJ sp_a sp ++ wBr cI cZ cJ w_a w_b w' ++ wBr cI cZ cJ v_a v_b v' ++ wWr cI cZ cJ wr_a (cb_a 0) wr ++ wRd cI cZ cJ rd_a (cb_a 0) rd ++ wCb cI cZ cJ cb_a w_a v_a cb ++ wMo cI cZ cJ mo_a mo' ++ wOu cI cZ cJ ou_a ou) := pm_3 _ _ _ _ _ _ _ _ _ _
  have hP : va_P (dC, dI) vwCl (wSd cI cZ cJ sd_a w_a v_a (wr_a 0) (rd_a 0) (cu_a 0) (sp_a 0) sd ++ wSy cI cZ cJ cu_a cu' ++ wSy cI cZ cJ sp_a sp ++ wBr cI cZ cJ w_a w_b w' ++ wBr cI cZ cJ v_a v_b v' ++ wWr cI cZ cJ wr_a (cb_a 0) wr ++ wRd cI cZ cJ rd_a (cb_a 0) rd ++ wCb cI cZ cJ cb_a w_a v_a cb ++ wMo cI cZ cJ mo_a mo' ++ wOu cI cZ cJ ou_a ou) H := pw_P hP (fun q hq => pm9.mem_iff.mpr hq)
  have hD : va_D A (wSd cI cZ cJ sd_a w_a v_a (wr_a 0) (rd_a 0) (cu_a 0) (sp_a 0) sd ++ wSy cI cZ cJ cu_a cu' ++ wSy cI cZ cJ sp_a sp ++ wBr cI cZ cJ w_a w_b w' ++ wBr cI cZ cJ v_a v_b v' ++ wWr cI cZ cJ wr_a (cb_a 0) wr ++ wRd cI cZ cJ rd_a (cb_a 0) rd ++ wCb cI cZ cJ cb_a w_a v_a cb ++ wMo cI cZ cJ mo_a mo' ++ wOu cI cZ cJ ou_a ou) := pw_Dp hD pm9
  refine lv_goto (tgt := 1131) hx hb d_law_1128 (by decide) ?_
  have hl := lv_sub (l' := [(0, .ref b), (1, .ref (sd_a 0)), (2, .ref (mo_a 0)), (3, .ref (ou_a 0)), (4, .int i)]) hl [0, 1, 2, 3, 4] rfl
  refine W.widen (k := j + 1 + Br_byL w' + Br_byL v') (n := 6 * (j + 1) + 2 * Br_byL w' + 2 * Br_byL v') (by omega) (by omega) ?_
  exact hk _ _ _ cu_a sp_a w_b v_b cu' sp w' v' wr rd cb mo' ou hrel hP hD hS hl
