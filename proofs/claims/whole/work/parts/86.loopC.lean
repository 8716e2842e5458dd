theorem hRb_C : ∀ (sd : Sd) (cu sp : Sy) (w v : Br) (wr : Wr) (rd : Rd) (cb : Cb) (mo : Mo), Rl_C sd cu sp w v wr rd cb mo → Br_byL w ≤ 40000 ∧ Br_byL v ≤ 40000 := by
  intro sd cu sp w v wr rd cb mo h
  obtain ⟨hw, hr, hk, hd, ⟨m, o1, o2, o3, o4⟩, ⟨m2, i1, i2, i3⟩⟩ := h
  exact ⟨o3, by rw [i2]; decide⟩
set_option maxHeartbeats 8000000 in
set_option maxRecDepth 100000 in
theorem law_loop_C {p : Program} {l : Launch} {e : Env} {R : Room} {s : State} {m : MethodId} {args : Array Value} {below : List Frame} {meth : Method} {c : Code} {Q : State → Prop} {A : Nat → Prop} {dC : Nat → ClassId} {dI : Nat → Nat → Nat} {cI cZ cJ : ClassId} {sd_a : Nat → Nat} {w_a v_a : Nat} {wr_a rd_a cb_a mo_a ou_a : Nat → Nat} {sd : Sd} {b L : Nat} {xs : Nat → Int32} (hl9 : l.stackTraces = false) (hC : ∀ (i : Int32) (j : Nat), (∀ k : Int32, 0 ≤ k → k < 5 → vp_in (i + k) L) → j ≤ 20000 → lcx p c m s args R (dC, dI) (TYS cI cZ cJ) A b L xs i j) (hx : p.tables.exec = Jvm.exec) (hb : c.code = code) (hX0 : va_X b L xs s s.heap) (hbl : b < s.heap.size) (hA2 : ∀ q : Nat, A q → s.heap.size ≤ q) (hL : L ≤ 2561)
    (hend : ∀ (H : Heap) (locs : List Loc) (ls : Array Slot) (k n : Nat), k ≤ 110000 → n ≤ 300000 → va_S A s.heap H locs → W p l e R s m args below meth c H locs k n Q (F0 m 1137 ls [])) :
    ∀ (n k j : Nat) (cu_a sp_a : Nat → Nat) (w_b v_b : Nat) (cu sp : Sy) (w v : Br) (wr : Wr) (rd : Rd) (cb : Cb) (mo : Mo) (ou : Ou) (H : Heap) (locs : List Loc) (ls : Array Slot), L < 5 * k + 6 + n → k ≤ 512 → j ≤ 10000 + k → Rl_C sd cu sp w v wr rd cb mo → va_P (dC, dI) vwCl (wSd cI cZ cJ sd_a w_a v_a (wr_a 0) (rd_a 0) (cu_a 0) (sp_a 0) sd ++ wSy cI cZ cJ cu_a cu ++ wSy cI cZ cJ sp_a sp ++ wBr cI cZ cJ w_a w_b w ++ wBr cI cZ cJ v_a v_b v ++ wWr cI cZ cJ wr_a (cb_a 0) wr ++ wRd cI cZ cJ rd_a (cb_a 0) rd ++ wCb cI cZ cJ cb_a w_a v_a cb ++ wMo cI cZ cJ mo_a mo ++ wOu cI cZ cJ ou_a ou) H → va_D A (wSd cI cZ cJ sd_a w_a v_a (wr_a 0) (rd_a 0) (cu_a 0) (sp_a 0) sd ++ wSy cI cZ cJ cu_a cu ++ wSy cI cZ cJ sp_a sp ++ wBr cI cZ cJ w_a w_b w ++ wBr cI cZ cJ v_a v_b v ++ wWr cI cZ cJ wr_a (cb_a 0) wr ++ wRd cI cZ cJ rd_a (cb_a 0) rd ++ wCb cI cZ cJ cb_a w_a v_a cb ++ wMo cI cZ cJ mo_a mo ++ wOu cI cZ cJ ou_a ou) → va_S A s.heap H locs → lv_has ls 7 [(0, .ref b), (1, .ref (sd_a 0)), (2, .ref (mo_a 0)), (3, .ref (ou_a 0)), (4, .int (nI (5 * k + 1)))] → W p l e R s m args below meth c H locs (j + Br_byL w + Br_byL v) (6 * j + 2 * Br_byL w + 2 * Br_byL v) Q (F0 m 33 ls []) := by
  have hbA : ¬ A b := fun h => absurd (hA2 b h) (Nat.not_le.mpr hbl)
  intro n
  induction n with
  | zero =>
    intro k j cu_a sp_a w_b v_b cu sp w v wr rd cb mo ou H locs ls hn hk9 hj hR hP hD hS hl
    obtain ⟨hw0, hv0⟩ := hRb_C _ _ _ _ _ _ _ _ _ hR
    refine lv_iload hx hb d_law_33 (lv_at hl 4 rfl) ?_
    refine lv_aload_n hx hb d_law_35 rfl (lv_at hl 0 rfl) ?_
    refine va_slen hx hb hX0 hbl hbA hS d_law_36 ?_
    refine lv_iconst (v := 5) hx hb d_law_37 (by decide) ?_
    refine lv_isub hx hb d_law_38 ?_
    rcases (Decidable.em (5 * k + 6 ≤ L)).symm with hlt | hlt
    · have hk5 : nI L - 5 < nI (5 * k + 1) := law_out hL hk9 hlt
      refine lv_icmp_gt (tgt := 1137) hx hb d_law_39 (by decide) (fun _ => ?_) (fun h9 => absurd hk5 h9)
      exact hend _ _ _ _ _ (by omega) (by omega) hS
    · exact absurd hn (by omega)
  | succ n ih =>
    intro k j cu_a sp_a w_b v_b cu sp w v wr rd cb mo ou H locs ls hn hk9 hj hR hP hD hS hl
    obtain ⟨hw0, hv0⟩ := hRb_C _ _ _ _ _ _ _ _ _ hR
    refine lv_iload hx hb d_law_33 (lv_at hl 4 rfl) ?_
    refine lv_aload_n hx hb d_law_35 rfl (lv_at hl 0 rfl) ?_
    refine va_slen hx hb hX0 hbl hbA hS d_law_36 ?_
    refine lv_iconst (v := 5) hx hb d_law_37 (by decide) ?_
    refine lv_isub hx hb d_law_38 ?_
    rcases (Decidable.em (5 * k + 6 ≤ L)).symm with hlt | hlt
    · have hk5 : nI L - 5 < nI (5 * k + 1) := law_out hL hk9 hlt
      refine lv_icmp_gt (tgt := 1137) hx hb d_law_39 (by decide) (fun _ => ?_) (fun h9 => absurd hk5 h9)
      exact hend _ _ _ _ _ (by omega) (by omega) hS
    have hk5 : ¬ nI L - 5 < nI (5 * k + 1) := law_in hL hk9 hlt
    refine lv_icmp_gt (tgt := 1137) hx hb d_law_39 (by decide) (fun h9 => absurd h9 hk5) (fun _ => ?_)
    have hin : ∀ q : Int32, 0 ≤ q → q < 5 → vp_in (nI (5 * k + 1) + q) L := law_ix hL hlt
    refine lv_aload_n hx hb d_law_42 rfl (lv_at hl 0 rfl) ?_
    refine lv_iload hx hb d_law_43 (lv_at hl 4 rfl) ?_
    refine va_sld hx hb hX0 hbl hbA hS (vp_in_nI (by omega) (by omega)) d_law_45 ?_
    refine lv_bipush (v := 31) hx hb d_law_46 (by decide) ?_
    refine lv_iand hx hb d_law_48 ?_
    have C0 := hC (nI (5 * k + 1)) j hin (by omega)
    have hk : ∀ (H : Heap) (locs : List Loc) (ls : Array Slot) (cu_a sp_a : Nat → Nat) (w_b v_b : Nat) (cu sp : Sy) (w v : Br) (wr : Wr) (rd : Rd) (cb : Cb) (mo : Mo) (ou : Ou), Rl_C sd cu sp w v wr rd cb mo → va_P (dC, dI) vwCl (wSd cI cZ cJ sd_a w_a v_a (wr_a 0) (rd_a 0) (cu_a 0) (sp_a 0) sd ++ wSy cI cZ cJ cu_a cu ++ wSy cI cZ cJ sp_a sp ++ wBr cI cZ cJ w_a w_b w ++ wBr cI cZ cJ v_a v_b v ++ wWr cI cZ cJ wr_a (cb_a 0) wr ++ wRd cI cZ cJ rd_a (cb_a 0) rd ++ wCb cI cZ cJ cb_a w_a v_a cb ++ wMo cI cZ cJ mo_a mo ++ wOu cI cZ cJ ou_a ou) H → va_D A (wSd cI cZ cJ sd_a w_a v_a (wr_a 0) (rd_a 0) (cu_a 0) (sp_a 0) sd ++ wSy cI cZ cJ cu_a cu ++ wSy cI cZ cJ sp_a sp ++ wBr cI cZ cJ w_a w_b w ++ wBr cI cZ cJ v_a v_b v ++ wWr cI cZ cJ wr_a (cb_a 0) wr ++ wRd cI cZ cJ rd_a (cb_a 0) rd ++ wCb cI cZ cJ cb_a w_a v_a cb ++ wMo cI cZ cJ mo_a mo ++ wOu cI cZ cJ ou_a ou) → va_S A s.heap H locs → lv_has ls 7 [(0, .ref b), (1, .ref (sd_a 0)), (2, .ref (mo_a 0)), (3, .ref (ou_a 0)), (4, .int (nI (5 * k + 1)))] → W p l e R s m args below meth c H locs (j + 1 + Br_byL w + Br_byL v) (6 * (j + 1) + 2 * Br_byL w + 2 * Br_byL v) Q (F0 m 1131 ls []) := by
      intro H locs ls cu_a sp_a w_b v_b cu sp w v wr rd cb mo ou hR hP hD hS hl
      refine lv_iinc (v := nI (5 * (k + 1) + 1)) (lv' := [(4, .int (nI (5 * (k + 1) + 1))), (0, .ref b), (1, .ref (sd_a 0)), (2, .ref (mo_a 0)), (3, .ref (ou_a 0))]) hx hb d_law_1131 hl (k := 4) rfl (law_inc k) (by decide) rfl (fun ls hl => ?_)
      refine lv_goto (tgt := 33) hx hb d_law_1134 (by decide) ?_
      exact ih (k + 1) (j + 1) cu_a sp_a w_b v_b cu sp w v wr rd cb mo ou H locs ls (by omega) (by omega) (by omega) hR hP hD hS (lv_sub hl [1, 2, 3, 4, 0] rfl)
    generalize (xs (nI (5 * k + 1)).toNatClampNeg) &&& 31 = x
    have hsw : (x.toInt < 0 ∨ 16 < x.toInt) ∨ x.toInt = 0 ∨ x.toInt = 1 ∨ x.toInt = 2 ∨ x.toInt = 3 ∨ x.toInt = 4 ∨ x.toInt = 5 ∨ x.toInt = 6 ∨ x.toInt = 7 ∨ x.toInt = 8 ∨ x.toInt = 9 ∨ x.toInt = 10 ∨ x.toInt = 11 ∨ x.toInt = 12 ∨ x.toInt = 13 ∨ x.toInt = 14 ∨ x.toInt = 15 ∨ x.toInt = 16 := by omega
    rcases hsw with h | h | h | h | h | h | h | h | h | h | h | h | h | h | h | h | h | h
    · refine lv_tableOut (tgt := 1131) hx hb d_law_49 h (by decide) ?_
      refine W.widen (k := j + 1 + Br_byL w + Br_byL v) (n := 6 * (j + 1) + 2 * Br_byL w + 2 * Br_byL v) (by omega) (by omega) ?_
      exact hk H locs ls cu_a sp_a w_b v_b cu sp w v wr rd cb mo ou hR hP hD hS hl
    · refine lv_tableIn (tgt := 132) hx hb d_law_49 (by rw [h]; decide) (by rw [h]; decide) (by rw [h]; rfl) (by decide) ?_
      exact L_C_symbol hl9 C0 hRb_C hR (t_C_symbol hR _ _) hk hP hD hS hl
    · refine lv_tableIn (tgt := 200) hx hb d_law_49 (by rw [h]; decide) (by rw [h]; decide) (by rw [h]; rfl) (by decide) ?_
      exact L_C_put hl9 C0 hRb_C hR (t_C_put hR _ _ _ _) hk hP hD hS hl
    · refine lv_tableIn (tgt := 315) hx hb d_law_49 (by rw [h]; decide) (by rw [h]; decide) (by rw [h]; rfl) (by decide) ?_
      exact L_C_row hl9 C0 hRb_C hR (t_C_row hR _ _ _) hk hP hD hS hl
    · refine lv_tableIn (tgt := 395) hx hb d_law_49 (by rw [h]; decide) (by rw [h]; decide) (by rw [h]; rfl) (by decide) ?_
      exact L_C_at hl9 C0 hRb_C hR (t_C_at hR _ _ _) hk hP hD hS hl
    · refine lv_tableIn (tgt := 482) hx hb d_law_49 (by rw [h]; decide) (by rw [h]; decide) (by rw [h]; rfl) (by decide) ?_
      exact L_C_refined hl9 C0 hRb_C hR (t_C_refined hR _ _ _ _) hk hP hD hS hl
    · refine lv_tableIn (tgt := 574) hx hb d_law_49 (by rw [h]; decide) (by rw [h]; decide) (by rw [h]; rfl) (by decide) ?_
      exact L_C_export hl9 C0 hRb_C hR (t_C_export hR _ _) hk hP hD hS hl
    · refine lv_tableIn (tgt := 665) hx hb d_law_49 (by rw [h]; decide) (by rw [h]; decide) (by rw [h]; rfl) (by decide) ?_
      exact L_C_write hl9 C0 hRb_C hR (t_C_write hR) hk hP hD hS hl
    · refine lv_tableIn (tgt := 678) hx hb d_law_49 (by rw [h]; decide) (by rw [h]; decide) (by rw [h]; rfl) (by decide) ?_
      exact L_C_byteAt hl9 C0 hRb_C hR (t_C_byteAt hR _) hk hP hD hS hl
    · refine lv_tableIn (tgt := 734) hx hb d_law_49 (by rw [h]; decide) (by rw [h]; decide) (by rw [h]; rfl) (by decide) ?_
      exact L_C_feed hl9 C0 hRb_C hR (t_C_feed hR _) hk hP hD hS hl
    · refine lv_tableIn (tgt := 790) hx hb d_law_49 (by rw [h]; decide) (by rw [h]; decide) (by rw [h]; rfl) (by decide) ?_
      exact L_C_pass hl9 C0 hRb_C hR (t_C_pass hR) hk hP hD hS hl
    · refine lv_tableIn (tgt := 834) hx hb d_law_49 (by rw [h]; decide) (by rw [h]; decide) (by rw [h]; rfl) (by decide) ?_
      exact L_C_read hl9 C0 hRb_C hR (t_C_read hR) hk hP hD hS hl
    · refine lv_tableIn (tgt := 847) hx hb d_law_49 (by rw [h]; decide) (by rw [h]; decide) (by rw [h]; rfl) (by decide) ?_
      exact L_C_told hl9 C0 hRb_C hR (t_C_told hR _ _) hk hP hD hS hl
    · refine lv_tableIn (tgt := 915) hx hb d_law_49 (by rw [h]; decide) (by rw [h]; decide) (by rw [h]; rfl) (by decide) ?_
      exact L_C_likeness hl9 C0 hRb_C hR (t_C_likeness hR _ _) hk hP hD hS hl
    · refine lv_tableIn (tgt := 983) hx hb d_law_49 (by rw [h]; decide) (by rw [h]; decide) (by rw [h]; rfl) (by decide) ?_
      exact L_C_classes hl9 C0 hRb_C hR (t_C_classes hR _) hk hP hD hS hl
    · refine lv_tableIn (tgt := 1039) hx hb d_law_49 (by rw [h]; decide) (by rw [h]; decide) (by rw [h]; rfl) (by decide) ?_
      exact L_C_cls hl9 C0 hRb_C hR (t_C_cls hR _) hk hP hD hS hl
    · refine lv_tableIn (tgt := 1095) hx hb d_law_49 (by rw [h]; decide) (by rw [h]; decide) (by rw [h]; rfl) (by decide) ?_
      exact L_C_count hl9 C0 hRb_C hR (t_C_count hR _) hk hP hD hS hl
    · refine lv_tableIn (tgt := 1120) hx hb d_law_49 (by rw [h]; decide) (by rw [h]; decide) (by rw [h]; rfl) (by decide) ?_
      exact L_C_clear hl9 C0 hRb_C hR (t_C_clear hR) hk hP hD hS hl
