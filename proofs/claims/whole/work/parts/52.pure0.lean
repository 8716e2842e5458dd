section
variable {p : Program} {l : Launch} {e : Env} {R : Room} {s : State} {m : MethodId} {args : Array Value} {below : List Frame} {meth : Method} {c : Code} {Q : State → Prop} {A : Nat → Prop}
set_option maxHeartbeats 4000000 in
set_option maxRecDepth 100000 in
theorem B0_Symbols_comesBefore {cells slots : Nat} {dC : Nat → ClassId} {dI : Nat → Nat → Nat} {cI cZ cJ : ClassId} {sy_a : Nat → Nat} {sy : Sy} {x1 : Int32} {x2 : Int32} {res : Int32} {H : Heap} {locs : List Loc} {ls : Array Slot} (C0 : cxt p c m s args R cells slots R_Symbols c_Symbols_comesBefore tb 3 (dC, dI) vwCl (TYS cI cZ cJ) A 0 0)
    (hr35 : ∀ (ls : Array Slot) (v : Int32), vp_nar .boolean v = v → some v = some res → W p l e R s m args below meth c H locs cells slots Q (F0 m 35 ls [.int v]))
    (hr71 : ∀ (ls : Array Slot) (v : Int32), vp_nar .boolean v = v → some v = some res → W p l e R s m args below meth c H locs cells slots Q (F0 m 71 ls [.int v]))
    (hr82 : ∀ (ls : Array Slot) (v : Int32), vp_nar .boolean v = v → some v = some res → W p l e R s m args below meth c H locs cells slots Q (F0 m 82 ls [.int v]))
    (hP : va_P (dC, dI) vwCl (wSy cI cZ cJ sy_a sy) H) (hl : lv_has ls 3 [(0, .ref (sy_a 0)), (1, .int x1), (2, .int x2)]) (hf : f_Symbols_comesBefore sy x1 x2 = some res) : W p l e R s m args below meth c H locs cells slots Q (F0 m 0 ls []) := by
  obtain ⟨hx, hb, hml, hown, hts, hK, hA, hRf, hRl, hN, hRc⟩ := id C0
  rw [f_Symbols_comesBefore] at hf
  refine lv_aload_n hx hb d_Symbols_comesBefore_0 rfl (lv_at hl 0 rfl) ?_
  refine va_get (D := (dC, dI)) (ci := 0) (v := .ref (sy_a 2)) (C := R_Symbols) (T := T_Symbols) (N := 10) hx hb hts in_Symbols hown hK hP 0 rfl rfl 1 (by decide) (hts _ t_210) (fun _ h9 => h9) rfl d_Symbols_comesBefore_1 ?_
  refine lv_iload_n hx hb d_Symbols_comesBefore_4 rfl (lv_at hl 1 rfl) ?_
  obtain ⟨h_1, hf⟩ := gd_ex hf
  refine va_iald (f := Sy_ht sy) hx hb hK hP 2 0 rfl rfl (inb_in h_1) d_Symbols_comesBefore_5 ?_
  refine lv_aload_n hx hb d_Symbols_comesBefore_6 rfl (lv_at hl 0 rfl) ?_
  refine va_get (D := (dC, dI)) (ci := 0) (v := .ref (sy_a 2)) (C := R_Symbols) (T := T_Symbols) (N := 10) hx hb hts in_Symbols hown hK hP 0 rfl rfl 1 (by decide) (hts _ t_210) (fun _ h9 => h9) rfl d_Symbols_comesBefore_7 ?_
  refine lv_iload_n hx hb d_Symbols_comesBefore_10 rfl (lv_at hl 2 rfl) ?_
  obtain ⟨h_2, hf⟩ := gd_ex hf
  refine va_iald (f := Sy_ht sy) hx hb hK hP 2 0 rfl rfl (inb_in h_2) d_Symbols_comesBefore_11 ?_
  refine lv_icmp_eq (tgt := 36) hx hb d_Symbols_comesBefore_12 (by decide) (fun c_3 => ?_) (fun c_3 => ?_)
  · rw [if_pos c_3] at hf
    refine lv_aload_n hx hb d_Symbols_comesBefore_36 rfl (lv_at hl 0 rfl) ?_
    refine va_get (D := (dC, dI)) (ci := 0) (v := .ref (sy_a 1)) (C := R_Symbols) (T := T_Symbols) (N := 10) hx hb hts in_Symbols hown hK hP 0 rfl rfl 0 (by decide) (hts _ t_206) (fun _ h9 => h9) rfl d_Symbols_comesBefore_37 ?_
    refine lv_iload_n hx hb d_Symbols_comesBefore_40 rfl (lv_at hl 1 rfl) ?_
    obtain ⟨h_4, hf⟩ := gd_ex hf
    refine va_iald (f := Sy_wd sy) hx hb hK hP 1 0 rfl rfl (inb_in h_4) d_Symbols_comesBefore_41 ?_
    refine lv_aload_n hx hb d_Symbols_comesBefore_42 rfl (lv_at hl 0 rfl) ?_
    refine va_get (D := (dC, dI)) (ci := 0) (v := .ref (sy_a 1)) (C := R_Symbols) (T := T_Symbols) (N := 10) hx hb hts in_Symbols hown hK hP 0 rfl rfl 0 (by decide) (hts _ t_206) (fun _ h9 => h9) rfl d_Symbols_comesBefore_43 ?_
    refine lv_iload_n hx hb d_Symbols_comesBefore_46 rfl (lv_at hl 2 rfl) ?_
    obtain ⟨h_5, hf⟩ := gd_ex hf
    refine va_iald (f := Sy_wd sy) hx hb hK hP 1 0 rfl rfl (inb_in h_5) d_Symbols_comesBefore_47 ?_
    refine lv_icmp_eq (tgt := 72) hx hb d_Symbols_comesBefore_48 (by decide) (fun c_6 => ?_) (fun c_6 => ?_)
    · rw [if_pos c_6] at hf
      refine lv_iload_n hx hb d_Symbols_comesBefore_72 rfl (lv_at hl 1 rfl) ?_
      refine lv_iload_n hx hb d_Symbols_comesBefore_73 rfl (lv_at hl 2 rfl) ?_
      refine lv_icmp_ge (tgt := 81) hx hb d_Symbols_comesBefore_74 (by decide) (fun c_7 => ?_) (fun c_7 => ?_)
      · rw [if_pos c_7] at hf
        refine lv_iconst (v := 0) hx hb d_Symbols_comesBefore_81 (by decide) ?_
        exact hr82 _ 0 (by decide) hf
      · rw [if_neg c_7] at hf
        refine lv_iconst (v := 1) hx hb d_Symbols_comesBefore_77 (by decide) ?_
        refine lv_goto (tgt := 82) hx hb d_Symbols_comesBefore_78 (by decide) ?_
        exact hr82 _ 1 (by decide) hf
    · rw [if_neg c_6] at hf
      refine lv_aload_n hx hb d_Symbols_comesBefore_51 rfl (lv_at hl 0 rfl) ?_
      refine va_get (D := (dC, dI)) (ci := 0) (v := .ref (sy_a 1)) (C := R_Symbols) (T := T_Symbols) (N := 10) hx hb hts in_Symbols hown hK hP 0 rfl rfl 0 (by decide) (hts _ t_206) (fun _ h9 => h9) rfl d_Symbols_comesBefore_52 ?_
      refine lv_iload_n hx hb d_Symbols_comesBefore_55 rfl (lv_at hl 1 rfl) ?_
      obtain ⟨h_8, hf⟩ := gd_ex hf
      refine va_iald (f := Sy_wd sy) hx hb hK hP 1 0 rfl rfl (inb_in h_8) d_Symbols_comesBefore_56 ?_
      refine lv_aload_n hx hb d_Symbols_comesBefore_57 rfl (lv_at hl 0 rfl) ?_
      refine va_get (D := (dC, dI)) (ci := 0) (v := .ref (sy_a 1)) (C := R_Symbols) (T := T_Symbols) (N := 10) hx hb hts in_Symbols hown hK hP 0 rfl rfl 0 (by decide) (hts _ t_206) (fun _ h9 => h9) rfl d_Symbols_comesBefore_58 ?_
      refine lv_iload_n hx hb d_Symbols_comesBefore_61 rfl (lv_at hl 2 rfl) ?_
      obtain ⟨h_9, hf⟩ := gd_ex hf
      refine va_iald (f := Sy_wd sy) hx hb hK hP 1 0 rfl rfl (inb_in h_9) d_Symbols_comesBefore_62 ?_
      refine lv_icmp_ge (tgt := 70) hx hb d_Symbols_comesBefore_63 (by decide) (fun c_10 => ?_) (fun c_10 => ?_)
      · rw [if_pos c_10] at hf
        refine lv_iconst (v := 0) hx hb d_Symbols_comesBefore_70 (by decide) ?_
        exact hr71 _ 0 (by decide) hf
      · rw [if_neg c_10] at hf
        refine lv_iconst (v := 1) hx hb d_Symbols_comesBefore_66 (by decide) ?_
        refine lv_goto (tgt := 71) hx hb d_Symbols_comesBefore_67 (by decide) ?_
        exact hr71 _ 1 (by decide) hf
  · rw [if_neg c_3] at hf
    refine lv_aload_n hx hb d_Symbols_comesBefore_15 rfl (lv_at hl 0 rfl) ?_
    refine va_get (D := (dC, dI)) (ci := 0) (v := .ref (sy_a 2)) (C := R_Symbols) (T := T_Symbols) (N := 10) hx hb hts in_Symbols hown hK hP 0 rfl rfl 1 (by decide) (hts _ t_210) (fun _ h9 => h9) rfl d_Symbols_comesBefore_16 ?_
    refine lv_iload_n hx hb d_Symbols_comesBefore_19 rfl (lv_at hl 1 rfl) ?_
    obtain ⟨h_11, hf⟩ := gd_ex hf
    refine va_iald (f := Sy_ht sy) hx hb hK hP 2 0 rfl rfl (inb_in h_11) d_Symbols_comesBefore_20 ?_
    refine lv_aload_n hx hb d_Symbols_comesBefore_21 rfl (lv_at hl 0 rfl) ?_
    refine va_get (D := (dC, dI)) (ci := 0) (v := .ref (sy_a 2)) (C := R_Symbols) (T := T_Symbols) (N := 10) hx hb hts in_Symbols hown hK hP 0 rfl rfl 1 (by decide) (hts _ t_210) (fun _ h9 => h9) rfl d_Symbols_comesBefore_22 ?_
    refine lv_iload_n hx hb d_Symbols_comesBefore_25 rfl (lv_at hl 2 rfl) ?_
    obtain ⟨h_12, hf⟩ := gd_ex hf
    refine va_iald (f := Sy_ht sy) hx hb hK hP 2 0 rfl rfl (inb_in h_12) d_Symbols_comesBefore_26 ?_
    refine lv_icmp_ge (tgt := 34) hx hb d_Symbols_comesBefore_27 (by decide) (fun c_13 => ?_) (fun c_13 => ?_)
    · rw [if_pos c_13] at hf
      refine lv_iconst (v := 0) hx hb d_Symbols_comesBefore_34 (by decide) ?_
      exact hr35 _ 0 (by decide) hf
    · rw [if_neg c_13] at hf
      refine lv_iconst (v := 1) hx hb d_Symbols_comesBefore_30 (by decide) ?_
      refine lv_goto (tgt := 35) hx hb d_Symbols_comesBefore_31 (by decide) ?_
      exact hr35 _ 1 (by decide) hf
end
set_option maxHeartbeats 4000000 in
set_option maxRecDepth 100000 in
/-- .. and the heap is as it was -/
theorem k0_Symbols_comesBefore (l : Launch) (dC : Nat → ClassId) (dI : Nat → Nat → Nat) (cI cZ cJ : ClassId) (sy_a : Nat → Nat) (sz : Nat) {sy : Sy} {x1 : Int32} {x2 : Int32} {r : Int32} (hf : f_Symbols_comesBefore sy x1 x2 = some r) :
    Met l y_Symbols_comesBefore ws_Symbols_comesBefore ({ frames := 0, cells := 0, slots := 0, locals := 0 }) (va_Pc [.ref (sy_a 0), .int x1, .int x2] (kP (dC, dI) vwCl (TYS cI cZ cJ) (wSy cI cZ cJ sy_a sy) sz)) (va_Qi (fun (q : Int32) (_ : Unit) => q = r) (fun _ _ => True) (fun q => sz ≤ q)) 0 0 (fun q => sz ≤ q) := by
  refine Met.ofW (cc := c_Symbols_comesBefore) (maxL := 3) (ret := (some .boolean)) (by decide) rfl ?_
  intro p e s m args below meth c s₁ B hml hv
  obtain ⟨rfl, hsz, hP, hK, hD0, hN⟩ := hv
  have hr := B.returns
  have hlocks := B.notSynchronized
  subst hsz
  have hl := lv_entry ([.ref (sy_a 0), .int x1, .int x2]) (n := 3) (Nat.le_of_ble_eq_true rfl)
  rw [lg_entry_eq]
  generalize (lg_sl ([.ref (sy_a 0), .int x1, .int x2]) ++ List.replicate (3 - (lg_sl ([.ref (sy_a 0), .int x1, .int x2])).length) Slot.unset).toArray = ls at hl ⊢
  refine B0_Symbols_comesBefore (A := fun q => s.heap.size ≤ q) ⟨B.exec, B.bytes, hml, findClass_of_methodNamed B.named, fun w h => atoms_spec (ws := ws_Symbols_comesBefore) B.pre w (List.mem_cons_of_mem _ h), hK, fun q h => h, Nat.le_of_ble_eq_true rfl, Nat.le_of_ble_eq_true rfl, hN, Nat.le_of_ble_eq_true rfl, Nat.le_of_ble_eq_true rfl⟩ (fun ls v hz hf => ?_) (fun ls v hz hf => ?_) (fun ls v hz hf => ?_) hP hl hf
  · cases hf
    exact W.zret B.exec B.bytes hr (nz_n hz) (fun t ht hW => ⟨⟨_, (), rfl, rfl, trivial⟩, ⟨by rw [ht]; exact Nat.le_refl _, fun q h1 h2 => by rw [ht]⟩⟩) (fun q h => nomatch h) d_Symbols_comesBefore_35
  · cases hf
    exact W.zret B.exec B.bytes hr (nz_n hz) (fun t ht hW => ⟨⟨_, (), rfl, rfl, trivial⟩, ⟨by rw [ht]; exact Nat.le_refl _, fun q h1 h2 => by rw [ht]⟩⟩) (fun q h => nomatch h) d_Symbols_comesBefore_71
  · cases hf
    exact W.zret B.exec B.bytes hr (nz_n hz) (fun t ht hW => ⟨⟨_, (), rfl, rfl, trivial⟩, ⟨by rw [ht]; exact Nat.le_refl _, fun q h1 h2 => by rw [ht]⟩⟩) (fun q h => nomatch h) d_Symbols_comesBefore_82

section
variable {p : Program} {l : Launch} {e : Env} {R : Room} {s : State} {m : MethodId} {args : Array Value} {below : List Frame} {meth : Method} {c : Code} {Q : State → Prop} {A : Nat → Prop}
set_option maxHeartbeats 4000000 in
set_option maxRecDepth 100000 in
theorem B0_SD_requireSymbol {cells slots : Nat} {dC : Nat → ClassId} {dI : Nat → Nat → Nat} {cI cZ cJ : ClassId} {sd_a : Nat → Nat} {cu_a : Nat → Nat} {lk_w : Nat} {lk_v : Nat} {lk_wr : Nat} {lk_rd : Nat} {lk_sp : Nat} {sd : Sd} {cu : Sy} {x1 : Int32} {res : Unit} {H : Heap} {locs : List Loc} {ls : Array Slot} (C0 : cxt p c m s args R cells slots R_SD c_SD_requireSymbol tb 2 (dC, dI) vwCl (TYS cI cZ cJ) A 0 0)
    (hr25 : ∀ (ls : Array Slot), some () = some res → W p l e R s m args below meth c H locs cells slots Q (F0 m 25 ls []))
    (hP : va_P (dC, dI) vwCl (wSd cI cZ cJ sd_a lk_w lk_v lk_wr lk_rd (cu_a 0) lk_sp sd ++ wSy cI cZ cJ cu_a cu) H) (hl : lv_has ls 2 [(0, .ref (sd_a 0)), (1, .int x1)]) (hf : f_SD_requireSymbol sd cu x1 = some res) : W p l e R s m args below meth c H locs cells slots Q (F0 m 0 ls []) := by
  obtain ⟨hx, hb, hml, hown, hts, hK, hA, hRf, hRl, hN, hRc⟩ := id C0
  rw [f_SD_requireSymbol] at hf
  refine lv_iload_n hx hb d_SD_requireSymbol_0 rfl (lv_at hl 1 rfl) ?_
  refine lv_if_lt (tgt := 15) hx hb d_SD_requireSymbol_1 (by decide) (fun c_1 => ?_) (fun c_1 => ?_)
  · rw [if_pos c_1] at hf
    exact absurd hf (by simp)
  · rw [if_neg c_1] at hf
    refine lv_iload_n hx hb d_SD_requireSymbol_4 rfl (lv_at hl 1 rfl) ?_
    refine lv_aload_n hx hb d_SD_requireSymbol_5 rfl (lv_at hl 0 rfl) ?_
    refine va_get (D := (dC, dI)) (ci := 6) (v := .ref (cu_a 0)) (C := R_SD) (T := T_SD) (N := 7) hx hb hts in_SD hown hK hP 0 rfl rfl 5 (by decide) (hts _ t_263) (fun _ h9 => h9) rfl d_SD_requireSymbol_6 ?_
    refine va_get (D := (dC, dI)) (ci := 0) (v := .int (Sy_n cu)) (C := R_Symbols) (T := T_Symbols) (N := 10) hx hb hts in_Symbols hown hK hP 1 rfl rfl 7 (by decide) (hts _ t_232) (fun _ h9 => h9) rfl d_SD_requireSymbol_9 ?_
    refine lv_icmp_lt (tgt := 25) hx hb d_SD_requireSymbol_12 (by decide) (fun c_2 => ?_) (fun c_2 => ?_)
    · rw [if_pos c_2] at hf
      exact hr25 _ hf
    · rw [if_neg c_2] at hf
      exact absurd hf (by simp)
end
set_option maxHeartbeats 4000000 in
set_option maxRecDepth 100000 in
/-- .. and the heap is as it was -/
theorem k0_SD_requireSymbol (l : Launch) (dC : Nat → ClassId) (dI : Nat → Nat → Nat) (cI cZ cJ : ClassId) (sd_a : Nat → Nat) (cu_a : Nat → Nat) (lk_w : Nat) (lk_v : Nat) (lk_wr : Nat) (lk_rd : Nat) (lk_sp : Nat) (sz : Nat) {sd : Sd} {cu : Sy} {x1 : Int32} (hf : f_SD_requireSymbol sd cu x1 = some ()) :
    Met l y_SD_requireSymbol ws_SD_requireSymbol ({ frames := 0, cells := 0, slots := 0, locals := 0 }) (va_Pc [.ref (sd_a 0), .int x1] (kP (dC, dI) vwCl (TYS cI cZ cJ) (wSd cI cZ cJ sd_a lk_w lk_v lk_wr lk_rd (cu_a 0) lk_sp sd ++ wSy cI cZ cJ cu_a cu) sz)) (va_Qv (fun (_ : Unit) => True) (fun _ _ => True) (fun q => sz ≤ q)) 0 0 (fun q => sz ≤ q) := by
  refine Met.ofW (cc := c_SD_requireSymbol) (maxL := 2) (ret := none) (by decide) rfl ?_
  intro p e s m args below meth c s₁ B hml hv
  obtain ⟨rfl, hsz, hP, hK, hD0, hN⟩ := hv
  have hr := B.returns
  have hlocks := B.notSynchronized
  subst hsz
  have hl := lv_entry ([.ref (sd_a 0), .int x1]) (n := 2) (Nat.le_of_ble_eq_true rfl)
  rw [lg_entry_eq]
  generalize (lg_sl ([.ref (sd_a 0), .int x1]) ++ List.replicate (2 - (lg_sl ([.ref (sd_a 0), .int x1])).length) Slot.unset).toArray = ls at hl ⊢
  refine B0_SD_requireSymbol (A := fun q => s.heap.size ≤ q) ⟨B.exec, B.bytes, hml, findClass_of_methodNamed B.named, fun w h => atoms_spec (ws := ws_SD_requireSymbol) B.pre w (List.mem_cons_of_mem _ h), hK, fun q h => h, Nat.le_of_ble_eq_true rfl, Nat.le_of_ble_eq_true rfl, hN, Nat.le_of_ble_eq_true rfl, Nat.le_of_ble_eq_true rfl⟩ (fun ls hf => ?_) hP hl hf
  · cases hf
    exact W.vret B.exec B.bytes hr (fun t ht hW => ⟨⟨(), rfl, trivial, trivial⟩, ⟨by rw [ht]; exact Nat.le_refl _, fun q h1 h2 => by rw [ht]⟩⟩) (fun q h => nomatch h) d_SD_requireSymbol_25
