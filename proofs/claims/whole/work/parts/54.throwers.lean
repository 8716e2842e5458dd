theorem t_668 : (.classLink R_SD 132 "java/lang/IndexOutOfBoundsException" : Cond) ∈ tb := List.mem_filter.mpr ⟨List.mem_of_getElem? (i := 668) (by decide +kernel), by decide +kernel⟩
theorem t_70 : (.initialized "java/lang/IndexOutOfBoundsException" : Cond) ∈ tb := List.mem_filter.mpr ⟨List.mem_of_getElem? (i := 70) (by decide +kernel), by decide +kernel⟩
theorem t_566 : (.classLink R_SD 68 "java/lang/IllegalArgumentException" : Cond) ∈ tb := List.mem_filter.mpr ⟨List.mem_of_getElem? (i := 566) (by decide +kernel), by decide +kernel⟩
theorem t_67 : (.initialized "java/lang/IllegalArgumentException" : Cond) ∈ tb := List.mem_filter.mpr ⟨List.mem_of_getElem? (i := 67) (by decide +kernel), by decide +kernel⟩
theorem t_635 : (.classLink R_SD 78 "java/lang/UnsupportedOperationException" : Cond) ∈ tb := List.mem_filter.mpr ⟨List.mem_of_getElem? (i := 635) (by decide +kernel), by decide +kernel⟩
theorem t_68 : (.initialized "java/lang/UnsupportedOperationException" : Cond) ∈ tb := List.mem_filter.mpr ⟨List.mem_of_getElem? (i := 68) (by decide +kernel), by decide +kernel⟩
theorem t_716 : (.classLink R_SD 118 "java/lang/IllegalStateException" : Cond) ∈ tb := List.mem_filter.mpr ⟨List.mem_of_getElem? (i := 716) (by decide +kernel), by decide +kernel⟩
theorem t_71 : (.initialized "java/lang/IllegalStateException" : Cond) ∈ tb := List.mem_filter.mpr ⟨List.mem_of_getElem? (i := 71) (by decide +kernel), by decide +kernel⟩
/-! runs that throw: the exception by its number, the start of such a run -/
def exN (n : Nat) : String := match n with
  | 1 => "java/lang/IllegalArgumentException"
  | 2 => "java/lang/IllegalStateException"
  | 3 => "java/lang/IndexOutOfBoundsException"
  | _ => "java/lang/UnsupportedOperationException"
/-- a callee throws, or else what follows does -/
def tc (a b : Option Nat) : Option Nat := match a with
  | some c => some c
  | none => b
theorem tc_none {b : Option Nat} {r : Nat} (h : tc none b = some r) : b = some r := h
def kPT (D : va_G) (cl : List vw_C) (tys : List (ClassId × FieldType)) (w : va_W) (sz : Nat) (U : State) : Prop := kP D cl tys w sz U ∧ kT U
theorem kPT_blind {D : va_G} {cl : List vw_C} {tys : List (ClassId × FieldType)} {w : va_W} {sz : Nat} {av : List Value} : FrameBlind (va_Pc av (kPT D cl tys w sz)) := by
  intro a U g mk q
  obtain ⟨q0, q1, q2⟩ := q
  exact ⟨q0, (kP_blind (av := av) a U g mk ⟨q0, q1⟩).2, kT_at (s := U) (U := U.calling g mk a) (State.WarmedH.refl U) (fun _ _ => rfl) q2⟩
theorem kPT_at {D : va_G} {cl : List vw_C} {tys : List (ClassId × FieldType)} {w : va_W} {H : Heap} {A : Nat → Prop} {s : State} {av : List Value} (hP : va_P D cl w H) (hK : va_K D cl tys s) (hD : va_D A w) (hN : kN s) (hS : va_S (fun q : Nat => s.heap.size ≤ q) s.heap H []) (hT : kT s) :
    ∀ U : State, U.heap = H → s.WarmedH U.vm → va_Pc av (kPT D cl tys w H.size) av.toArray U := fun U hU hW => by
  have h := kP_at (av := av) hP hK hD hN U hU hW
  exact ⟨h.1, h.2, kT_at hW (fun q hq => by rw [hU]; exact hS.2.1 q hq (Nat.not_le.mpr hq)) hT⟩
def e_SD_requireSymbol (sd : Sd) (cu : Sy) (x1 : Int32) : Option Nat := (if x1 < 0 then some 3 else (if x1 < (Sy_n cu) then none else some 3))
set_option maxHeartbeats 4000000 in
set_option maxRecDepth 100000 in
theorem kt_SD_requireSymbol (l : Launch) (hl9 : l.stackTraces = false) (dC : Nat → ClassId) (dI : Nat → Nat → Nat) (cI cZ cJ : ClassId) (sd_a : Nat → Nat) (cu_a : Nat → Nat) (lk_w : Nat) (lk_v : Nat) (lk_wr : Nat) (lk_rd : Nat) (lk_sp : Nat) (sz : Nat) {sd : Sd} {cu : Sy} {x1 : Int32} {res : Nat} (hf : e_SD_requireSymbol sd cu x1 = some res) :
    tMet l y_SD_requireSymbol ws_SD_requireSymbol ({ frames := 6, cells := 1, slots := 6, locals := 90 }) (va_Pc [.ref (sd_a 0), .int x1] (kPT (dC, dI) vwCl (TYS cI cZ cJ) (wSd cI cZ cJ sd_a lk_w lk_v lk_wr lk_rd (cu_a 0) lk_sp sd ++ wSy cI cZ cJ cu_a cu) sz)) (exN res) 1 6 := by
  refine tMet.ofW (cc := c_SD_requireSymbol) (maxL := 2) (ret := none) (by decide) rfl ?_
  intro p e s m args below meth c s₁ B hml hno hv
  obtain ⟨rfl, ⟨hsz, hP, hK, hD, hN⟩, hT⟩ := hv
  have hx := B.exec
  have hb := B.bytes
  have hlocks := B.notSynchronized
  have hown : s.vm.findClass R_SD = some m.cls := findClass_of_methodNamed B.named
  have hts : ∀ w ∈ tb, w.before (List.toArray [Value.ref (sd_a 0), Value.int x1]) s = true := fun w h => atoms_spec (ws := ws_SD_requireSymbol) B.pre w (List.mem_cons_of_mem _ h)
  have hl := lv_entry ([.ref (sd_a 0), .int x1]) (n := 2) (Nat.le_of_ble_eq_true rfl)
  rw [lg_entry_eq]
  generalize (lg_sl ([.ref (sd_a 0), .int x1]) ++ List.replicate (2 - (lg_sl ([.ref (sd_a 0), .int x1])).length) Slot.unset).toArray = ls at hl ⊢
  have hl : lv_has ls 2 [(0, .ref (sd_a 0)), (1, .int x1)] := hl
  have hS : va_S (fun q : Nat => s.heap.size ≤ q) s.heap s.heap [] := va_S.rf
  have hRf : 6 ≤ (headSpec ws_SD_requireSymbol ({ frames := 6, cells := 1, slots := 6, locals := 90 })).room.frames := Nat.le_refl _
  have hRl : 90 ≤ (headSpec ws_SD_requireSymbol ({ frames := 6, cells := 1, slots := 6, locals := 90 })).room.locals := Nat.le_refl _
  have hRc : 0 + 1 ≤ (headSpec ws_SD_requireSymbol ({ frames := 6, cells := 1, slots := 6, locals := 90 })).room.cells ∧ 0 + 6 ≤ (headSpec ws_SD_requireSymbol ({ frames := 6, cells := 1, slots := 6, locals := 90 })).room.slots := ⟨Nat.le_refl _, Nat.le_refl _⟩
  generalize (headSpec ws_SD_requireSymbol ({ frames := 6, cells := 1, slots := 6, locals := 90 })).room = R at hRf hRl hRc ⊢
  obtain ⟨H, hH⟩ : ∃ H, H = s.heap := ⟨_, rfl⟩
  rw [← hH] at hP
  have hS : va_S (fun q : Nat => s.heap.size ≤ q) s.heap H [] := by rw [hH]; exact hS
  show W p l e R s m (List.toArray [Value.ref (sd_a 0), Value.int x1]) below meth c s.heap [] 0 0 (tMQ below (exN res) (List.toArray [Value.ref (sd_a 0), Value.int x1]) s 1 6) _
  rw [show s.heap = H from hH.symm]
  rw [e_SD_requireSymbol] at hf
  refine lv_iload_n hx hb d_SD_requireSymbol_0 rfl (lv_at hl 1 rfl) ?_
  refine lv_if_lt (tgt := 15) hx hb d_SD_requireSymbol_1 (by decide) (fun c_1 => ?_) (fun c_1 => ?_)
  · rw [if_pos c_1] at hf
    obtain rfl : 3 = res := Option.some.inj hf
    obtain ⟨sa, hsa⟩ := hT.2.2.2.2 (198, "there is no such symbol") (by decide)
    exact t_throw (names := th_names) hx hb hl9 hown (by decide +kernel) (by decide +kernel) (hts _ t_668) (hts _ t_70) hsa (th_words th_all_136 hts (hts _ th_ini) hT) hS.1 (hl.1.trans hml.symm) d_SD_requireSymbol_15 d_SD_requireSymbol_18 d_SD_requireSymbol_19 d_SD_requireSymbol_21 d_SD_requireSymbol_24 (fun x h => absurd (hno x h) id) (Nat.lt_of_lt_of_le (by decide) hRf) (Nat.le_trans (Nat.le_of_ble_eq_true rfl) hRl) hRc.1 hRc.2 hlocks
  · rw [if_neg c_1] at hf
    refine lv_iload_n hx hb d_SD_requireSymbol_4 rfl (lv_at hl 1 rfl) ?_
    refine lv_aload_n hx hb d_SD_requireSymbol_5 rfl (lv_at hl 0 rfl) ?_
    refine va_get (D := (dC, dI)) (ci := 6) (v := .ref (cu_a 0)) (C := R_SD) (T := T_SD) (N := 7) hx hb hts in_SD hown hK hP 0 rfl rfl 5 (by decide) (hts _ t_263) (fun _ h9 => h9) rfl d_SD_requireSymbol_6 ?_
    refine va_get (D := (dC, dI)) (ci := 0) (v := .int (Sy_n cu)) (C := R_Symbols) (T := T_Symbols) (N := 10) hx hb hts in_Symbols hown hK hP 1 rfl rfl 7 (by decide) (hts _ t_232) (fun _ h9 => h9) rfl d_SD_requireSymbol_9 ?_
    refine lv_icmp_lt (tgt := 25) hx hb d_SD_requireSymbol_12 (by decide) (fun c_2 => ?_) (fun c_2 => ?_)
    · rw [if_pos c_2] at hf
      exact absurd hf (by simp)
    · rw [if_neg c_2] at hf
      obtain rfl : 3 = res := Option.some.inj hf
      obtain ⟨sa, hsa⟩ := hT.2.2.2.2 (198, "there is no such symbol") (by decide)
      exact t_throw (names := th_names) hx hb hl9 hown (by decide +kernel) (by decide +kernel) (hts _ t_668) (hts _ t_70) hsa (th_words th_all_136 hts (hts _ th_ini) hT) hS.1 (hl.1.trans hml.symm) d_SD_requireSymbol_15 d_SD_requireSymbol_18 d_SD_requireSymbol_19 d_SD_requireSymbol_21 d_SD_requireSymbol_24 (fun x h => absurd (hno x h) id) (Nat.lt_of_lt_of_le (by decide) hRf) (Nat.le_trans (Nat.le_of_ble_eq_true rfl) hRl) hRc.1 hRc.2 hlocks

def e_SD_requireSample (sd : Sd) (cu : Sy) (x1 : Int32) (x2 : Int32) (x3 : Int32) : Option Nat := tc (e_SD_requireSymbol sd cu x1) <| bd (f_SD_requireSymbol sd cu x1) <| fun _ => (if x2 < 0 then some 3 else gd (inb x1 40) <| (if (Sy_wd cu x1.toNatClampNeg) ≤ x2 then some 3 else (if x3 < 0 then some 3 else gd (inb x1 40) <| (if x3 < (Sy_ht cu x1.toNatClampNeg) then none else some 3))))
set_option maxHeartbeats 4000000 in
set_option maxRecDepth 100000 in
theorem kt_SD_requireSample (l : Launch) (hl9 : l.stackTraces = false) (dC : Nat → ClassId) (dI : Nat → Nat → Nat) (cI cZ cJ : ClassId) (sd_a : Nat → Nat) (cu_a : Nat → Nat) (lk_w : Nat) (lk_v : Nat) (lk_wr : Nat) (lk_rd : Nat) (lk_sp : Nat) (sz : Nat) {sd : Sd} {cu : Sy} {x1 : Int32} {x2 : Int32} {x3 : Int32} {res : Nat} (hf : e_SD_requireSample sd cu x1 x2 x3 = some res) :
    tMet l y_SD_requireSample ws_SD_requireSample ({ frames := 7, cells := 1, slots := 6, locals := 111 }) (va_Pc [.ref (sd_a 0), .int x1, .int x2, .int x3] (kPT (dC, dI) vwCl (TYS cI cZ cJ) (wSd cI cZ cJ sd_a lk_w lk_v lk_wr lk_rd (cu_a 0) lk_sp sd ++ wSy cI cZ cJ cu_a cu) sz)) (exN res) 1 6 := by
  refine tMet.ofW (cc := c_SD_requireSample) (maxL := 4) (ret := none) (by decide) rfl ?_
  intro p e s m args below meth c s₁ B hml hno hv
  obtain ⟨rfl, ⟨hsz, hP, hK, hD, hN⟩, hT⟩ := hv
  have hx := B.exec
  have hb := B.bytes
  have hlocks := B.notSynchronized
  have hown : s.vm.findClass R_SD = some m.cls := findClass_of_methodNamed B.named
  have hts : ∀ w ∈ tb, w.before (List.toArray [Value.ref (sd_a 0), Value.int x1, Value.int x2, Value.int x3]) s = true := fun w h => atoms_spec (ws := ws_SD_requireSample) B.pre w (List.mem_cons_of_mem _ h)
  have hl := lv_entry ([.ref (sd_a 0), .int x1, .int x2, .int x3]) (n := 4) (Nat.le_of_ble_eq_true rfl)
  rw [lg_entry_eq]
  generalize (lg_sl ([.ref (sd_a 0), .int x1, .int x2, .int x3]) ++ List.replicate (4 - (lg_sl ([.ref (sd_a 0), .int x1, .int x2, .int x3])).length) Slot.unset).toArray = ls at hl ⊢
  have hl : lv_has ls 4 [(0, .ref (sd_a 0)), (1, .int x1), (2, .int x2), (3, .int x3)] := hl
  have hS : va_S (fun q : Nat => s.heap.size ≤ q) s.heap s.heap [] := va_S.rf
  have hRf : 7 ≤ (headSpec ws_SD_requireSample ({ frames := 7, cells := 1, slots := 6, locals := 111 })).room.frames := Nat.le_refl _
  have hRl : 111 ≤ (headSpec ws_SD_requireSample ({ frames := 7, cells := 1, slots := 6, locals := 111 })).room.locals := Nat.le_refl _
  have hRc : 0 + 1 ≤ (headSpec ws_SD_requireSample ({ frames := 7, cells := 1, slots := 6, locals := 111 })).room.cells ∧ 0 + 6 ≤ (headSpec ws_SD_requireSample ({ frames := 7, cells := 1, slots := 6, locals := 111 })).room.slots := ⟨Nat.le_refl _, Nat.le_refl _⟩
  generalize (headSpec ws_SD_requireSample ({ frames := 7, cells := 1, slots := 6, locals := 111 })).room = R at hRf hRl hRc ⊢
  obtain ⟨H, hH⟩ : ∃ H, H = s.heap := ⟨_, rfl⟩
  rw [← hH] at hP
  have hS : va_S (fun q : Nat => s.heap.size ≤ q) s.heap H [] := by rw [hH]; exact hS
  show W p l e R s m (List.toArray [Value.ref (sd_a 0), Value.int x1, Value.int x2, Value.int x3]) below meth c s.heap [] 0 0 (tMQ below (exN res) (List.toArray [Value.ref (sd_a 0), Value.int x1, Value.int x2, Value.int x3]) s 1 6) _
  rw [show s.heap = H from hH.symm]
  rw [e_SD_requireSample] at hf
  refine lv_aload_n hx hb d_SD_requireSample_0 rfl (lv_at hl 0 rfl) ?_
  refine lv_iload_n hx hb d_SD_requireSample_1 rfl (lv_at hl 1 rfl) ?_
  have hPc := hP.sub (ws' := (wSd cI cZ cJ sd_a lk_w lk_v lk_wr lk_rd (cu_a 0) lk_sp sd ++ wSy cI cZ cJ cu_a cu)) [0, 1, 2, 3, 4, 5, 6, 7, 8, 9, 10] rfl
  have hDc := hD.sub (ws' := (wSd cI cZ cJ sd_a lk_w lk_v lk_wr lk_rd (cu_a 0) lk_sp sd ++ wSy cI cZ cJ cu_a cu)) [0, 1, 2, 3, 4, 5, 6, 7, 8, 9, 10] (by decide) rfl
  cases hc_1 : e_SD_requireSymbol sd cu x1 with
  | some c9 =>
    rw [hc_1] at hf
    obtain rfl : c9 = res := Option.some.inj hf
    refine t_run (E := exN c9) (As := [.int x1]) (rest := []) ⟨hx, hb, hml, hown, hts⟩ (kt_SD_requireSymbol l hl9 dC dI cI cZ cJ sd_a cu_a lk_w lk_v lk_wr lk_rd lk_sp _ hc_1) (cwV 1 hts (gV t_664 t_666 t_21 t_54 t_667) rfl rfl rfl hd_SD_requireSymbol ⟨Nat.le_trans (Nat.le_of_ble_eq_true rfl) hRf, Nat.le_trans (Nat.le_of_ble_eq_true rfl) hRl⟩) ⟨kPT_blind, va_recv hK hP (ci := 6) (q0 := 0) rfl rfl, kPT_at hPc hK hDc hN hS hT⟩ rfl hl.1 rfl (lv_room (Nat.le_of_ble_eq_true rfl)) d_SD_requireSample_2 hRc (fun q ce H1 h1 h2 hq hv hcl => ?_)
    exact t_out (fun x h => absurd (hno x h) id) hlocks hq hv hcl
  | none =>
    rw [hc_1] at hf
    have hf := tc_none hf
    obtain ⟨_, hf1, hf⟩ := bd_ex hf
    try dsimp only at hf
    refine va_callv (va_runV (As := [.int x1]) (rest := []) ⟨hx, hb, hml, hown, hts⟩ (k0_SD_requireSymbol l dC dI cI cZ cJ sd_a cu_a lk_w lk_v lk_wr lk_rd lk_sp _ hf1) (cwV 1 hts (gV t_664 t_666 t_21 t_54 t_667) rfl rfl rfl hd_SD_requireSymbol ⟨Nat.le_trans (Nat.le_of_ble_eq_true rfl) hRf, Nat.le_trans (Nat.le_of_ble_eq_true rfl) hRl⟩) ⟨kP_blind, va_recv hK hP (ci := 6) (q0 := 0) rfl rfl, kP_at hPc hK hDc hN⟩ rfl rfl hl.1 rfl (lv_room (Nat.le_of_ble_eq_true rfl)) d_SD_requireSample_2 ⟨Nat.zero_le _, Nat.zero_le _⟩) hS (fun q h1 h2 => absurd h2 (Nat.not_le.mpr h1)) (fun q h => Nat.le_trans hS.1 h) (fun u t H1 locs ht hvm hw hB hz1 hk1 hS9 => ?_)
    refine va_forget (fun q hq => hS9.2.2 q hq) ?_
    have hP := hP.kept (fun k x hx9 => hk1 x.1 (hP k x hx9).lt (Nat.not_le.mpr (hP k x hx9).lt))
    have hS : va_S (fun q : Nat => s.heap.size ≤ q) s.heap H1 [] := ⟨hS9.1, hS9.2.1, fun _ h => nomatch h⟩
    generalize H1 = H at hP hS ⊢
    refine lv_iload_n hx hb d_SD_requireSample_5 rfl (lv_at hl 2 rfl) ?_
    refine lv_if_lt (tgt := 39) hx hb d_SD_requireSample_6 (by decide) (fun c_2 => ?_) (fun c_2 => ?_)
    · rw [if_pos c_2] at hf
      obtain rfl : 3 = res := Option.some.inj hf
      obtain ⟨sa, hsa⟩ := hT.2.2.2.2 (200, "there is no such sample") (by decide)
      exact t_throw (names := th_names) hx hb hl9 hown (by decide +kernel) (by decide +kernel) (hts _ t_668) (hts _ t_70) hsa (th_words th_all_136 hts (hts _ th_ini) hT) hS.1 (hl.1.trans hml.symm) d_SD_requireSample_39 d_SD_requireSample_42 d_SD_requireSample_43 d_SD_requireSample_45 d_SD_requireSample_48 (fun x h => absurd (hno x h) id) (Nat.lt_of_lt_of_le (by decide) hRf) (Nat.le_trans (Nat.le_of_ble_eq_true rfl) hRl) hRc.1 hRc.2 hlocks
    · rw [if_neg c_2] at hf
      refine lv_iload_n hx hb d_SD_requireSample_9 rfl (lv_at hl 2 rfl) ?_
      refine lv_aload_n hx hb d_SD_requireSample_10 rfl (lv_at hl 0 rfl) ?_
      refine va_get (D := (dC, dI)) (ci := 6) (v := .ref (cu_a 0)) (C := R_SD) (T := T_SD) (N := 7) hx hb hts in_SD hown hK hP 0 rfl rfl 5 (by decide) (hts _ t_263) (fun _ h9 => h9) rfl d_SD_requireSample_11 ?_
      refine va_get (D := (dC, dI)) (ci := 0) (v := .ref (cu_a 1)) (C := R_Symbols) (T := T_Symbols) (N := 10) hx hb hts in_Symbols hown hK hP 1 rfl rfl 0 (by decide) (hts _ t_209) (fun _ h9 => h9) rfl d_SD_requireSample_14 ?_
      refine lv_iload_n hx hb d_SD_requireSample_17 rfl (lv_at hl 1 rfl) ?_
      obtain ⟨h_3, hf⟩ := gd_ex hf
      refine va_iald (f := Sy_wd cu) hx hb hK hP 2 0 rfl rfl (inb_in h_3) d_SD_requireSample_18 ?_
      refine lv_icmp_ge (tgt := 39) hx hb d_SD_requireSample_19 (by decide) (fun c_4 => ?_) (fun c_4 => ?_)
      · rw [if_pos c_4] at hf
        obtain rfl : 3 = res := Option.some.inj hf
        obtain ⟨sa, hsa⟩ := hT.2.2.2.2 (200, "there is no such sample") (by decide)
        exact t_throw (names := th_names) hx hb hl9 hown (by decide +kernel) (by decide +kernel) (hts _ t_668) (hts _ t_70) hsa (th_words th_all_136 hts (hts _ th_ini) hT) hS.1 (hl.1.trans hml.symm) d_SD_requireSample_39 d_SD_requireSample_42 d_SD_requireSample_43 d_SD_requireSample_45 d_SD_requireSample_48 (fun x h => absurd (hno x h) id) (Nat.lt_of_lt_of_le (by decide) hRf) (Nat.le_trans (Nat.le_of_ble_eq_true rfl) hRl) hRc.1 hRc.2 hlocks
      · rw [if_neg c_4] at hf
        refine lv_iload_n hx hb d_SD_requireSample_22 rfl (lv_at hl 3 rfl) ?_
        refine lv_if_lt (tgt := 39) hx hb d_SD_requireSample_23 (by decide) (fun c_5 => ?_) (fun c_5 => ?_)
        · rw [if_pos c_5] at hf
          obtain rfl : 3 = res := Option.some.inj hf
          obtain ⟨sa, hsa⟩ := hT.2.2.2.2 (200, "there is no such sample") (by decide)
          exact t_throw (names := th_names) hx hb hl9 hown (by decide +kernel) (by decide +kernel) (hts _ t_668) (hts _ t_70) hsa (th_words th_all_136 hts (hts _ th_ini) hT) hS.1 (hl.1.trans hml.symm) d_SD_requireSample_39 d_SD_requireSample_42 d_SD_requireSample_43 d_SD_requireSample_45 d_SD_requireSample_48 (fun x h => absurd (hno x h) id) (Nat.lt_of_lt_of_le (by decide) hRf) (Nat.le_trans (Nat.le_of_ble_eq_true rfl) hRl) hRc.1 hRc.2 hlocks
        · rw [if_neg c_5] at hf
          refine lv_iload_n hx hb d_SD_requireSample_26 rfl (lv_at hl 3 rfl) ?_
          refine lv_aload_n hx hb d_SD_requireSample_27 rfl (lv_at hl 0 rfl) ?_
          refine va_get (D := (dC, dI)) (ci := 6) (v := .ref (cu_a 0)) (C := R_SD) (T := T_SD) (N := 7) hx hb hts in_SD hown hK hP 0 rfl rfl 5 (by decide) (hts _ t_263) (fun _ h9 => h9) rfl d_SD_requireSample_28 ?_
          refine va_get (D := (dC, dI)) (ci := 0) (v := .ref (cu_a 2)) (C := R_Symbols) (T := T_Symbols) (N := 10) hx hb hts in_Symbols hown hK hP 1 rfl rfl 1 (by decide) (hts _ t_213) (fun _ h9 => h9) rfl d_SD_requireSample_31 ?_
          refine lv_iload_n hx hb d_SD_requireSample_34 rfl (lv_at hl 1 rfl) ?_
          obtain ⟨h_6, hf⟩ := gd_ex hf
          refine va_iald (f := Sy_ht cu) hx hb hK hP 3 0 rfl rfl (inb_in h_6) d_SD_requireSample_35 ?_
          refine lv_icmp_lt (tgt := 49) hx hb d_SD_requireSample_36 (by decide) (fun c_7 => ?_) (fun c_7 => ?_)
          · rw [if_pos c_7] at hf
            exact absurd hf (by simp)
          · rw [if_neg c_7] at hf
            obtain rfl : 3 = res := Option.some.inj hf
            obtain ⟨sa, hsa⟩ := hT.2.2.2.2 (200, "there is no such sample") (by decide)
            exact t_throw (names := th_names) hx hb hl9 hown (by decide +kernel) (by decide +kernel) (hts _ t_668) (hts _ t_70) hsa (th_words th_all_136 hts (hts _ th_ini) hT) hS.1 (hl.1.trans hml.symm) d_SD_requireSample_39 d_SD_requireSample_42 d_SD_requireSample_43 d_SD_requireSample_45 d_SD_requireSample_48 (fun x h => absurd (hno x h) id) (Nat.lt_of_lt_of_le (by decide) hRf) (Nat.le_trans (Nat.le_of_ble_eq_true rfl) hRl) hRc.1 hRc.2 hlocks

def e_SD_symbol (sd : Sd) (cu : Sy) (x1 : Int32) (x2 : Int32) : Option Nat := (if x1 < 1 then some 1 else (if 16 < x1 then some 1 else (if x2 < 1 then some 1 else (if x2 ≤ 16 then (if (Sy_n cu) < 40 then none else some 4) else some 1))))
set_option maxHeartbeats 4000000 in
set_option maxRecDepth 100000 in
theorem kt_SD_symbol (l : Launch) (hl9 : l.stackTraces = false) (dC : Nat → ClassId) (dI : Nat → Nat → Nat) (cI cZ cJ : ClassId) (sd_a : Nat → Nat) (cu_a : Nat → Nat) (lk_w : Nat) (lk_v : Nat) (lk_wr : Nat) (lk_rd : Nat) (lk_sp : Nat) (sz : Nat) {sd : Sd} {cu : Sy} {x1 : Int32} {x2 : Int32} {res : Nat} (hf : e_SD_symbol sd cu x1 x2 = some res) :
    tMet l y_SD_symbol ws_SD_symbol ({ frames := 6, cells := 1, slots := 6, locals := 90 }) (va_Pc [.ref (sd_a 0), .int x1, .int x2] (kPT (dC, dI) vwCl (TYS cI cZ cJ) (wSd cI cZ cJ sd_a lk_w lk_v lk_wr lk_rd (cu_a 0) lk_sp sd ++ wSy cI cZ cJ cu_a cu) sz)) (exN res) 1 6 := by
  refine tMet.ofW (cc := c_SD_symbol) (maxL := 3) (ret := (some .int)) (by decide) rfl ?_
  intro p e s m args below meth c s₁ B hml hno hv
  obtain ⟨rfl, ⟨hsz, hP, hK, hD, hN⟩, hT⟩ := hv
  have hx := B.exec
  have hb := B.bytes
  have hlocks := B.notSynchronized
  have hown : s.vm.findClass R_SD = some m.cls := findClass_of_methodNamed B.named
  have hts : ∀ w ∈ tb, w.before (List.toArray [Value.ref (sd_a 0), Value.int x1, Value.int x2]) s = true := fun w h => atoms_spec (ws := ws_SD_symbol) B.pre w (List.mem_cons_of_mem _ h)
  have hl := lv_entry ([.ref (sd_a 0), .int x1, .int x2]) (n := 3) (Nat.le_of_ble_eq_true rfl)
  rw [lg_entry_eq]
  generalize (lg_sl ([.ref (sd_a 0), .int x1, .int x2]) ++ List.replicate (3 - (lg_sl ([.ref (sd_a 0), .int x1, .int x2])).length) Slot.unset).toArray = ls at hl ⊢
  have hl : lv_has ls 3 [(0, .ref (sd_a 0)), (1, .int x1), (2, .int x2)] := hl
  have hS : va_S (fun q : Nat => s.heap.size ≤ q) s.heap s.heap [] := va_S.rf
  have hRf : 6 ≤ (headSpec ws_SD_symbol ({ frames := 6, cells := 1, slots := 6, locals := 90 })).room.frames := Nat.le_refl _
  have hRl : 90 ≤ (headSpec ws_SD_symbol ({ frames := 6, cells := 1, slots := 6, locals := 90 })).room.locals := Nat.le_refl _
  have hRc : 0 + 1 ≤ (headSpec ws_SD_symbol ({ frames := 6, cells := 1, slots := 6, locals := 90 })).room.cells ∧ 0 + 6 ≤ (headSpec ws_SD_symbol ({ frames := 6, cells := 1, slots := 6, locals := 90 })).room.slots := ⟨Nat.le_refl _, Nat.le_refl _⟩
  generalize (headSpec ws_SD_symbol ({ frames := 6, cells := 1, slots := 6, locals := 90 })).room = R at hRf hRl hRc ⊢
  obtain ⟨H, hH⟩ : ∃ H, H = s.heap := ⟨_, rfl⟩
  rw [← hH] at hP
  have hS : va_S (fun q : Nat => s.heap.size ≤ q) s.heap H [] := by rw [hH]; exact hS
  show W p l e R s m (List.toArray [Value.ref (sd_a 0), Value.int x1, Value.int x2]) below meth c s.heap [] 0 0 (tMQ below (exN res) (List.toArray [Value.ref (sd_a 0), Value.int x1, Value.int x2]) s 1 6) _
  rw [show s.heap = H from hH.symm]
  rw [e_SD_symbol] at hf
  refine lv_iload_n hx hb d_SD_symbol_0 rfl (lv_at hl 1 rfl) ?_
  refine lv_iconst (v := 1) hx hb d_SD_symbol_1 (by decide) ?_
  refine lv_icmp_lt (tgt := 22) hx hb d_SD_symbol_2 (by decide) (fun c_1 => ?_) (fun c_1 => ?_)
  · rw [if_pos c_1] at hf
    obtain rfl : 1 = res := Option.some.inj hf
    obtain ⟨sa, hsa⟩ := hT.2.2.2.2 (70, "a width or height is 1 to 16") (by decide)
    exact t_throw (names := th_names) hx hb hl9 hown (by decide +kernel) (by decide +kernel) (hts _ t_566) (hts _ t_67) hsa (th_words th_all_72 hts (hts _ th_ini) hT) hS.1 (hl.1.trans hml.symm) d_SD_symbol_22 d_SD_symbol_25 d_SD_symbol_26 d_SD_symbol_28 d_SD_symbol_31 (fun x h => absurd (hno x h) id) (Nat.lt_of_lt_of_le (by decide) hRf) (Nat.le_trans (Nat.le_of_ble_eq_true rfl) hRl) hRc.1 hRc.2 hlocks
  · rw [if_neg c_1] at hf
    refine lv_iload_n hx hb d_SD_symbol_5 rfl (lv_at hl 1 rfl) ?_
    refine lv_bipush (v := 16) hx hb d_SD_symbol_6 (by decide) ?_
    refine lv_icmp_gt (tgt := 22) hx hb d_SD_symbol_8 (by decide) (fun c_2 => ?_) (fun c_2 => ?_)
    · rw [if_pos c_2] at hf
      obtain rfl : 1 = res := Option.some.inj hf
      obtain ⟨sa, hsa⟩ := hT.2.2.2.2 (70, "a width or height is 1 to 16") (by decide)
      exact t_throw (names := th_names) hx hb hl9 hown (by decide +kernel) (by decide +kernel) (hts _ t_566) (hts _ t_67) hsa (th_words th_all_72 hts (hts _ th_ini) hT) hS.1 (hl.1.trans hml.symm) d_SD_symbol_22 d_SD_symbol_25 d_SD_symbol_26 d_SD_symbol_28 d_SD_symbol_31 (fun x h => absurd (hno x h) id) (Nat.lt_of_lt_of_le (by decide) hRf) (Nat.le_trans (Nat.le_of_ble_eq_true rfl) hRl) hRc.1 hRc.2 hlocks
    · rw [if_neg c_2] at hf
      refine lv_iload_n hx hb d_SD_symbol_11 rfl (lv_at hl 2 rfl) ?_
      refine lv_iconst (v := 1) hx hb d_SD_symbol_12 (by decide) ?_
      refine lv_icmp_lt (tgt := 22) hx hb d_SD_symbol_13 (by decide) (fun c_3 => ?_) (fun c_3 => ?_)
      · rw [if_pos c_3] at hf
        obtain rfl : 1 = res := Option.some.inj hf
        obtain ⟨sa, hsa⟩ := hT.2.2.2.2 (70, "a width or height is 1 to 16") (by decide)
        exact t_throw (names := th_names) hx hb hl9 hown (by decide +kernel) (by decide +kernel) (hts _ t_566) (hts _ t_67) hsa (th_words th_all_72 hts (hts _ th_ini) hT) hS.1 (hl.1.trans hml.symm) d_SD_symbol_22 d_SD_symbol_25 d_SD_symbol_26 d_SD_symbol_28 d_SD_symbol_31 (fun x h => absurd (hno x h) id) (Nat.lt_of_lt_of_le (by decide) hRf) (Nat.le_trans (Nat.le_of_ble_eq_true rfl) hRl) hRc.1 hRc.2 hlocks
      · rw [if_neg c_3] at hf
        refine lv_iload_n hx hb d_SD_symbol_16 rfl (lv_at hl 2 rfl) ?_
        refine lv_bipush (v := 16) hx hb d_SD_symbol_17 (by decide) ?_
        refine lv_icmp_le (tgt := 32) hx hb d_SD_symbol_19 (by decide) (fun c_4 => ?_) (fun c_4 => ?_)
        · rw [if_pos c_4] at hf
          refine lv_aload_n hx hb d_SD_symbol_32 rfl (lv_at hl 0 rfl) ?_
          refine va_get (D := (dC, dI)) (ci := 6) (v := .ref (cu_a 0)) (C := R_SD) (T := T_SD) (N := 7) hx hb hts in_SD hown hK hP 0 rfl rfl 5 (by decide) (hts _ t_263) (fun _ h9 => h9) rfl d_SD_symbol_33 ?_
          refine va_get (D := (dC, dI)) (ci := 0) (v := .int (Sy_n cu)) (C := R_Symbols) (T := T_Symbols) (N := 10) hx hb hts in_Symbols hown hK hP 1 rfl rfl 7 (by decide) (hts _ t_232) (fun _ h9 => h9) rfl d_SD_symbol_36 ?_
          refine lv_bipush (v := 40) hx hb d_SD_symbol_39 (by decide) ?_
          refine lv_icmp_lt (tgt := 54) hx hb d_SD_symbol_41 (by decide) (fun c_5 => ?_) (fun c_5 => ?_)
          · rw [if_pos c_5] at hf
            exact absurd hf (by simp)
          · rw [if_neg c_5] at hf
            obtain rfl : 4 = res := Option.some.inj hf
            obtain ⟨sa, hsa⟩ := hT.2.2.2.2 (80, "there are 40 symbols") (by decide)
            exact t_throw (names := th_names) hx hb hl9 hown (by decide +kernel) (by decide +kernel) (hts _ t_635) (hts _ t_68) hsa (th_words th_all_82 hts (hts _ th_ini) hT) hS.1 (hl.1.trans hml.symm) d_SD_symbol_44 d_SD_symbol_47 d_SD_symbol_48 d_SD_symbol_50 d_SD_symbol_53 (fun x h => absurd (hno x h) id) (Nat.lt_of_lt_of_le (by decide) hRf) (Nat.le_trans (Nat.le_of_ble_eq_true rfl) hRl) hRc.1 hRc.2 hlocks
        · rw [if_neg c_4] at hf
          obtain rfl : 1 = res := Option.some.inj hf
          obtain ⟨sa, hsa⟩ := hT.2.2.2.2 (70, "a width or height is 1 to 16") (by decide)
          exact t_throw (names := th_names) hx hb hl9 hown (by decide +kernel) (by decide +kernel) (hts _ t_566) (hts _ t_67) hsa (th_words th_all_72 hts (hts _ th_ini) hT) hS.1 (hl.1.trans hml.symm) d_SD_symbol_22 d_SD_symbol_25 d_SD_symbol_26 d_SD_symbol_28 d_SD_symbol_31 (fun x h => absurd (hno x h) id) (Nat.lt_of_lt_of_le (by decide) hRf) (Nat.le_trans (Nat.le_of_ble_eq_true rfl) hRl) hRc.1 hRc.2 hlocks

def e_SD_put (sd : Sd) (cu : Sy) (x1 : Int32) (x2 : Int32) (x3 : Int32) (x4 : Int32) : Option Nat := tc (e_SD_requireSample sd cu x1 x2 x3) <| none
set_option maxHeartbeats 4000000 in
set_option maxRecDepth 100000 in
theorem kt_SD_put (l : Launch) (hl9 : l.stackTraces = false) (dC : Nat → ClassId) (dI : Nat → Nat → Nat) (cI cZ cJ : ClassId) (sd_a : Nat → Nat) (cu_a : Nat → Nat) (lk_w : Nat) (lk_v : Nat) (lk_wr : Nat) (lk_rd : Nat) (lk_sp : Nat) (sz : Nat) {sd : Sd} {cu : Sy} {x1 : Int32} {x2 : Int32} {x3 : Int32} {x4 : Int32} {res : Nat} (hf : e_SD_put sd cu x1 x2 x3 x4 = some res) :
    tMet l y_SD_put ws_SD_put ({ frames := 8, cells := 1, slots := 6, locals := 134 }) (va_Pc [.ref (sd_a 0), .int x1, .int x2, .int x3, .int x4] (kPT (dC, dI) vwCl (TYS cI cZ cJ) (wSd cI cZ cJ sd_a lk_w lk_v lk_wr lk_rd (cu_a 0) lk_sp sd ++ wSy cI cZ cJ cu_a cu) sz)) (exN res) 1 6 := by
  refine tMet.ofW (cc := c_SD_put) (maxL := 5) (ret := (some .boolean)) (by decide) rfl ?_
  intro p e s m args below meth c s₁ B hml hno hv
  obtain ⟨rfl, ⟨hsz, hP, hK, hD, hN⟩, hT⟩ := hv
  have hx := B.exec
  have hb := B.bytes
  have hlocks := B.notSynchronized
  have hown : s.vm.findClass R_SD = some m.cls := findClass_of_methodNamed B.named
  have hts : ∀ w ∈ tb, w.before (List.toArray [Value.ref (sd_a 0), Value.int x1, Value.int x2, Value.int x3, Value.int x4]) s = true := fun w h => atoms_spec (ws := ws_SD_put) B.pre w (List.mem_cons_of_mem _ h)
  have hl := lv_entry ([.ref (sd_a 0), .int x1, .int x2, .int x3, .int x4]) (n := 5) (Nat.le_of_ble_eq_true rfl)
  rw [lg_entry_eq]
  generalize (lg_sl ([.ref (sd_a 0), .int x1, .int x2, .int x3, .int x4]) ++ List.replicate (5 - (lg_sl ([.ref (sd_a 0), .int x1, .int x2, .int x3, .int x4])).length) Slot.unset).toArray = ls at hl ⊢
  have hl : lv_has ls 5 [(0, .ref (sd_a 0)), (1, .int x1), (2, .int x2), (3, .int x3), (4, .int x4)] := hl
  have hS : va_S (fun q : Nat => s.heap.size ≤ q) s.heap s.heap [] := va_S.rf
  have hRf : 8 ≤ (headSpec ws_SD_put ({ frames := 8, cells := 1, slots := 6, locals := 134 })).room.frames := Nat.le_refl _
  have hRl : 134 ≤ (headSpec ws_SD_put ({ frames := 8, cells := 1, slots := 6, locals := 134 })).room.locals := Nat.le_refl _
  have hRc : 0 + 1 ≤ (headSpec ws_SD_put ({ frames := 8, cells := 1, slots := 6, locals := 134 })).room.cells ∧ 0 + 6 ≤ (headSpec ws_SD_put ({ frames := 8, cells := 1, slots := 6, locals := 134 })).room.slots := ⟨Nat.le_refl _, Nat.le_refl _⟩
  generalize (headSpec ws_SD_put ({ frames := 8, cells := 1, slots := 6, locals := 134 })).room = R at hRf hRl hRc ⊢
  obtain ⟨H, hH⟩ : ∃ H, H = s.heap := ⟨_, rfl⟩
  rw [← hH] at hP
  have hS : va_S (fun q : Nat => s.heap.size ≤ q) s.heap H [] := by rw [hH]; exact hS
  show W p l e R s m (List.toArray [Value.ref (sd_a 0), Value.int x1, Value.int x2, Value.int x3, Value.int x4]) below meth c s.heap [] 0 0 (tMQ below (exN res) (List.toArray [Value.ref (sd_a 0), Value.int x1, Value.int x2, Value.int x3, Value.int x4]) s 1 6) _
  rw [show s.heap = H from hH.symm]
  rw [e_SD_put] at hf
  refine lv_aload_n hx hb d_SD_put_0 rfl (lv_at hl 0 rfl) ?_
  refine lv_iload_n hx hb d_SD_put_1 rfl (lv_at hl 1 rfl) ?_
  refine lv_iload_n hx hb d_SD_put_2 rfl (lv_at hl 2 rfl) ?_
  refine lv_iload_n hx hb d_SD_put_3 rfl (lv_at hl 3 rfl) ?_
  have hPc := hP.sub (ws' := (wSd cI cZ cJ sd_a lk_w lk_v lk_wr lk_rd (cu_a 0) lk_sp sd ++ wSy cI cZ cJ cu_a cu)) [0, 1, 2, 3, 4, 5, 6, 7, 8, 9, 10] rfl
  have hDc := hD.sub (ws' := (wSd cI cZ cJ sd_a lk_w lk_v lk_wr lk_rd (cu_a 0) lk_sp sd ++ wSy cI cZ cJ cu_a cu)) [0, 1, 2, 3, 4, 5, 6, 7, 8, 9, 10] (by decide) rfl
  cases hc_1 : e_SD_requireSample sd cu x1 x2 x3 with
  | some c9 =>
    rw [hc_1] at hf
    obtain rfl : c9 = res := Option.some.inj hf
    refine t_run (E := exN c9) (As := [.int x1, .int x2, .int x3]) (rest := []) ⟨hx, hb, hml, hown, hts⟩ (kt_SD_requireSample l hl9 dC dI cI cZ cJ sd_a cu_a lk_w lk_v lk_wr lk_rd lk_sp _ hc_1) (cwV 3 hts (gV t_660 t_662 t_20 t_54 t_663) rfl rfl rfl hd_SD_requireSample ⟨Nat.le_trans (Nat.le_of_ble_eq_true rfl) hRf, Nat.le_trans (Nat.le_of_ble_eq_true rfl) hRl⟩) ⟨kPT_blind, va_recv hK hP (ci := 6) (q0 := 0) rfl rfl, kPT_at hPc hK hDc hN hS hT⟩ rfl hl.1 rfl (lv_room (Nat.le_of_ble_eq_true rfl)) d_SD_put_4 hRc (fun q ce H1 h1 h2 hq hv hcl => ?_)
    exact t_out (fun x h => absurd (hno x h) id) hlocks hq hv hcl
  | none =>
    rw [hc_1] at hf
    have hf := tc_none hf
    exact absurd hf (by simp)

def e_SD_row (sd : Sd) (cu : Sy) (x1 : Int32) (x2 : Int32) (x3 : Int32) : Option Nat := tc (e_SD_requireSample sd cu x1 0 x2) <| none
set_option maxHeartbeats 4000000 in
set_option maxRecDepth 100000 in
theorem kt_SD_row (l : Launch) (hl9 : l.stackTraces = false) (dC : Nat → ClassId) (dI : Nat → Nat → Nat) (cI cZ cJ : ClassId) (sd_a : Nat → Nat) (cu_a : Nat → Nat) (lk_w : Nat) (lk_v : Nat) (lk_wr : Nat) (lk_rd : Nat) (lk_sp : Nat) (sz : Nat) {sd : Sd} {cu : Sy} {x1 : Int32} {x2 : Int32} {x3 : Int32} {res : Nat} (hf : e_SD_row sd cu x1 x2 x3 = some res) :
    tMet l y_SD_row ws_SD_row ({ frames := 8, cells := 1, slots := 6, locals := 134 }) (va_Pc [.ref (sd_a 0), .int x1, .int x2, .int x3] (kPT (dC, dI) vwCl (TYS cI cZ cJ) (wSd cI cZ cJ sd_a lk_w lk_v lk_wr lk_rd (cu_a 0) lk_sp sd ++ wSy cI cZ cJ cu_a cu) sz)) (exN res) 1 6 := by
  refine tMet.ofW (cc := c_SD_row) (maxL := 4) (ret := (some .int)) (by decide) rfl ?_
  intro p e s m args below meth c s₁ B hml hno hv
  obtain ⟨rfl, ⟨hsz, hP, hK, hD, hN⟩, hT⟩ := hv
  have hx := B.exec
  have hb := B.bytes
  have hlocks := B.notSynchronized
  have hown : s.vm.findClass R_SD = some m.cls := findClass_of_methodNamed B.named
  have hts : ∀ w ∈ tb, w.before (List.toArray [Value.ref (sd_a 0), Value.int x1, Value.int x2, Value.int x3]) s = true := fun w h => atoms_spec (ws := ws_SD_row) B.pre w (List.mem_cons_of_mem _ h)
  have hl := lv_entry ([.ref (sd_a 0), .int x1, .int x2, .int x3]) (n := 4) (Nat.le_of_ble_eq_true rfl)
  rw [lg_entry_eq]
  generalize (lg_sl ([.ref (sd_a 0), .int x1, .int x2, .int x3]) ++ List.replicate (4 - (lg_sl ([.ref (sd_a 0), .int x1, .int x2, .int x3])).length) Slot.unset).toArray = ls at hl ⊢
  have hl : lv_has ls 4 [(0, .ref (sd_a 0)), (1, .int x1), (2, .int x2), (3, .int x3)] := hl
  have hS : va_S (fun q : Nat => s.heap.size ≤ q) s.heap s.heap [] := va_S.rf
  have hRf : 8 ≤ (headSpec ws_SD_row ({ frames := 8, cells := 1, slots := 6, locals := 134 })).room.frames := Nat.le_refl _
  have hRl : 134 ≤ (headSpec ws_SD_row ({ frames := 8, cells := 1, slots := 6, locals := 134 })).room.locals := Nat.le_refl _
  have hRc : 0 + 1 ≤ (headSpec ws_SD_row ({ frames := 8, cells := 1, slots := 6, locals := 134 })).room.cells ∧ 0 + 6 ≤ (headSpec ws_SD_row ({ frames := 8, cells := 1, slots := 6, locals := 134 })).room.slots := ⟨Nat.le_refl _, Nat.le_refl _⟩
  generalize (headSpec ws_SD_row ({ frames := 8, cells := 1, slots := 6, locals := 134 })).room = R at hRf hRl hRc ⊢
  obtain ⟨H, hH⟩ : ∃ H, H = s.heap := ⟨_, rfl⟩
  rw [← hH] at hP
  have hS : va_S (fun q : Nat => s.heap.size ≤ q) s.heap H [] := by rw [hH]; exact hS
  show W p l e R s m (List.toArray [Value.ref (sd_a 0), Value.int x1, Value.int x2, Value.int x3]) below meth c s.heap [] 0 0 (tMQ below (exN res) (List.toArray [Value.ref (sd_a 0), Value.int x1, Value.int x2, Value.int x3]) s 1 6) _
  rw [show s.heap = H from hH.symm]
  rw [e_SD_row] at hf
  refine lv_aload_n hx hb d_SD_row_0 rfl (lv_at hl 0 rfl) ?_
  refine lv_iload_n hx hb d_SD_row_1 rfl (lv_at hl 1 rfl) ?_
  refine lv_iconst (v := 0) hx hb d_SD_row_2 (by decide) ?_
  refine lv_iload_n hx hb d_SD_row_3 rfl (lv_at hl 2 rfl) ?_
  have hPc := hP.sub (ws' := (wSd cI cZ cJ sd_a lk_w lk_v lk_wr lk_rd (cu_a 0) lk_sp sd ++ wSy cI cZ cJ cu_a cu)) [0, 1, 2, 3, 4, 5, 6, 7, 8, 9, 10] rfl
  have hDc := hD.sub (ws' := (wSd cI cZ cJ sd_a lk_w lk_v lk_wr lk_rd (cu_a 0) lk_sp sd ++ wSy cI cZ cJ cu_a cu)) [0, 1, 2, 3, 4, 5, 6, 7, 8, 9, 10] (by decide) rfl
  cases hc_1 : e_SD_requireSample sd cu x1 0 x2 with
  | some c9 =>
    rw [hc_1] at hf
    obtain rfl : c9 = res := Option.some.inj hf
    refine t_run (E := exN c9) (As := [.int x1, .int 0, .int x2]) (rest := []) ⟨hx, hb, hml, hown, hts⟩ (kt_SD_requireSample l hl9 dC dI cI cZ cJ sd_a cu_a lk_w lk_v lk_wr lk_rd lk_sp _ hc_1) (cwV 3 hts (gV t_660 t_662 t_20 t_54 t_663) rfl rfl rfl hd_SD_requireSample ⟨Nat.le_trans (Nat.le_of_ble_eq_true rfl) hRf, Nat.le_trans (Nat.le_of_ble_eq_true rfl) hRl⟩) ⟨kPT_blind, va_recv hK hP (ci := 6) (q0 := 0) rfl rfl, kPT_at hPc hK hDc hN hS hT⟩ rfl hl.1 rfl (lv_room (Nat.le_of_ble_eq_true rfl)) d_SD_row_4 hRc (fun q ce H1 h1 h2 hq hv hcl => ?_)
    exact t_out (fun x h => absurd (hno x h) id) hlocks hq hv hcl
  | none =>
    rw [hc_1] at hf
    have hf := tc_none hf
    exact absurd hf (by simp)

def e_SD_at (sd : Sd) (cu : Sy) (x1 : Int32) (x2 : Int32) (x3 : Int32) : Option Nat := tc (e_SD_requireSample sd cu x1 x2 x3) <| none
set_option maxHeartbeats 4000000 in
set_option maxRecDepth 100000 in
theorem kt_SD_at (l : Launch) (hl9 : l.stackTraces = false) (dC : Nat → ClassId) (dI : Nat → Nat → Nat) (cI cZ cJ : ClassId) (sd_a : Nat → Nat) (cu_a : Nat → Nat) (lk_w : Nat) (lk_v : Nat) (lk_wr : Nat) (lk_rd : Nat) (lk_sp : Nat) (sz : Nat) {sd : Sd} {cu : Sy} {x1 : Int32} {x2 : Int32} {x3 : Int32} {res : Nat} (hf : e_SD_at sd cu x1 x2 x3 = some res) :
    tMet l y_SD_at ws_SD_at ({ frames := 8, cells := 1, slots := 6, locals := 134 }) (va_Pc [.ref (sd_a 0), .int x1, .int x2, .int x3] (kPT (dC, dI) vwCl (TYS cI cZ cJ) (wSd cI cZ cJ sd_a lk_w lk_v lk_wr lk_rd (cu_a 0) lk_sp sd ++ wSy cI cZ cJ cu_a cu) sz)) (exN res) 1 6 := by
  refine tMet.ofW (cc := c_SD_at) (maxL := 4) (ret := (some .boolean)) (by decide) rfl ?_
  intro p e s m args below meth c s₁ B hml hno hv
  obtain ⟨rfl, ⟨hsz, hP, hK, hD, hN⟩, hT⟩ := hv
  have hx := B.exec
  have hb := B.bytes
  have hlocks := B.notSynchronized
  have hown : s.vm.findClass R_SD = some m.cls := findClass_of_methodNamed B.named
  have hts : ∀ w ∈ tb, w.before (List.toArray [Value.ref (sd_a 0), Value.int x1, Value.int x2, Value.int x3]) s = true := fun w h => atoms_spec (ws := ws_SD_at) B.pre w (List.mem_cons_of_mem _ h)
  have hl := lv_entry ([.ref (sd_a 0), .int x1, .int x2, .int x3]) (n := 4) (Nat.le_of_ble_eq_true rfl)
  rw [lg_entry_eq]
  generalize (lg_sl ([.ref (sd_a 0), .int x1, .int x2, .int x3]) ++ List.replicate (4 - (lg_sl ([.ref (sd_a 0), .int x1, .int x2, .int x3])).length) Slot.unset).toArray = ls at hl ⊢
  have hl : lv_has ls 4 [(0, .ref (sd_a 0)), (1, .int x1), (2, .int x2), (3, .int x3)] := hl
  have hS : va_S (fun q : Nat => s.heap.size ≤ q) s.heap s.heap [] := va_S.rf
  have hRf : 8 ≤ (headSpec ws_SD_at ({ frames := 8, cells := 1, slots := 6, locals := 134 })).room.frames := Nat.le_refl _
  have hRl : 134 ≤ (headSpec ws_SD_at ({ frames := 8, cells := 1, slots := 6, locals := 134 })).room.locals := Nat.le_refl _
  have hRc : 0 + 1 ≤ (headSpec ws_SD_at ({ frames := 8, cells := 1, slots := 6, locals := 134 })).room.cells ∧ 0 + 6 ≤ (headSpec ws_SD_at ({ frames := 8, cells := 1, slots := 6, locals := 134 })).room.slots := ⟨Nat.le_refl _, Nat.le_refl _⟩
  generalize (headSpec ws_SD_at ({ frames := 8, cells := 1, slots := 6, locals := 134 })).room = R at hRf hRl hRc ⊢
  obtain ⟨H, hH⟩ : ∃ H, H = s.heap := ⟨_, rfl⟩
  rw [← hH] at hP
  have hS : va_S (fun q : Nat => s.heap.size ≤ q) s.heap H [] := by rw [hH]; exact hS
  show W p l e R s m (List.toArray [Value.ref (sd_a 0), Value.int x1, Value.int x2, Value.int x3]) below meth c s.heap [] 0 0 (tMQ below (exN res) (List.toArray [Value.ref (sd_a 0), Value.int x1, Value.int x2, Value.int x3]) s 1 6) _
  rw [show s.heap = H from hH.symm]
  rw [e_SD_at] at hf
  refine lv_aload_n hx hb d_SD_at_0 rfl (lv_at hl 0 rfl) ?_
  refine lv_iload_n hx hb d_SD_at_1 rfl (lv_at hl 1 rfl) ?_
  refine lv_iload_n hx hb d_SD_at_2 rfl (lv_at hl 2 rfl) ?_
  refine lv_iload_n hx hb d_SD_at_3 rfl (lv_at hl 3 rfl) ?_
  have hPc := hP.sub (ws' := (wSd cI cZ cJ sd_a lk_w lk_v lk_wr lk_rd (cu_a 0) lk_sp sd ++ wSy cI cZ cJ cu_a cu)) [0, 1, 2, 3, 4, 5, 6, 7, 8, 9, 10] rfl
  have hDc := hD.sub (ws' := (wSd cI cZ cJ sd_a lk_w lk_v lk_wr lk_rd (cu_a 0) lk_sp sd ++ wSy cI cZ cJ cu_a cu)) [0, 1, 2, 3, 4, 5, 6, 7, 8, 9, 10] (by decide) rfl
  cases hc_1 : e_SD_requireSample sd cu x1 x2 x3 with
  | some c9 =>
    rw [hc_1] at hf
    obtain rfl : c9 = res := Option.some.inj hf
    refine t_run (E := exN c9) (As := [.int x1, .int x2, .int x3]) (rest := []) ⟨hx, hb, hml, hown, hts⟩ (kt_SD_requireSample l hl9 dC dI cI cZ cJ sd_a cu_a lk_w lk_v lk_wr lk_rd lk_sp _ hc_1) (cwV 3 hts (gV t_660 t_662 t_20 t_54 t_663) rfl rfl rfl hd_SD_requireSample ⟨Nat.le_trans (Nat.le_of_ble_eq_true rfl) hRf, Nat.le_trans (Nat.le_of_ble_eq_true rfl) hRl⟩) ⟨kPT_blind, va_recv hK hP (ci := 6) (q0 := 0) rfl rfl, kPT_at hPc hK hDc hN hS hT⟩ rfl hl.1 rfl (lv_room (Nat.le_of_ble_eq_true rfl)) d_SD_at_4 hRc (fun q ce H1 h1 h2 hq hv hcl => ?_)
    exact t_out (fun x h => absurd (hno x h) id) hlocks hq hv hcl
  | none =>
    rw [hc_1] at hf
    have hf := tc_none hf
    exact absurd hf (by simp)

def e_SD_refined (sd : Sd) (cu : Sy) (x1 : Int32) (x2 : Int32) (x3 : Int32) (x4 : Int32) : Option Nat := tc (e_SD_requireSymbol sd cu x1) <| bd (f_SD_requireSymbol sd cu x1) <| fun _ => gd (inb x1 40) <| lt' (Sy_bs cu x1.toNatClampNeg) <| fun x5_3 => (if x2 = (-1) then none else tc (e_SD_requireSymbol sd cu x2) <| bd (f_SD_requireSymbol sd cu x2) <| fun _ => (if x3 < (-4) then some 1 else (if 4 < x3 then some 1 else (if x4 < (-4) then some 1 else (if x4 ≤ 4 then bd (f_Symbols_comesBefore cu x2 x1) <| fun r_10 => (if r_10 = 0 then some 2 else none) else some 1)))))
set_option maxHeartbeats 4000000 in
set_option maxRecDepth 100000 in
theorem kt_SD_refined (l : Launch) (hl9 : l.stackTraces = false) (dC : Nat → ClassId) (dI : Nat → Nat → Nat) (cI cZ cJ : ClassId) (sd_a : Nat → Nat) (cu_a : Nat → Nat) (lk_w : Nat) (lk_v : Nat) (lk_wr : Nat) (lk_rd : Nat) (lk_sp : Nat) (sz : Nat) {sd : Sd} {cu : Sy} {x1 : Int32} {x2 : Int32} {x3 : Int32} {x4 : Int32} {res : Nat} (hf : e_SD_refined sd cu x1 x2 x3 x4 = some res) :
    tMet l y_SD_refined ws_SD_refined ({ frames := 7, cells := 1, slots := 6, locals := 111 }) (va_Pc [.ref (sd_a 0), .int x1, .int x2, .int x3, .int x4] (kPT (dC, dI) vwCl (TYS cI cZ cJ) (wSd cI cZ cJ sd_a lk_w lk_v lk_wr lk_rd (cu_a 0) lk_sp sd ++ wSy cI cZ cJ cu_a cu) sz)) (exN res) 1 6 := by
  refine tMet.ofW (cc := c_SD_refined) (maxL := 6) (ret := (some .int)) (by decide) rfl ?_
  intro p e s m args below meth c s₁ B hml hno hv
  obtain ⟨rfl, ⟨hsz, hP, hK, hD, hN⟩, hT⟩ := hv
  have hx := B.exec
  have hb := B.bytes
  have hlocks := B.notSynchronized
  have hown : s.vm.findClass R_SD = some m.cls := findClass_of_methodNamed B.named
  have hts : ∀ w ∈ tb, w.before (List.toArray [Value.ref (sd_a 0), Value.int x1, Value.int x2, Value.int x3, Value.int x4]) s = true := fun w h => atoms_spec (ws := ws_SD_refined) B.pre w (List.mem_cons_of_mem _ h)
  have hl := lv_entry ([.ref (sd_a 0), .int x1, .int x2, .int x3, .int x4]) (n := 6) (Nat.le_of_ble_eq_true rfl)
  rw [lg_entry_eq]
  generalize (lg_sl ([.ref (sd_a 0), .int x1, .int x2, .int x3, .int x4]) ++ List.replicate (6 - (lg_sl ([.ref (sd_a 0), .int x1, .int x2, .int x3, .int x4])).length) Slot.unset).toArray = ls at hl ⊢
  have hl : lv_has ls 6 [(0, .ref (sd_a 0)), (1, .int x1), (2, .int x2), (3, .int x3), (4, .int x4)] := hl
  have hS : va_S (fun q : Nat => s.heap.size ≤ q) s.heap s.heap [] := va_S.rf
  have hRf : 7 ≤ (headSpec ws_SD_refined ({ frames := 7, cells := 1, slots := 6, locals := 111 })).room.frames := Nat.le_refl _
  have hRl : 111 ≤ (headSpec ws_SD_refined ({ frames := 7, cells := 1, slots := 6, locals := 111 })).room.locals := Nat.le_refl _
  have hRc : 0 + 1 ≤ (headSpec ws_SD_refined ({ frames := 7, cells := 1, slots := 6, locals := 111 })).room.cells ∧ 0 + 6 ≤ (headSpec ws_SD_refined ({ frames := 7, cells := 1, slots := 6, locals := 111 })).room.slots := ⟨Nat.le_refl _, Nat.le_refl _⟩
  generalize (headSpec ws_SD_refined ({ frames := 7, cells := 1, slots := 6, locals := 111 })).room = R at hRf hRl hRc ⊢
  obtain ⟨H, hH⟩ : ∃ H, H = s.heap := ⟨_, rfl⟩
  rw [← hH] at hP
  have hS : va_S (fun q : Nat => s.heap.size ≤ q) s.heap H [] := by rw [hH]; exact hS
  show W p l e R s m (List.toArray [Value.ref (sd_a 0), Value.int x1, Value.int x2, Value.int x3, Value.int x4]) below meth c s.heap [] 0 0 (tMQ below (exN res) (List.toArray [Value.ref (sd_a 0), Value.int x1, Value.int x2, Value.int x3, Value.int x4]) s 1 6) _
  rw [show s.heap = H from hH.symm]
  rw [e_SD_refined] at hf
  refine lv_aload_n hx hb d_SD_refined_0 rfl (lv_at hl 0 rfl) ?_
  refine lv_iload_n hx hb d_SD_refined_1 rfl (lv_at hl 1 rfl) ?_
  have hPc := hP.sub (ws' := (wSd cI cZ cJ sd_a lk_w lk_v lk_wr lk_rd (cu_a 0) lk_sp sd ++ wSy cI cZ cJ cu_a cu)) [0, 1, 2, 3, 4, 5, 6, 7, 8, 9, 10] rfl
  have hDc := hD.sub (ws' := (wSd cI cZ cJ sd_a lk_w lk_v lk_wr lk_rd (cu_a 0) lk_sp sd ++ wSy cI cZ cJ cu_a cu)) [0, 1, 2, 3, 4, 5, 6, 7, 8, 9, 10] (by decide) rfl
  cases hc_1 : e_SD_requireSymbol sd cu x1 with
  | some c9 =>
    rw [hc_1] at hf
    obtain rfl : c9 = res := Option.some.inj hf
    refine t_run (E := exN c9) (As := [.int x1]) (rest := []) ⟨hx, hb, hml, hown, hts⟩ (kt_SD_requireSymbol l hl9 dC dI cI cZ cJ sd_a cu_a lk_w lk_v lk_wr lk_rd lk_sp _ hc_1) (cwV 1 hts (gV t_664 t_666 t_21 t_54 t_667) rfl rfl rfl hd_SD_requireSymbol ⟨Nat.le_trans (Nat.le_of_ble_eq_true rfl) hRf, Nat.le_trans (Nat.le_of_ble_eq_true rfl) hRl⟩) ⟨kPT_blind, va_recv hK hP (ci := 6) (q0 := 0) rfl rfl, kPT_at hPc hK hDc hN hS hT⟩ rfl hl.1 rfl (lv_room (Nat.le_of_ble_eq_true rfl)) d_SD_refined_2 hRc (fun q ce H1 h1 h2 hq hv hcl => ?_)
    exact t_out (fun x h => absurd (hno x h) id) hlocks hq hv hcl
  | none =>
    rw [hc_1] at hf
    have hf := tc_none hf
    obtain ⟨_, hf1, hf⟩ := bd_ex hf
    try dsimp only at hf
    refine va_callv (va_runV (As := [.int x1]) (rest := []) ⟨hx, hb, hml, hown, hts⟩ (k0_SD_requireSymbol l dC dI cI cZ cJ sd_a cu_a lk_w lk_v lk_wr lk_rd lk_sp _ hf1) (cwV 1 hts (gV t_664 t_666 t_21 t_54 t_667) rfl rfl rfl hd_SD_requireSymbol ⟨Nat.le_trans (Nat.le_of_ble_eq_true rfl) hRf, Nat.le_trans (Nat.le_of_ble_eq_true rfl) hRl⟩) ⟨kP_blind, va_recv hK hP (ci := 6) (q0 := 0) rfl rfl, kP_at hPc hK hDc hN⟩ rfl rfl hl.1 rfl (lv_room (Nat.le_of_ble_eq_true rfl)) d_SD_refined_2 ⟨Nat.zero_le _, Nat.zero_le _⟩) hS (fun q h1 h2 => absurd h2 (Nat.not_le.mpr h1)) (fun q h => Nat.le_trans hS.1 h) (fun u t H1 locs ht hvm hw hB hz1 hk1 hS9 => ?_)
    refine va_forget (fun q hq => hS9.2.2 q hq) ?_
    have hP := hP.kept (fun k x hx9 => hk1 x.1 (hP k x hx9).lt (Nat.not_le.mpr (hP k x hx9).lt))
    have hS : va_S (fun q : Nat => s.heap.size ≤ q) s.heap H1 [] := ⟨hS9.1, hS9.2.1, fun _ h => nomatch h⟩
    generalize H1 = H at hP hS ⊢
    refine lv_aload_n hx hb d_SD_refined_5 rfl (lv_at hl 0 rfl) ?_
    refine va_get (D := (dC, dI)) (ci := 6) (v := .ref (cu_a 0)) (C := R_SD) (T := T_SD) (N := 7) hx hb hts in_SD hown hK hP 0 rfl rfl 5 (by decide) (hts _ t_263) (fun _ h9 => h9) rfl d_SD_refined_6 ?_
    refine va_get (D := (dC, dI)) (ci := 0) (v := .ref (cu_a 4)) (C := R_Symbols) (T := T_Symbols) (N := 10) hx hb hts in_Symbols hown hK hP 1 rfl rfl 3 (by decide) (hts _ t_220) (fun _ h9 => h9) rfl d_SD_refined_9 ?_
    refine lv_iload_n hx hb d_SD_refined_12 rfl (lv_at hl 1 rfl) ?_
    obtain ⟨h_2, hf⟩ := gd_ex hf
    refine va_iald (f := Sy_bs cu) hx hb hK hP 5 0 rfl rfl (inb_in h_2) d_SD_refined_13 ?_
    obtain ⟨x5_3, ex5_3, hf⟩ := lt_ex hf
    try dsimp only at hf
    refine tp_i ex5_3 ?_
    refine lv_istore (lv' := [(5, .int x5_3), (0, .ref (sd_a 0)), (1, .int x1), (2, .int x2), (3, .int x3), (4, .int x4)]) hx hb d_SD_refined_14 hl (by decide) rfl (fun ls hl => ?_)
    refine lv_iload_n hx hb d_SD_refined_16 rfl (lv_at hl 3 rfl) ?_
    refine lv_iconst (v := (-1)) hx hb d_SD_refined_17 (by decide) ?_
    refine lv_icmp_ne (tgt := 35) hx hb d_SD_refined_18 (by decide) (fun c_4 => ?_) (fun c_4 => ?_)
    · rw [if_neg c_4] at hf
      refine lv_aload_n hx hb d_SD_refined_35 rfl (lv_at hl 1 rfl) ?_
      refine lv_iload_n hx hb d_SD_refined_36 rfl (lv_at hl 3 rfl) ?_
      have hPc := hP.sub (ws' := (wSd cI cZ cJ sd_a lk_w lk_v lk_wr lk_rd (cu_a 0) lk_sp sd ++ wSy cI cZ cJ cu_a cu)) [0, 1, 2, 3, 4, 5, 6, 7, 8, 9, 10] rfl
      have hDc := hD.sub (ws' := (wSd cI cZ cJ sd_a lk_w lk_v lk_wr lk_rd (cu_a 0) lk_sp sd ++ wSy cI cZ cJ cu_a cu)) [0, 1, 2, 3, 4, 5, 6, 7, 8, 9, 10] (by decide) rfl
      cases hc_5 : e_SD_requireSymbol sd cu x2 with
      | some c9 =>
        rw [hc_5] at hf
        obtain rfl : c9 = res := Option.some.inj hf
        refine t_run (E := exN c9) (As := [.int x2]) (rest := []) ⟨hx, hb, hml, hown, hts⟩ (kt_SD_requireSymbol l hl9 dC dI cI cZ cJ sd_a cu_a lk_w lk_v lk_wr lk_rd lk_sp _ hc_5) (cwV 1 hts (gV t_664 t_666 t_21 t_54 t_667) rfl rfl rfl hd_SD_requireSymbol ⟨Nat.le_trans (Nat.le_of_ble_eq_true rfl) hRf, Nat.le_trans (Nat.le_of_ble_eq_true rfl) hRl⟩) ⟨kPT_blind, va_recv hK hP (ci := 6) (q0 := 0) rfl rfl, kPT_at hPc hK hDc hN hS hT⟩ rfl hl.1 rfl (lv_room (Nat.le_of_ble_eq_true rfl)) d_SD_refined_37 hRc (fun q ce H1 h1 h2 hq hv hcl => ?_)
        exact t_out (fun x h => absurd (hno x h) id) hlocks hq hv hcl
      | none =>
        rw [hc_5] at hf
        have hf := tc_none hf
        obtain ⟨_, hf1, hf⟩ := bd_ex hf
        try dsimp only at hf
        refine va_callv (va_runV (As := [.int x2]) (rest := []) ⟨hx, hb, hml, hown, hts⟩ (k0_SD_requireSymbol l dC dI cI cZ cJ sd_a cu_a lk_w lk_v lk_wr lk_rd lk_sp _ hf1) (cwV 1 hts (gV t_664 t_666 t_21 t_54 t_667) rfl rfl rfl hd_SD_requireSymbol ⟨Nat.le_trans (Nat.le_of_ble_eq_true rfl) hRf, Nat.le_trans (Nat.le_of_ble_eq_true rfl) hRl⟩) ⟨kP_blind, va_recv hK hP (ci := 6) (q0 := 0) rfl rfl, kP_at hPc hK hDc hN⟩ rfl rfl hl.1 rfl (lv_room (Nat.le_of_ble_eq_true rfl)) d_SD_refined_37 ⟨Nat.zero_le _, Nat.zero_le _⟩) hS (fun q h1 h2 => absurd h2 (Nat.not_le.mpr h1)) (fun q h => Nat.le_trans hS.1 h) (fun u t H1 locs ht hvm hw hB hz1 hk1 hS9 => ?_)
        refine va_forget (fun q hq => hS9.2.2 q hq) ?_
        have hP := hP.kept (fun k x hx9 => hk1 x.1 (hP k x hx9).lt (Nat.not_le.mpr (hP k x hx9).lt))
        have hS : va_S (fun q : Nat => s.heap.size ≤ q) s.heap H1 [] := ⟨hS9.1, hS9.2.1, fun _ h => nomatch h⟩
        generalize H1 = H at hP hS ⊢
        refine lv_iload_n hx hb d_SD_refined_40 rfl (lv_at hl 4 rfl) ?_
        refine lv_bipush (v := (-4)) hx hb d_SD_refined_41 (by decide) ?_
        refine lv_icmp_lt (tgt := 64) hx hb d_SD_refined_43 (by decide) (fun c_6 => ?_) (fun c_6 => ?_)
        · rw [if_pos c_6] at hf
          obtain rfl : 1 = res := Option.some.inj hf
          obtain ⟨sa, hsa⟩ := hT.2.2.2.2 (112, "a shift is -4 to 4") (by decide)
          exact t_throw (names := th_names) hx hb hl9 hown (by decide +kernel) (by decide +kernel) (hts _ t_566) (hts _ t_67) hsa (th_words th_all_72 hts (hts _ th_ini) hT) hS.1 (hl.1.trans hml.symm) d_SD_refined_64 d_SD_refined_67 d_SD_refined_68 d_SD_refined_70 d_SD_refined_73 (fun x h => absurd (hno x h) id) (Nat.lt_of_lt_of_le (by decide) hRf) (Nat.le_trans (Nat.le_of_ble_eq_true rfl) hRl) hRc.1 hRc.2 hlocks
        · rw [if_neg c_6] at hf
          refine lv_iload_n hx hb d_SD_refined_46 rfl (lv_at hl 4 rfl) ?_
          refine lv_iconst (v := 4) hx hb d_SD_refined_47 (by decide) ?_
          refine lv_icmp_gt (tgt := 64) hx hb d_SD_refined_48 (by decide) (fun c_7 => ?_) (fun c_7 => ?_)
          · rw [if_pos c_7] at hf
            obtain rfl : 1 = res := Option.some.inj hf
            obtain ⟨sa, hsa⟩ := hT.2.2.2.2 (112, "a shift is -4 to 4") (by decide)
            exact t_throw (names := th_names) hx hb hl9 hown (by decide +kernel) (by decide +kernel) (hts _ t_566) (hts _ t_67) hsa (th_words th_all_72 hts (hts _ th_ini) hT) hS.1 (hl.1.trans hml.symm) d_SD_refined_64 d_SD_refined_67 d_SD_refined_68 d_SD_refined_70 d_SD_refined_73 (fun x h => absurd (hno x h) id) (Nat.lt_of_lt_of_le (by decide) hRf) (Nat.le_trans (Nat.le_of_ble_eq_true rfl) hRl) hRc.1 hRc.2 hlocks
          · rw [if_neg c_7] at hf
            refine lv_iload hx hb d_SD_refined_51 (lv_at hl 5 rfl) ?_
            refine lv_bipush (v := (-4)) hx hb d_SD_refined_53 (by decide) ?_
            refine lv_icmp_lt (tgt := 64) hx hb d_SD_refined_55 (by decide) (fun c_8 => ?_) (fun c_8 => ?_)
            · rw [if_pos c_8] at hf
              obtain rfl : 1 = res := Option.some.inj hf
              obtain ⟨sa, hsa⟩ := hT.2.2.2.2 (112, "a shift is -4 to 4") (by decide)
              exact t_throw (names := th_names) hx hb hl9 hown (by decide +kernel) (by decide +kernel) (hts _ t_566) (hts _ t_67) hsa (th_words th_all_72 hts (hts _ th_ini) hT) hS.1 (hl.1.trans hml.symm) d_SD_refined_64 d_SD_refined_67 d_SD_refined_68 d_SD_refined_70 d_SD_refined_73 (fun x h => absurd (hno x h) id) (Nat.lt_of_lt_of_le (by decide) hRf) (Nat.le_trans (Nat.le_of_ble_eq_true rfl) hRl) hRc.1 hRc.2 hlocks
            · rw [if_neg c_8] at hf
              refine lv_iload hx hb d_SD_refined_58 (lv_at hl 5 rfl) ?_
              refine lv_iconst (v := 4) hx hb d_SD_refined_60 (by decide) ?_
              refine lv_icmp_le (tgt := 74) hx hb d_SD_refined_61 (by decide) (fun c_9 => ?_) (fun c_9 => ?_)
              · rw [if_pos c_9] at hf
                refine lv_aload_n hx hb d_SD_refined_74 rfl (lv_at hl 1 rfl) ?_
                refine va_get (D := (dC, dI)) (ci := 6) (v := .ref (cu_a 0)) (C := R_SD) (T := T_SD) (N := 7) hx hb hts in_SD hown hK hP 0 rfl rfl 5 (by decide) (hts _ t_263) (fun _ h9 => h9) rfl d_SD_refined_75 ?_
                refine lv_iload_n hx hb d_SD_refined_78 rfl (lv_at hl 3 rfl) ?_
                refine lv_iload_n hx hb d_SD_refined_79 rfl (lv_at hl 2 rfl) ?_
                have hPc := hP.sub (ws' := (wSy cI cZ cJ cu_a cu)) [1, 2, 3, 4, 5, 6, 7, 8, 9, 10] rfl
                have hDc := hD.sub (ws' := (wSy cI cZ cJ cu_a cu)) [1, 2, 3, 4, 5, 6, 7, 8, 9, 10] (by decide) rfl
                obtain ⟨r_10, hf1, hf⟩ := bd_ex hf
                try dsimp only at hf
                refine va_calli (va_runV (As := [.int x2, .int x1]) (rest := []) ⟨hx, hb, hml, hown, hts⟩ (k0_Symbols_comesBefore l dC dI cI cZ cJ cu_a _ hf1) (cwV 2 hts (gV t_715 t_293 t_294 t_62 t_295) rfl rfl rfl hd_Symbols_comesBefore ⟨Nat.le_trans (Nat.le_of_ble_eq_true rfl) hRf, Nat.le_trans (Nat.le_of_ble_eq_true rfl) hRl⟩) ⟨kP_blind, va_recv hK hP (ci := 0) (q0 := 1) rfl rfl, kP_at hPc hK hDc hN⟩ rfl rfl hl.1 rfl (lv_room (Nat.le_of_ble_eq_true rfl)) d_SD_refined_80 ⟨Nat.zero_le _, Nat.zero_le _⟩) hS (fun q h1 h2 => absurd h2 (Nat.not_le.mpr h1)) (fun q h => Nat.le_trans hS.1 h) (fun r9 u t H1 locs ht hvm hw hB hz1 hk1 hS9 => ?_)
                rw [hw]
                refine va_forget (fun q hq => hS9.2.2 q hq) ?_
                have hP := hP.kept (fun k x hx9 => hk1 x.1 (hP k x hx9).lt (Nat.not_le.mpr (hP k x hx9).lt))
                have hS : va_S (fun q : Nat => s.heap.size ≤ q) s.heap H1 [] := ⟨hS9.1, hS9.2.1, fun _ h => nomatch h⟩
                generalize H1 = H at hP hS ⊢
                refine lv_if_ne (tgt := 96) hx hb d_SD_refined_83 (by decide) (fun c_11 => ?_) (fun c_11 => ?_)
                · rw [if_neg c_11] at hf
                  exact absurd hf (by simp)
                · rw [if_pos c_11] at hf
                  obtain rfl : 2 = res := Option.some.inj hf
                  obtain ⟨sa, hsa⟩ := hT.2.2.2.2 (120, "a base comes before its symbol") (by decide)
                  exact t_throw (names := th_names) hx hb hl9 hown (by decide +kernel) (by decide +kernel) (hts _ t_716) (hts _ t_71) hsa (th_words th_all_122 hts (hts _ th_ini) hT) hS.1 (hl.1.trans hml.symm) d_SD_refined_86 d_SD_refined_89 d_SD_refined_90 d_SD_refined_92 d_SD_refined_95 (fun x h => absurd (hno x h) id) (Nat.lt_of_lt_of_le (by decide) hRf) (Nat.le_trans (Nat.le_of_ble_eq_true rfl) hRl) hRc.1 hRc.2 hlocks
              · rw [if_neg c_9] at hf
                obtain rfl : 1 = res := Option.some.inj hf
                obtain ⟨sa, hsa⟩ := hT.2.2.2.2 (112, "a shift is -4 to 4") (by decide)
                exact t_throw (names := th_names) hx hb hl9 hown (by decide +kernel) (by decide +kernel) (hts _ t_566) (hts _ t_67) hsa (th_words th_all_72 hts (hts _ th_ini) hT) hS.1 (hl.1.trans hml.symm) d_SD_refined_64 d_SD_refined_67 d_SD_refined_68 d_SD_refined_70 d_SD_refined_73 (fun x h => absurd (hno x h) id) (Nat.lt_of_lt_of_le (by decide) hRf) (Nat.le_trans (Nat.le_of_ble_eq_true rfl) hRl) hRc.1 hRc.2 hlocks
    · rw [if_pos c_4] at hf
      exact absurd hf (by simp)

def e_SD_export (sd : Sd) (cu : Sy) (x1 : Int32) (x2 : Int32) : Option Nat := tc (e_SD_requireSymbol sd cu x1) <| none
set_option maxHeartbeats 4000000 in
set_option maxRecDepth 100000 in
theorem kt_SD_export (l : Launch) (hl9 : l.stackTraces = false) (dC : Nat → ClassId) (dI : Nat → Nat → Nat) (cI cZ cJ : ClassId) (sd_a : Nat → Nat) (cu_a : Nat → Nat) (lk_w : Nat) (lk_v : Nat) (lk_wr : Nat) (lk_rd : Nat) (lk_sp : Nat) (sz : Nat) {sd : Sd} {cu : Sy} {x1 : Int32} {x2 : Int32} {res : Nat} (hf : e_SD_export sd cu x1 x2 = some res) :
    tMet l y_SD_export ws_SD_export ({ frames := 7, cells := 1, slots := 6, locals := 111 }) (va_Pc [.ref (sd_a 0), .int x1, .int x2] (kPT (dC, dI) vwCl (TYS cI cZ cJ) (wSd cI cZ cJ sd_a lk_w lk_v lk_wr lk_rd (cu_a 0) lk_sp sd ++ wSy cI cZ cJ cu_a cu) sz)) (exN res) 1 6 := by
  refine tMet.ofW (cc := c_SD_export) (maxL := 4) (ret := (some .boolean)) (by decide) rfl ?_
  intro p e s m args below meth c s₁ B hml hno hv
  obtain ⟨rfl, ⟨hsz, hP, hK, hD, hN⟩, hT⟩ := hv
  have hx := B.exec
  have hb := B.bytes
  have hlocks := B.notSynchronized
  have hown : s.vm.findClass R_SD = some m.cls := findClass_of_methodNamed B.named
  have hts : ∀ w ∈ tb, w.before (List.toArray [Value.ref (sd_a 0), Value.int x1, Value.int x2]) s = true := fun w h => atoms_spec (ws := ws_SD_export) B.pre w (List.mem_cons_of_mem _ h)
  have hl := lv_entry ([.ref (sd_a 0), .int x1, .int x2]) (n := 4) (Nat.le_of_ble_eq_true rfl)
  rw [lg_entry_eq]
  generalize (lg_sl ([.ref (sd_a 0), .int x1, .int x2]) ++ List.replicate (4 - (lg_sl ([.ref (sd_a 0), .int x1, .int x2])).length) Slot.unset).toArray = ls at hl ⊢
  have hl : lv_has ls 4 [(0, .ref (sd_a 0)), (1, .int x1), (2, .int x2)] := hl
  have hS : va_S (fun q : Nat => s.heap.size ≤ q) s.heap s.heap [] := va_S.rf
  have hRf : 7 ≤ (headSpec ws_SD_export ({ frames := 7, cells := 1, slots := 6, locals := 111 })).room.frames := Nat.le_refl _
  have hRl : 111 ≤ (headSpec ws_SD_export ({ frames := 7, cells := 1, slots := 6, locals := 111 })).room.locals := Nat.le_refl _
  have hRc : 0 + 1 ≤ (headSpec ws_SD_export ({ frames := 7, cells := 1, slots := 6, locals := 111 })).room.cells ∧ 0 + 6 ≤ (headSpec ws_SD_export ({ frames := 7, cells := 1, slots := 6, locals := 111 })).room.slots := ⟨Nat.le_refl _, Nat.le_refl _⟩
  generalize (headSpec ws_SD_export ({ frames := 7, cells := 1, slots := 6, locals := 111 })).room = R at hRf hRl hRc ⊢
  obtain ⟨H, hH⟩ : ∃ H, H = s.heap := ⟨_, rfl⟩
  rw [← hH] at hP
  have hS : va_S (fun q : Nat => s.heap.size ≤ q) s.heap H [] := by rw [hH]; exact hS
  show W p l e R s m (List.toArray [Value.ref (sd_a 0), Value.int x1, Value.int x2]) below meth c s.heap [] 0 0 (tMQ below (exN res) (List.toArray [Value.ref (sd_a 0), Value.int x1, Value.int x2]) s 1 6) _
  rw [show s.heap = H from hH.symm]
  rw [e_SD_export] at hf
  refine lv_aload_n hx hb d_SD_export_0 rfl (lv_at hl 0 rfl) ?_
  refine lv_iload_n hx hb d_SD_export_1 rfl (lv_at hl 1 rfl) ?_
  have hPc := hP.sub (ws' := (wSd cI cZ cJ sd_a lk_w lk_v lk_wr lk_rd (cu_a 0) lk_sp sd ++ wSy cI cZ cJ cu_a cu)) [0, 1, 2, 3, 4, 5, 6, 7, 8, 9, 10] rfl
  have hDc := hD.sub (ws' := (wSd cI cZ cJ sd_a lk_w lk_v lk_wr lk_rd (cu_a 0) lk_sp sd ++ wSy cI cZ cJ cu_a cu)) [0, 1, 2, 3, 4, 5, 6, 7, 8, 9, 10] (by decide) rfl
  cases hc_1 : e_SD_requireSymbol sd cu x1 with
  | some c9 =>
    rw [hc_1] at hf
    obtain rfl : c9 = res := Option.some.inj hf
    refine t_run (E := exN c9) (As := [.int x1]) (rest := []) ⟨hx, hb, hml, hown, hts⟩ (kt_SD_requireSymbol l hl9 dC dI cI cZ cJ sd_a cu_a lk_w lk_v lk_wr lk_rd lk_sp _ hc_1) (cwV 1 hts (gV t_664 t_666 t_21 t_54 t_667) rfl rfl rfl hd_SD_requireSymbol ⟨Nat.le_trans (Nat.le_of_ble_eq_true rfl) hRf, Nat.le_trans (Nat.le_of_ble_eq_true rfl) hRl⟩) ⟨kPT_blind, va_recv hK hP (ci := 6) (q0 := 0) rfl rfl, kPT_at hPc hK hDc hN hS hT⟩ rfl hl.1 rfl (lv_room (Nat.le_of_ble_eq_true rfl)) d_SD_export_2 hRc (fun q ce H1 h1 h2 hq hv hcl => ?_)
    exact t_out (fun x h => absurd (hno x h) id) hlocks hq hv hcl
  | none =>
    rw [hc_1] at hf
    have hf := tc_none hf
    exact absurd hf (by simp)

def e_SD_told (sd : Sd) (cu : Sy) (x1 : Int32) (x2 : Int32) : Option Nat := tc (e_SD_requireSymbol sd cu x1) <| bd (f_SD_requireSymbol sd cu x1) <| fun _ => (if x2 = 0 then none else if x2 = 1 then none else if x2 = 2 then none else if x2 = 3 then none else if x2 = 4 then none else if x2 = 5 then none else if x2 = 6 then none else if x2 = 7 then none else some 1)
set_option maxHeartbeats 4000000 in
set_option maxRecDepth 100000 in
theorem kt_SD_told (l : Launch) (hl9 : l.stackTraces = false) (dC : Nat → ClassId) (dI : Nat → Nat → Nat) (cI cZ cJ : ClassId) (sd_a : Nat → Nat) (cu_a : Nat → Nat) (lk_w : Nat) (lk_v : Nat) (lk_wr : Nat) (lk_rd : Nat) (lk_sp : Nat) (sz : Nat) {sd : Sd} {cu : Sy} {x1 : Int32} {x2 : Int32} {res : Nat} (hf : e_SD_told sd cu x1 x2 = some res) :
    tMet l y_SD_told ws_SD_told ({ frames := 7, cells := 1, slots := 6, locals := 111 }) (va_Pc [.ref (sd_a 0), .int x1, .int x2] (kPT (dC, dI) vwCl (TYS cI cZ cJ) (wSd cI cZ cJ sd_a lk_w lk_v lk_wr lk_rd (cu_a 0) lk_sp sd ++ wSy cI cZ cJ cu_a cu) sz)) (exN res) 1 6 := by
  refine tMet.ofW (cc := c_SD_told) (maxL := 3) (ret := (some .int)) (by decide) rfl ?_
  intro p e s m args below meth c s₁ B hml hno hv
  obtain ⟨rfl, ⟨hsz, hP, hK, hD, hN⟩, hT⟩ := hv
  have hx := B.exec
  have hb := B.bytes
  have hlocks := B.notSynchronized
  have hown : s.vm.findClass R_SD = some m.cls := findClass_of_methodNamed B.named
  have hts : ∀ w ∈ tb, w.before (List.toArray [Value.ref (sd_a 0), Value.int x1, Value.int x2]) s = true := fun w h => atoms_spec (ws := ws_SD_told) B.pre w (List.mem_cons_of_mem _ h)
  have hl := lv_entry ([.ref (sd_a 0), .int x1, .int x2]) (n := 3) (Nat.le_of_ble_eq_true rfl)
  rw [lg_entry_eq]
  generalize (lg_sl ([.ref (sd_a 0), .int x1, .int x2]) ++ List.replicate (3 - (lg_sl ([.ref (sd_a 0), .int x1, .int x2])).length) Slot.unset).toArray = ls at hl ⊢
  have hl : lv_has ls 3 [(0, .ref (sd_a 0)), (1, .int x1), (2, .int x2)] := hl
  have hS : va_S (fun q : Nat => s.heap.size ≤ q) s.heap s.heap [] := va_S.rf
  have hRf : 7 ≤ (headSpec ws_SD_told ({ frames := 7, cells := 1, slots := 6, locals := 111 })).room.frames := Nat.le_refl _
  have hRl : 111 ≤ (headSpec ws_SD_told ({ frames := 7, cells := 1, slots := 6, locals := 111 })).room.locals := Nat.le_refl _
  have hRc : 0 + 1 ≤ (headSpec ws_SD_told ({ frames := 7, cells := 1, slots := 6, locals := 111 })).room.cells ∧ 0 + 6 ≤ (headSpec ws_SD_told ({ frames := 7, cells := 1, slots := 6, locals := 111 })).room.slots := ⟨Nat.le_refl _, Nat.le_refl _⟩
  generalize (headSpec ws_SD_told ({ frames := 7, cells := 1, slots := 6, locals := 111 })).room = R at hRf hRl hRc ⊢
  obtain ⟨H, hH⟩ : ∃ H, H = s.heap := ⟨_, rfl⟩
  rw [← hH] at hP
  have hS : va_S (fun q : Nat => s.heap.size ≤ q) s.heap H [] := by rw [hH]; exact hS
  show W p l e R s m (List.toArray [Value.ref (sd_a 0), Value.int x1, Value.int x2]) below meth c s.heap [] 0 0 (tMQ below (exN res) (List.toArray [Value.ref (sd_a 0), Value.int x1, Value.int x2]) s 1 6) _
  rw [show s.heap = H from hH.symm]
  rw [e_SD_told] at hf
  refine lv_aload_n hx hb d_SD_told_0 rfl (lv_at hl 0 rfl) ?_
  refine lv_iload_n hx hb d_SD_told_1 rfl (lv_at hl 1 rfl) ?_
  have hPc := hP.sub (ws' := (wSd cI cZ cJ sd_a lk_w lk_v lk_wr lk_rd (cu_a 0) lk_sp sd ++ wSy cI cZ cJ cu_a cu)) [0, 1, 2, 3, 4, 5, 6, 7, 8, 9, 10] rfl
  have hDc := hD.sub (ws' := (wSd cI cZ cJ sd_a lk_w lk_v lk_wr lk_rd (cu_a 0) lk_sp sd ++ wSy cI cZ cJ cu_a cu)) [0, 1, 2, 3, 4, 5, 6, 7, 8, 9, 10] (by decide) rfl
  cases hc_1 : e_SD_requireSymbol sd cu x1 with
  | some c9 =>
    rw [hc_1] at hf
    obtain rfl : c9 = res := Option.some.inj hf
    refine t_run (E := exN c9) (As := [.int x1]) (rest := []) ⟨hx, hb, hml, hown, hts⟩ (kt_SD_requireSymbol l hl9 dC dI cI cZ cJ sd_a cu_a lk_w lk_v lk_wr lk_rd lk_sp _ hc_1) (cwV 1 hts (gV t_664 t_666 t_21 t_54 t_667) rfl rfl rfl hd_SD_requireSymbol ⟨Nat.le_trans (Nat.le_of_ble_eq_true rfl) hRf, Nat.le_trans (Nat.le_of_ble_eq_true rfl) hRl⟩) ⟨kPT_blind, va_recv hK hP (ci := 6) (q0 := 0) rfl rfl, kPT_at hPc hK hDc hN hS hT⟩ rfl hl.1 rfl (lv_room (Nat.le_of_ble_eq_true rfl)) d_SD_told_2 hRc (fun q ce H1 h1 h2 hq hv hcl => ?_)
    exact t_out (fun x h => absurd (hno x h) id) hlocks hq hv hcl
  | none =>
    rw [hc_1] at hf
    have hf := tc_none hf
    obtain ⟨_, hf1, hf⟩ := bd_ex hf
    try dsimp only at hf
    refine va_callv (va_runV (As := [.int x1]) (rest := []) ⟨hx, hb, hml, hown, hts⟩ (k0_SD_requireSymbol l dC dI cI cZ cJ sd_a cu_a lk_w lk_v lk_wr lk_rd lk_sp _ hf1) (cwV 1 hts (gV t_664 t_666 t_21 t_54 t_667) rfl rfl rfl hd_SD_requireSymbol ⟨Nat.le_trans (Nat.le_of_ble_eq_true rfl) hRf, Nat.le_trans (Nat.le_of_ble_eq_true rfl) hRl⟩) ⟨kP_blind, va_recv hK hP (ci := 6) (q0 := 0) rfl rfl, kP_at hPc hK hDc hN⟩ rfl rfl hl.1 rfl (lv_room (Nat.le_of_ble_eq_true rfl)) d_SD_told_2 ⟨Nat.zero_le _, Nat.zero_le _⟩) hS (fun q h1 h2 => absurd h2 (Nat.not_le.mpr h1)) (fun q h => Nat.le_trans hS.1 h) (fun u t H1 locs ht hvm hw hB hz1 hk1 hS9 => ?_)
    refine va_forget (fun q hq => hS9.2.2 q hq) ?_
    have hP := hP.kept (fun k x hx9 => hk1 x.1 (hP k x hx9).lt (Nat.not_le.mpr (hP k x hx9).lt))
    have hS : va_S (fun q : Nat => s.heap.size ≤ q) s.heap H1 [] := ⟨hS9.1, hS9.2.1, fun _ h => nomatch h⟩
    generalize H1 = H at hP hS ⊢
    refine lv_iload_n hx hb d_SD_told_5 rfl (lv_at hl 2 rfl) ?_
    by_cases c_6_0 : x2 = 0
    · rw [if_pos c_6_0] at hf
      refine lv_tableIn (off := 46) (tgt := 52) hx hb d_SD_told_6 (by rw [c_6_0]; decide) (by rw [c_6_0]; decide) (by rw [c_6_0]; decide) (by decide) ?_
      exact absurd hf (by simp)
    rw [if_neg c_6_0] at hf
    by_cases c_6_1 : x2 = 1
    · rw [if_pos c_6_1] at hf
      refine lv_tableIn (off := 56) (tgt := 62) hx hb d_SD_told_6 (by rw [c_6_1]; decide) (by rw [c_6_1]; decide) (by rw [c_6_1]; decide) (by decide) ?_
      exact absurd hf (by simp)
    rw [if_neg c_6_1] at hf
    by_cases c_6_2 : x2 = 2
    · rw [if_pos c_6_2] at hf
      refine lv_tableIn (off := 66) (tgt := 72) hx hb d_SD_told_6 (by rw [c_6_2]; decide) (by rw [c_6_2]; decide) (by rw [c_6_2]; decide) (by decide) ?_
      exact absurd hf (by simp)
    rw [if_neg c_6_2] at hf
    by_cases c_6_3 : x2 = 3
    · rw [if_pos c_6_3] at hf
      refine lv_tableIn (off := 75) (tgt := 81) hx hb d_SD_told_6 (by rw [c_6_3]; decide) (by rw [c_6_3]; decide) (by rw [c_6_3]; decide) (by decide) ?_
      exact absurd hf (by simp)
    rw [if_neg c_6_3] at hf
    by_cases c_6_4 : x2 = 4
    · rw [if_pos c_6_4] at hf
      refine lv_tableIn (off := 93) (tgt := 99) hx hb d_SD_told_6 (by rw [c_6_4]; decide) (by rw [c_6_4]; decide) (by rw [c_6_4]; decide) (by decide) ?_
      exact absurd hf (by simp)
    rw [if_neg c_6_4] at hf
    by_cases c_6_5 : x2 = 5
    · rw [if_pos c_6_5] at hf
      refine lv_tableIn (off := 103) (tgt := 109) hx hb d_SD_told_6 (by rw [c_6_5]; decide) (by rw [c_6_5]; decide) (by rw [c_6_5]; decide) (by decide) ?_
      exact absurd hf (by simp)
    rw [if_neg c_6_5] at hf
    by_cases c_6_6 : x2 = 6
    · rw [if_pos c_6_6] at hf
      refine lv_tableIn (off := 113) (tgt := 119) hx hb d_SD_told_6 (by rw [c_6_6]; decide) (by rw [c_6_6]; decide) (by rw [c_6_6]; decide) (by decide) ?_
      exact absurd hf (by simp)
    rw [if_neg c_6_6] at hf
    by_cases c_6_7 : x2 = 7
    · rw [if_pos c_6_7] at hf
      refine lv_tableIn (off := 123) (tgt := 129) hx hb d_SD_told_6 (by rw [c_6_7]; decide) (by rw [c_6_7]; decide) (by rw [c_6_7]; decide) (by decide) ?_
      exact absurd hf (by simp)
    rw [if_neg c_6_7] at hf
    refine lv_tableOut (tgt := 138) hx hb d_SD_told_6 (sw_out8 c_6_0 c_6_1 c_6_2 c_6_3 c_6_4 c_6_5 c_6_6 c_6_7) (by decide) ?_
    obtain rfl : 1 = res := Option.some.inj hf
    obtain ⟨sa, hsa⟩ := hT.2.2.2.2 (185, "0 to 7 is told of a symbol") (by decide)
    exact t_throw (names := th_names) hx hb hl9 hown (by decide +kernel) (by decide +kernel) (hts _ t_566) (hts _ t_67) hsa (th_words th_all_72 hts (hts _ th_ini) hT) hS.1 (hl.1.trans hml.symm) d_SD_told_138 d_SD_told_141 d_SD_told_142 d_SD_told_144 d_SD_told_147 (fun x h => absurd (hno x h) id) (Nat.lt_of_lt_of_le (by decide) hRf) (Nat.le_trans (Nat.le_of_ble_eq_true rfl) hRl) hRc.1 hRc.2 hlocks

def e_SD_likeness (sd : Sd) (cu : Sy) (x1 : Int32) (x2 : Int32) : Option Nat := tc (e_SD_requireSymbol sd cu x1) <| bd (f_SD_requireSymbol sd cu x1) <| fun _ => tc (e_SD_requireSymbol sd cu x2) <| none
set_option maxHeartbeats 4000000 in
set_option maxRecDepth 100000 in
theorem kt_SD_likeness (l : Launch) (hl9 : l.stackTraces = false) (dC : Nat → ClassId) (dI : Nat → Nat → Nat) (cI cZ cJ : ClassId) (sd_a : Nat → Nat) (cu_a : Nat → Nat) (lk_w : Nat) (lk_v : Nat) (lk_wr : Nat) (lk_rd : Nat) (lk_sp : Nat) (sz : Nat) {sd : Sd} {cu : Sy} {x1 : Int32} {x2 : Int32} {res : Nat} (hf : e_SD_likeness sd cu x1 x2 = some res) :
    tMet l y_SD_likeness ws_SD_likeness ({ frames := 7, cells := 1, slots := 6, locals := 111 }) (va_Pc [.ref (sd_a 0), .int x1, .int x2] (kPT (dC, dI) vwCl (TYS cI cZ cJ) (wSd cI cZ cJ sd_a lk_w lk_v lk_wr lk_rd (cu_a 0) lk_sp sd ++ wSy cI cZ cJ cu_a cu) sz)) (exN res) 1 6 := by
  refine tMet.ofW (cc := c_SD_likeness) (maxL := 3) (ret := (some .int)) (by decide) rfl ?_
  intro p e s m args below meth c s₁ B hml hno hv
  obtain ⟨rfl, ⟨hsz, hP, hK, hD, hN⟩, hT⟩ := hv
  have hx := B.exec
  have hb := B.bytes
  have hlocks := B.notSynchronized
  have hown : s.vm.findClass R_SD = some m.cls := findClass_of_methodNamed B.named
  have hts : ∀ w ∈ tb, w.before (List.toArray [Value.ref (sd_a 0), Value.int x1, Value.int x2]) s = true := fun w h => atoms_spec (ws := ws_SD_likeness) B.pre w (List.mem_cons_of_mem _ h)
  have hl := lv_entry ([.ref (sd_a 0), .int x1, .int x2]) (n := 3) (Nat.le_of_ble_eq_true rfl)
  rw [lg_entry_eq]
  generalize (lg_sl ([.ref (sd_a 0), .int x1, .int x2]) ++ List.replicate (3 - (lg_sl ([.ref (sd_a 0), .int x1, .int x2])).length) Slot.unset).toArray = ls at hl ⊢
  have hl : lv_has ls 3 [(0, .ref (sd_a 0)), (1, .int x1), (2, .int x2)] := hl
  have hS : va_S (fun q : Nat => s.heap.size ≤ q) s.heap s.heap [] := va_S.rf
  have hRf : 7 ≤ (headSpec ws_SD_likeness ({ frames := 7, cells := 1, slots := 6, locals := 111 })).room.frames := Nat.le_refl _
  have hRl : 111 ≤ (headSpec ws_SD_likeness ({ frames := 7, cells := 1, slots := 6, locals := 111 })).room.locals := Nat.le_refl _
  have hRc : 0 + 1 ≤ (headSpec ws_SD_likeness ({ frames := 7, cells := 1, slots := 6, locals := 111 })).room.cells ∧ 0 + 6 ≤ (headSpec ws_SD_likeness ({ frames := 7, cells := 1, slots := 6, locals := 111 })).room.slots := ⟨Nat.le_refl _, Nat.le_refl _⟩
  generalize (headSpec ws_SD_likeness ({ frames := 7, cells := 1, slots := 6, locals := 111 })).room = R at hRf hRl hRc ⊢
  obtain ⟨H, hH⟩ : ∃ H, H = s.heap := ⟨_, rfl⟩
  rw [← hH] at hP
  have hS : va_S (fun q : Nat => s.heap.size ≤ q) s.heap H [] := by rw [hH]; exact hS
  show W p l e R s m (List.toArray [Value.ref (sd_a 0), Value.int x1, Value.int x2]) below meth c s.heap [] 0 0 (tMQ below (exN res) (List.toArray [Value.ref (sd_a 0), Value.int x1, Value.int x2]) s 1 6) _
  rw [show s.heap = H from hH.symm]
  rw [e_SD_likeness] at hf
  refine lv_aload_n hx hb d_SD_likeness_0 rfl (lv_at hl 0 rfl) ?_
  refine lv_iload_n hx hb d_SD_likeness_1 rfl (lv_at hl 1 rfl) ?_
  have hPc := hP.sub (ws' := (wSd cI cZ cJ sd_a lk_w lk_v lk_wr lk_rd (cu_a 0) lk_sp sd ++ wSy cI cZ cJ cu_a cu)) [0, 1, 2, 3, 4, 5, 6, 7, 8, 9, 10] rfl
  have hDc := hD.sub (ws' := (wSd cI cZ cJ sd_a lk_w lk_v lk_wr lk_rd (cu_a 0) lk_sp sd ++ wSy cI cZ cJ cu_a cu)) [0, 1, 2, 3, 4, 5, 6, 7, 8, 9, 10] (by decide) rfl
  cases hc_1 : e_SD_requireSymbol sd cu x1 with
  | some c9 =>
    rw [hc_1] at hf
    obtain rfl : c9 = res := Option.some.inj hf
    refine t_run (E := exN c9) (As := [.int x1]) (rest := []) ⟨hx, hb, hml, hown, hts⟩ (kt_SD_requireSymbol l hl9 dC dI cI cZ cJ sd_a cu_a lk_w lk_v lk_wr lk_rd lk_sp _ hc_1) (cwV 1 hts (gV t_664 t_666 t_21 t_54 t_667) rfl rfl rfl hd_SD_requireSymbol ⟨Nat.le_trans (Nat.le_of_ble_eq_true rfl) hRf, Nat.le_trans (Nat.le_of_ble_eq_true rfl) hRl⟩) ⟨kPT_blind, va_recv hK hP (ci := 6) (q0 := 0) rfl rfl, kPT_at hPc hK hDc hN hS hT⟩ rfl hl.1 rfl (lv_room (Nat.le_of_ble_eq_true rfl)) d_SD_likeness_2 hRc (fun q ce H1 h1 h2 hq hv hcl => ?_)
    exact t_out (fun x h => absurd (hno x h) id) hlocks hq hv hcl
  | none =>
    rw [hc_1] at hf
    have hf := tc_none hf
    obtain ⟨_, hf1, hf⟩ := bd_ex hf
    try dsimp only at hf
    refine va_callv (va_runV (As := [.int x1]) (rest := []) ⟨hx, hb, hml, hown, hts⟩ (k0_SD_requireSymbol l dC dI cI cZ cJ sd_a cu_a lk_w lk_v lk_wr lk_rd lk_sp _ hf1) (cwV 1 hts (gV t_664 t_666 t_21 t_54 t_667) rfl rfl rfl hd_SD_requireSymbol ⟨Nat.le_trans (Nat.le_of_ble_eq_true rfl) hRf, Nat.le_trans (Nat.le_of_ble_eq_true rfl) hRl⟩) ⟨kP_blind, va_recv hK hP (ci := 6) (q0 := 0) rfl rfl, kP_at hPc hK hDc hN⟩ rfl rfl hl.1 rfl (lv_room (Nat.le_of_ble_eq_true rfl)) d_SD_likeness_2 ⟨Nat.zero_le _, Nat.zero_le _⟩) hS (fun q h1 h2 => absurd h2 (Nat.not_le.mpr h1)) (fun q h => Nat.le_trans hS.1 h) (fun u t H1 locs ht hvm hw hB hz1 hk1 hS9 => ?_)
    refine va_forget (fun q hq => hS9.2.2 q hq) ?_
    have hP := hP.kept (fun k x hx9 => hk1 x.1 (hP k x hx9).lt (Nat.not_le.mpr (hP k x hx9).lt))
    have hS : va_S (fun q : Nat => s.heap.size ≤ q) s.heap H1 [] := ⟨hS9.1, hS9.2.1, fun _ h => nomatch h⟩
    generalize H1 = H at hP hS ⊢
    refine lv_aload_n hx hb d_SD_likeness_5 rfl (lv_at hl 0 rfl) ?_
    refine lv_iload_n hx hb d_SD_likeness_6 rfl (lv_at hl 2 rfl) ?_
    have hPc := hP.sub (ws' := (wSd cI cZ cJ sd_a lk_w lk_v lk_wr lk_rd (cu_a 0) lk_sp sd ++ wSy cI cZ cJ cu_a cu)) [0, 1, 2, 3, 4, 5, 6, 7, 8, 9, 10] rfl
    have hDc := hD.sub (ws' := (wSd cI cZ cJ sd_a lk_w lk_v lk_wr lk_rd (cu_a 0) lk_sp sd ++ wSy cI cZ cJ cu_a cu)) [0, 1, 2, 3, 4, 5, 6, 7, 8, 9, 10] (by decide) rfl
    cases hc_2 : e_SD_requireSymbol sd cu x2 with
    | some c9 =>
      rw [hc_2] at hf
      obtain rfl : c9 = res := Option.some.inj hf
      refine t_run (E := exN c9) (As := [.int x2]) (rest := []) ⟨hx, hb, hml, hown, hts⟩ (kt_SD_requireSymbol l hl9 dC dI cI cZ cJ sd_a cu_a lk_w lk_v lk_wr lk_rd lk_sp _ hc_2) (cwV 1 hts (gV t_664 t_666 t_21 t_54 t_667) rfl rfl rfl hd_SD_requireSymbol ⟨Nat.le_trans (Nat.le_of_ble_eq_true rfl) hRf, Nat.le_trans (Nat.le_of_ble_eq_true rfl) hRl⟩) ⟨kPT_blind, va_recv hK hP (ci := 6) (q0 := 0) rfl rfl, kPT_at hPc hK hDc hN hS hT⟩ rfl hl.1 rfl (lv_room (Nat.le_of_ble_eq_true rfl)) d_SD_likeness_7 hRc (fun q ce H1 h1 h2 hq hv hcl => ?_)
      exact t_out (fun x h => absurd (hno x h) id) hlocks hq hv hcl
    | none =>
      rw [hc_2] at hf
      have hf := tc_none hf
      exact absurd hf (by simp)

def e_SD_classes (sd : Sd) (cu : Sy) (x1 : Int32) : Option Nat := (if 0 ≤ x1 then none else some 1)
set_option maxHeartbeats 4000000 in
set_option maxRecDepth 100000 in
theorem kt_SD_classes (l : Launch) (hl9 : l.stackTraces = false) (dC : Nat → ClassId) (dI : Nat → Nat → Nat) (cI cZ cJ : ClassId) (sd_a : Nat → Nat) (cu_a : Nat → Nat) (lk_w : Nat) (lk_v : Nat) (lk_wr : Nat) (lk_rd : Nat) (lk_sp : Nat) (sz : Nat) {sd : Sd} {cu : Sy} {x1 : Int32} {res : Nat} (hf : e_SD_classes sd cu x1 = some res) :
    tMet l y_SD_classes ws_SD_classes ({ frames := 6, cells := 1, slots := 6, locals := 95 }) (va_Pc [.ref (sd_a 0), .int x1] (kPT (dC, dI) vwCl (TYS cI cZ cJ) (wSd cI cZ cJ sd_a lk_w lk_v lk_wr lk_rd (cu_a 0) lk_sp sd ++ wSy cI cZ cJ cu_a cu) sz)) (exN res) 1 6 := by
  refine tMet.ofW (cc := c_SD_classes) (maxL := 2) (ret := (some .int)) (by decide) rfl ?_
  intro p e s m args below meth c s₁ B hml hno hv
  obtain ⟨rfl, ⟨hsz, hP, hK, hD, hN⟩, hT⟩ := hv
  have hx := B.exec
  have hb := B.bytes
  have hlocks := B.notSynchronized
  have hown : s.vm.findClass R_SD = some m.cls := findClass_of_methodNamed B.named
  have hts : ∀ w ∈ tb, w.before (List.toArray [Value.ref (sd_a 0), Value.int x1]) s = true := fun w h => atoms_spec (ws := ws_SD_classes) B.pre w (List.mem_cons_of_mem _ h)
  have hl := lv_entry ([.ref (sd_a 0), .int x1]) (n := 2) (Nat.le_of_ble_eq_true rfl)
  rw [lg_entry_eq]
  generalize (lg_sl ([.ref (sd_a 0), .int x1]) ++ List.replicate (2 - (lg_sl ([.ref (sd_a 0), .int x1])).length) Slot.unset).toArray = ls at hl ⊢
  have hl : lv_has ls 2 [(0, .ref (sd_a 0)), (1, .int x1)] := hl
  have hS : va_S (fun q : Nat => s.heap.size ≤ q) s.heap s.heap [] := va_S.rf
  have hRf : 6 ≤ (headSpec ws_SD_classes ({ frames := 6, cells := 1, slots := 6, locals := 95 })).room.frames := Nat.le_refl _
  have hRl : 95 ≤ (headSpec ws_SD_classes ({ frames := 6, cells := 1, slots := 6, locals := 95 })).room.locals := Nat.le_refl _
  have hRc : 0 + 1 ≤ (headSpec ws_SD_classes ({ frames := 6, cells := 1, slots := 6, locals := 95 })).room.cells ∧ 0 + 6 ≤ (headSpec ws_SD_classes ({ frames := 6, cells := 1, slots := 6, locals := 95 })).room.slots := ⟨Nat.le_refl _, Nat.le_refl _⟩
  generalize (headSpec ws_SD_classes ({ frames := 6, cells := 1, slots := 6, locals := 95 })).room = R at hRf hRl hRc ⊢
  obtain ⟨H, hH⟩ : ∃ H, H = s.heap := ⟨_, rfl⟩
  rw [← hH] at hP
  have hS : va_S (fun q : Nat => s.heap.size ≤ q) s.heap H [] := by rw [hH]; exact hS
  show W p l e R s m (List.toArray [Value.ref (sd_a 0), Value.int x1]) below meth c s.heap [] 0 0 (tMQ below (exN res) (List.toArray [Value.ref (sd_a 0), Value.int x1]) s 1 6) _
  rw [show s.heap = H from hH.symm]
  rw [e_SD_classes] at hf
  refine lv_iload_n hx hb d_SD_classes_0 rfl (lv_at hl 1 rfl) ?_
  refine lv_if_ge (tgt := 14) hx hb d_SD_classes_1 (by decide) (fun c_1 => ?_) (fun c_1 => ?_)
  · rw [if_pos c_1] at hf
    exact absurd hf (by simp)
  · rw [if_neg c_1] at hf
    obtain rfl : 1 = res := Option.some.inj hf
    obtain ⟨sa, hsa⟩ := hT.2.2.2.2 (190, "a bound is not below 0") (by decide)
    exact t_throw (names := th_names) hx hb hl9 hown (by decide +kernel) (by decide +kernel) (hts _ t_566) (hts _ t_67) hsa (th_words th_all_72 hts (hts _ th_ini) hT) hS.1 (hl.1.trans hml.symm) d_SD_classes_4 d_SD_classes_7 d_SD_classes_8 d_SD_classes_10 d_SD_classes_13 (fun x h => absurd (hno x h) id) (Nat.lt_of_lt_of_le (by decide) hRf) (Nat.le_trans (Nat.le_of_ble_eq_true rfl) hRl) hRc.1 hRc.2 hlocks

def e_SD_cls (sd : Sd) (cu : Sy) (x1 : Int32) : Option Nat := tc (e_SD_requireSymbol sd cu x1) <| none
set_option maxHeartbeats 4000000 in
set_option maxRecDepth 100000 in
theorem kt_SD_cls (l : Launch) (hl9 : l.stackTraces = false) (dC : Nat → ClassId) (dI : Nat → Nat → Nat) (cI cZ cJ : ClassId) (sd_a : Nat → Nat) (cu_a : Nat → Nat) (lk_w : Nat) (lk_v : Nat) (lk_wr : Nat) (lk_rd : Nat) (lk_sp : Nat) (sz : Nat) {sd : Sd} {cu : Sy} {x1 : Int32} {res : Nat} (hf : e_SD_cls sd cu x1 = some res) :
    tMet l y_SD_cls ws_SD_cls ({ frames := 7, cells := 1, slots := 6, locals := 111 }) (va_Pc [.ref (sd_a 0), .int x1] (kPT (dC, dI) vwCl (TYS cI cZ cJ) (wSd cI cZ cJ sd_a lk_w lk_v lk_wr lk_rd (cu_a 0) lk_sp sd ++ wSy cI cZ cJ cu_a cu) sz)) (exN res) 1 6 := by
  refine tMet.ofW (cc := c_SD_cls) (maxL := 2) (ret := (some .int)) (by decide) rfl ?_
  intro p e s m args below meth c s₁ B hml hno hv
  obtain ⟨rfl, ⟨hsz, hP, hK, hD, hN⟩, hT⟩ := hv
  have hx := B.exec
  have hb := B.bytes
  have hlocks := B.notSynchronized
  have hown : s.vm.findClass R_SD = some m.cls := findClass_of_methodNamed B.named
  have hts : ∀ w ∈ tb, w.before (List.toArray [Value.ref (sd_a 0), Value.int x1]) s = true := fun w h => atoms_spec (ws := ws_SD_cls) B.pre w (List.mem_cons_of_mem _ h)
  have hl := lv_entry ([.ref (sd_a 0), .int x1]) (n := 2) (Nat.le_of_ble_eq_true rfl)
  rw [lg_entry_eq]
  generalize (lg_sl ([.ref (sd_a 0), .int x1]) ++ List.replicate (2 - (lg_sl ([.ref (sd_a 0), .int x1])).length) Slot.unset).toArray = ls at hl ⊢
  have hl : lv_has ls 2 [(0, .ref (sd_a 0)), (1, .int x1)] := hl
  have hS : va_S (fun q : Nat => s.heap.size ≤ q) s.heap s.heap [] := va_S.rf
  have hRf : 7 ≤ (headSpec ws_SD_cls ({ frames := 7, cells := 1, slots := 6, locals := 111 })).room.frames := Nat.le_refl _
  have hRl : 111 ≤ (headSpec ws_SD_cls ({ frames := 7, cells := 1, slots := 6, locals := 111 })).room.locals := Nat.le_refl _
  have hRc : 0 + 1 ≤ (headSpec ws_SD_cls ({ frames := 7, cells := 1, slots := 6, locals := 111 })).room.cells ∧ 0 + 6 ≤ (headSpec ws_SD_cls ({ frames := 7, cells := 1, slots := 6, locals := 111 })).room.slots := ⟨Nat.le_refl _, Nat.le_refl _⟩
  generalize (headSpec ws_SD_cls ({ frames := 7, cells := 1, slots := 6, locals := 111 })).room = R at hRf hRl hRc ⊢
  obtain ⟨H, hH⟩ : ∃ H, H = s.heap := ⟨_, rfl⟩
  rw [← hH] at hP
  have hS : va_S (fun q : Nat => s.heap.size ≤ q) s.heap H [] := by rw [hH]; exact hS
  show W p l e R s m (List.toArray [Value.ref (sd_a 0), Value.int x1]) below meth c s.heap [] 0 0 (tMQ below (exN res) (List.toArray [Value.ref (sd_a 0), Value.int x1]) s 1 6) _
  rw [show s.heap = H from hH.symm]
  rw [e_SD_cls] at hf
  refine lv_aload_n hx hb d_SD_cls_0 rfl (lv_at hl 0 rfl) ?_
  refine lv_iload_n hx hb d_SD_cls_1 rfl (lv_at hl 1 rfl) ?_
  have hPc := hP.sub (ws' := (wSd cI cZ cJ sd_a lk_w lk_v lk_wr lk_rd (cu_a 0) lk_sp sd ++ wSy cI cZ cJ cu_a cu)) [0, 1, 2, 3, 4, 5, 6, 7, 8, 9, 10] rfl
  have hDc := hD.sub (ws' := (wSd cI cZ cJ sd_a lk_w lk_v lk_wr lk_rd (cu_a 0) lk_sp sd ++ wSy cI cZ cJ cu_a cu)) [0, 1, 2, 3, 4, 5, 6, 7, 8, 9, 10] (by decide) rfl
  cases hc_1 : e_SD_requireSymbol sd cu x1 with
  | some c9 =>
    rw [hc_1] at hf
    obtain rfl : c9 = res := Option.some.inj hf
    refine t_run (E := exN c9) (As := [.int x1]) (rest := []) ⟨hx, hb, hml, hown, hts⟩ (kt_SD_requireSymbol l hl9 dC dI cI cZ cJ sd_a cu_a lk_w lk_v lk_wr lk_rd lk_sp _ hc_1) (cwV 1 hts (gV t_664 t_666 t_21 t_54 t_667) rfl rfl rfl hd_SD_requireSymbol ⟨Nat.le_trans (Nat.le_of_ble_eq_true rfl) hRf, Nat.le_trans (Nat.le_of_ble_eq_true rfl) hRl⟩) ⟨kPT_blind, va_recv hK hP (ci := 6) (q0 := 0) rfl rfl, kPT_at hPc hK hDc hN hS hT⟩ rfl hl.1 rfl (lv_room (Nat.le_of_ble_eq_true rfl)) d_SD_cls_2 hRc (fun q ce H1 h1 h2 hq hv hcl => ?_)
    exact t_out (fun x h => absurd (hno x h) id) hlocks hq hv hcl
  | none =>
    rw [hc_1] at hf
    have hf := tc_none hf
    exact absurd hf (by simp)

def e_SD_byteAt (sd : Sd) (w : Br) (x1 : Int32) : Option Nat := (if x1 < 0 then some 3 else (if x1 < (Br_n w) then none else some 3))
set_option maxHeartbeats 4000000 in
set_option maxRecDepth 100000 in
theorem kt_SD_byteAt (l : Launch) (hl9 : l.stackTraces = false) (dC : Nat → ClassId) (dI : Nat → Nat → Nat) (cI cZ cJ : ClassId) (sd_a : Nat → Nat) (w_a w_b : Nat) (lk_v : Nat) (lk_wr : Nat) (lk_rd : Nat) (lk_cu : Nat) (lk_sp : Nat) (sz : Nat) {sd : Sd} {w : Br} {x1 : Int32} {res : Nat} (hf : e_SD_byteAt sd w x1 = some res) :
    tMet l y_SD_byteAt ws_SD_byteAt ({ frames := 6, cells := 1, slots := 6, locals := 90 }) (va_Pc [.ref (sd_a 0), .int x1] (kPT (dC, dI) vwCl (TYS cI cZ cJ) (wSd cI cZ cJ sd_a w_a lk_v lk_wr lk_rd lk_cu lk_sp sd ++ wBr cI cZ cJ w_a w_b w) sz)) (exN res) 1 6 := by
  refine tMet.ofW (cc := c_SD_byteAt) (maxL := 2) (ret := (some .int)) (by decide) rfl ?_
  intro p e s m args below meth c s₁ B hml hno hv
  obtain ⟨rfl, ⟨hsz, hP, hK, hD, hN⟩, hT⟩ := hv
  have hx := B.exec
  have hb := B.bytes
  have hlocks := B.notSynchronized
  have hown : s.vm.findClass R_SD = some m.cls := findClass_of_methodNamed B.named
  have hts : ∀ w ∈ tb, w.before (List.toArray [Value.ref (sd_a 0), Value.int x1]) s = true := fun w h => atoms_spec (ws := ws_SD_byteAt) B.pre w (List.mem_cons_of_mem _ h)
  have hl := lv_entry ([.ref (sd_a 0), .int x1]) (n := 2) (Nat.le_of_ble_eq_true rfl)
  rw [lg_entry_eq]
  generalize (lg_sl ([.ref (sd_a 0), .int x1]) ++ List.replicate (2 - (lg_sl ([.ref (sd_a 0), .int x1])).length) Slot.unset).toArray = ls at hl ⊢
  have hl : lv_has ls 2 [(0, .ref (sd_a 0)), (1, .int x1)] := hl
  have hS : va_S (fun q : Nat => s.heap.size ≤ q) s.heap s.heap [] := va_S.rf
  have hRf : 6 ≤ (headSpec ws_SD_byteAt ({ frames := 6, cells := 1, slots := 6, locals := 90 })).room.frames := Nat.le_refl _
  have hRl : 90 ≤ (headSpec ws_SD_byteAt ({ frames := 6, cells := 1, slots := 6, locals := 90 })).room.locals := Nat.le_refl _
  have hRc : 0 + 1 ≤ (headSpec ws_SD_byteAt ({ frames := 6, cells := 1, slots := 6, locals := 90 })).room.cells ∧ 0 + 6 ≤ (headSpec ws_SD_byteAt ({ frames := 6, cells := 1, slots := 6, locals := 90 })).room.slots := ⟨Nat.le_refl _, Nat.le_refl _⟩
  generalize (headSpec ws_SD_byteAt ({ frames := 6, cells := 1, slots := 6, locals := 90 })).room = R at hRf hRl hRc ⊢
  obtain ⟨H, hH⟩ : ∃ H, H = s.heap := ⟨_, rfl⟩
  rw [← hH] at hP
  have hS : va_S (fun q : Nat => s.heap.size ≤ q) s.heap H [] := by rw [hH]; exact hS
  show W p l e R s m (List.toArray [Value.ref (sd_a 0), Value.int x1]) below meth c s.heap [] 0 0 (tMQ below (exN res) (List.toArray [Value.ref (sd_a 0), Value.int x1]) s 1 6) _
  rw [show s.heap = H from hH.symm]
  rw [e_SD_byteAt] at hf
  refine lv_iload_n hx hb d_SD_byteAt_0 rfl (lv_at hl 1 rfl) ?_
  refine lv_if_lt (tgt := 15) hx hb d_SD_byteAt_1 (by decide) (fun c_1 => ?_) (fun c_1 => ?_)
  · rw [if_pos c_1] at hf
    obtain rfl : 3 = res := Option.some.inj hf
    obtain ⟨sa, hsa⟩ := hT.2.2.2.2 (134, "there is no such byte") (by decide)
    exact t_throw (names := th_names) hx hb hl9 hown (by decide +kernel) (by decide +kernel) (hts _ t_668) (hts _ t_70) hsa (th_words th_all_136 hts (hts _ th_ini) hT) hS.1 (hl.1.trans hml.symm) d_SD_byteAt_15 d_SD_byteAt_18 d_SD_byteAt_19 d_SD_byteAt_21 d_SD_byteAt_24 (fun x h => absurd (hno x h) id) (Nat.lt_of_lt_of_le (by decide) hRf) (Nat.le_trans (Nat.le_of_ble_eq_true rfl) hRl) hRc.1 hRc.2 hlocks
  · rw [if_neg c_1] at hf
    refine lv_iload_n hx hb d_SD_byteAt_4 rfl (lv_at hl 1 rfl) ?_
    refine lv_aload_n hx hb d_SD_byteAt_5 rfl (lv_at hl 0 rfl) ?_
    refine va_get (D := (dC, dI)) (ci := 6) (v := .ref w_a) (C := R_SD) (T := T_SD) (N := 7) hx hb hts in_SD hown hK hP 0 rfl rfl 1 (by decide) (hts _ t_259) (fun _ h9 => h9) rfl d_SD_byteAt_6 ?_
    refine va_get (D := (dC, dI)) (ci := 1) (v := .int (Br_n w)) (C := R_ByteRow) (T := T_ByteRow) (N := 3) hx hb hts in_ByteRow hown hK hP 1 rfl rfl 1 (by decide) (hts _ t_97) (fun _ h9 => h9) rfl d_SD_byteAt_9 ?_
    refine lv_icmp_lt (tgt := 25) hx hb d_SD_byteAt_12 (by decide) (fun c_2 => ?_) (fun c_2 => ?_)
    · rw [if_pos c_2] at hf
      exact absurd hf (by simp)
    · rw [if_neg c_2] at hf
      obtain rfl : 3 = res := Option.some.inj hf
      obtain ⟨sa, hsa⟩ := hT.2.2.2.2 (134, "there is no such byte") (by decide)
      exact t_throw (names := th_names) hx hb hl9 hown (by decide +kernel) (by decide +kernel) (hts _ t_668) (hts _ t_70) hsa (th_words th_all_136 hts (hts _ th_ini) hT) hS.1 (hl.1.trans hml.symm) d_SD_byteAt_15 d_SD_byteAt_18 d_SD_byteAt_19 d_SD_byteAt_21 d_SD_byteAt_24 (fun x h => absurd (hno x h) id) (Nat.lt_of_lt_of_le (by decide) hRf) (Nat.le_trans (Nat.le_of_ble_eq_true rfl) hRl) hRc.1 hRc.2 hlocks

def e_SD_feed (sd : Sd) (v : Br) (x1 : Int32) : Option Nat := (if x1 < 0 then some 1 else (if x1 ≤ 255 then (if (Br_n v) < 3000 then none else some 4) else some 1))
set_option maxHeartbeats 4000000 in
set_option maxRecDepth 100000 in
theorem kt_SD_feed (l : Launch) (hl9 : l.stackTraces = false) (dC : Nat → ClassId) (dI : Nat → Nat → Nat) (cI cZ cJ : ClassId) (sd_a : Nat → Nat) (v_a v_b : Nat) (lk_w : Nat) (lk_wr : Nat) (lk_rd : Nat) (lk_cu : Nat) (lk_sp : Nat) (sz : Nat) {sd : Sd} {v : Br} {x1 : Int32} {res : Nat} (hf : e_SD_feed sd v x1 = some res) :
    tMet l y_SD_feed ws_SD_feed ({ frames := 6, cells := 1, slots := 6, locals := 107 }) (va_Pc [.ref (sd_a 0), .int x1] (kPT (dC, dI) vwCl (TYS cI cZ cJ) (wSd cI cZ cJ sd_a lk_w v_a lk_wr lk_rd lk_cu lk_sp sd ++ wBr cI cZ cJ v_a v_b v) sz)) (exN res) 1 6 := by
  refine tMet.ofW (cc := c_SD_feed) (maxL := 2) (ret := (some .int)) (by decide) rfl ?_
  intro p e s m args below meth c s₁ B hml hno hv
  obtain ⟨rfl, ⟨hsz, hP, hK, hD, hN⟩, hT⟩ := hv
  have hx := B.exec
  have hb := B.bytes
  have hlocks := B.notSynchronized
  have hown : s.vm.findClass R_SD = some m.cls := findClass_of_methodNamed B.named
  have hts : ∀ w ∈ tb, w.before (List.toArray [Value.ref (sd_a 0), Value.int x1]) s = true := fun w h => atoms_spec (ws := ws_SD_feed) B.pre w (List.mem_cons_of_mem _ h)
  have hl := lv_entry ([.ref (sd_a 0), .int x1]) (n := 2) (Nat.le_of_ble_eq_true rfl)
  rw [lg_entry_eq]
  generalize (lg_sl ([.ref (sd_a 0), .int x1]) ++ List.replicate (2 - (lg_sl ([.ref (sd_a 0), .int x1])).length) Slot.unset).toArray = ls at hl ⊢
  have hl : lv_has ls 2 [(0, .ref (sd_a 0)), (1, .int x1)] := hl
  have hS : va_S (fun q : Nat => s.heap.size ≤ q) s.heap s.heap [] := va_S.rf
  have hRf : 6 ≤ (headSpec ws_SD_feed ({ frames := 6, cells := 1, slots := 6, locals := 107 })).room.frames := Nat.le_refl _
  have hRl : 107 ≤ (headSpec ws_SD_feed ({ frames := 6, cells := 1, slots := 6, locals := 107 })).room.locals := Nat.le_refl _
  have hRc : 0 + 1 ≤ (headSpec ws_SD_feed ({ frames := 6, cells := 1, slots := 6, locals := 107 })).room.cells ∧ 0 + 6 ≤ (headSpec ws_SD_feed ({ frames := 6, cells := 1, slots := 6, locals := 107 })).room.slots := ⟨Nat.le_refl _, Nat.le_refl _⟩
  generalize (headSpec ws_SD_feed ({ frames := 6, cells := 1, slots := 6, locals := 107 })).room = R at hRf hRl hRc ⊢
  obtain ⟨H, hH⟩ : ∃ H, H = s.heap := ⟨_, rfl⟩
  rw [← hH] at hP
  have hS : va_S (fun q : Nat => s.heap.size ≤ q) s.heap H [] := by rw [hH]; exact hS
  show W p l e R s m (List.toArray [Value.ref (sd_a 0), Value.int x1]) below meth c s.heap [] 0 0 (tMQ below (exN res) (List.toArray [Value.ref (sd_a 0), Value.int x1]) s 1 6) _
  rw [show s.heap = H from hH.symm]
  rw [e_SD_feed] at hf
  refine lv_iload_n hx hb d_SD_feed_0 rfl (lv_at hl 1 rfl) ?_
  refine lv_if_lt (tgt := 11) hx hb d_SD_feed_1 (by decide) (fun c_1 => ?_) (fun c_1 => ?_)
  · rw [if_pos c_1] at hf
    obtain rfl : 1 = res := Option.some.inj hf
    obtain ⟨sa, hsa⟩ := hT.2.2.2.2 (140, "a byte is 0 to 255") (by decide)
    exact t_throw (names := th_names) hx hb hl9 hown (by decide +kernel) (by decide +kernel) (hts _ t_566) (hts _ t_67) hsa (th_words th_all_72 hts (hts _ th_ini) hT) hS.1 (hl.1.trans hml.symm) d_SD_feed_11 d_SD_feed_14 d_SD_feed_15 d_SD_feed_17 d_SD_feed_20 (fun x h => absurd (hno x h) id) (Nat.lt_of_lt_of_le (by decide) hRf) (Nat.le_trans (Nat.le_of_ble_eq_true rfl) hRl) hRc.1 hRc.2 hlocks
  · rw [if_neg c_1] at hf
    refine lv_iload_n hx hb d_SD_feed_4 rfl (lv_at hl 1 rfl) ?_
    refine lv_sipush (v := 255) hx hb d_SD_feed_5 (by decide) ?_
    refine lv_icmp_le (tgt := 21) hx hb d_SD_feed_8 (by decide) (fun c_2 => ?_) (fun c_2 => ?_)
    · rw [if_pos c_2] at hf
      refine lv_aload_n hx hb d_SD_feed_21 rfl (lv_at hl 0 rfl) ?_
      refine va_get (D := (dC, dI)) (ci := 6) (v := .ref v_a) (C := R_SD) (T := T_SD) (N := 7) hx hb hts in_SD hown hK hP 0 rfl rfl 2 (by decide) (hts _ t_260) (fun _ h9 => h9) rfl d_SD_feed_22 ?_
      refine va_get (D := (dC, dI)) (ci := 1) (v := .int (Br_n v)) (C := R_ByteRow) (T := T_ByteRow) (N := 3) hx hb hts in_ByteRow hown hK hP 1 rfl rfl 1 (by decide) (hts _ t_97) (fun _ h9 => h9) rfl d_SD_feed_25 ?_
      refine lv_sipush (v := 3000) hx hb d_SD_feed_28 (by decide) ?_
      refine lv_icmp_lt (tgt := 44) hx hb d_SD_feed_31 (by decide) (fun c_3 => ?_) (fun c_3 => ?_)
      · rw [if_pos c_3] at hf
        exact absurd hf (by simp)
      · rw [if_neg c_3] at hf
        obtain rfl : 4 = res := Option.some.inj hf
        obtain ⟨sa, hsa⟩ := hT.2.2.2.2 (142, "there are 3000 bytes to be read") (by decide)
        exact t_throw (names := th_names) hx hb hl9 hown (by decide +kernel) (by decide +kernel) (hts _ t_635) (hts _ t_68) hsa (th_words th_all_82 hts (hts _ th_ini) hT) hS.1 (hl.1.trans hml.symm) d_SD_feed_34 d_SD_feed_37 d_SD_feed_38 d_SD_feed_40 d_SD_feed_43 (fun x h => absurd (hno x h) id) (Nat.lt_of_lt_of_le (by decide) hRf) (Nat.le_trans (Nat.le_of_ble_eq_true rfl) hRl) hRc.1 hRc.2 hlocks
    · rw [if_neg c_2] at hf
      obtain rfl : 1 = res := Option.some.inj hf
      obtain ⟨sa, hsa⟩ := hT.2.2.2.2 (140, "a byte is 0 to 255") (by decide)
      exact t_throw (names := th_names) hx hb hl9 hown (by decide +kernel) (by decide +kernel) (hts _ t_566) (hts _ t_67) hsa (th_words th_all_72 hts (hts _ th_ini) hT) hS.1 (hl.1.trans hml.symm) d_SD_feed_11 d_SD_feed_14 d_SD_feed_15 d_SD_feed_17 d_SD_feed_20 (fun x h => absurd (hno x h) id) (Nat.lt_of_lt_of_le (by decide) hRf) (Nat.le_trans (Nat.le_of_ble_eq_true rfl) hRl) hRc.1 hRc.2 hlocks

def e_SD_pass (sd : Sd) (w : Br) (v : Br) : Option Nat := (if ((Br_n v) + (Br_n w)) ≤ 3000 then none else some 4)
set_option maxHeartbeats 4000000 in
set_option maxRecDepth 100000 in
theorem kt_SD_pass (l : Launch) (hl9 : l.stackTraces = false) (dC : Nat → ClassId) (dI : Nat → Nat → Nat) (cI cZ cJ : ClassId) (sd_a : Nat → Nat) (w_a w_b : Nat) (v_a v_b : Nat) (lk_wr : Nat) (lk_rd : Nat) (lk_cu : Nat) (lk_sp : Nat) (sz : Nat) {sd : Sd} {w : Br} {v : Br} {res : Nat} (hf : e_SD_pass sd w v = some res) :
    tMet l y_SD_pass ws_SD_pass ({ frames := 6, cells := 1, slots := 6, locals := 129 }) (va_Pc [.ref (sd_a 0)] (kPT (dC, dI) vwCl (TYS cI cZ cJ) (wSd cI cZ cJ sd_a w_a v_a lk_wr lk_rd lk_cu lk_sp sd ++ wBr cI cZ cJ w_a w_b w ++ wBr cI cZ cJ v_a v_b v) sz)) (exN res) 1 6 := by
  refine tMet.ofW (cc := c_SD_pass) (maxL := 1) (ret := (some .int)) (by decide) rfl ?_
  intro p e s m args below meth c s₁ B hml hno hv
  obtain ⟨rfl, ⟨hsz, hP, hK, hD, hN⟩, hT⟩ := hv
  have hx := B.exec
  have hb := B.bytes
  have hlocks := B.notSynchronized
  have hown : s.vm.findClass R_SD = some m.cls := findClass_of_methodNamed B.named
  have hts : ∀ w ∈ tb, w.before (List.toArray [Value.ref (sd_a 0)]) s = true := fun w h => atoms_spec (ws := ws_SD_pass) B.pre w (List.mem_cons_of_mem _ h)
  have hl := lv_entry ([.ref (sd_a 0)]) (n := 1) (Nat.le_of_ble_eq_true rfl)
  rw [lg_entry_eq]
  generalize (lg_sl ([.ref (sd_a 0)]) ++ List.replicate (1 - (lg_sl ([.ref (sd_a 0)])).length) Slot.unset).toArray = ls at hl ⊢
  have hl : lv_has ls 1 [(0, .ref (sd_a 0))] := hl
  have hS : va_S (fun q : Nat => s.heap.size ≤ q) s.heap s.heap [] := va_S.rf
  have hRf : 6 ≤ (headSpec ws_SD_pass ({ frames := 6, cells := 1, slots := 6, locals := 129 })).room.frames := Nat.le_refl _
  have hRl : 129 ≤ (headSpec ws_SD_pass ({ frames := 6, cells := 1, slots := 6, locals := 129 })).room.locals := Nat.le_refl _
  have hRc : 0 + 1 ≤ (headSpec ws_SD_pass ({ frames := 6, cells := 1, slots := 6, locals := 129 })).room.cells ∧ 0 + 6 ≤ (headSpec ws_SD_pass ({ frames := 6, cells := 1, slots := 6, locals := 129 })).room.slots := ⟨Nat.le_refl _, Nat.le_refl _⟩
  generalize (headSpec ws_SD_pass ({ frames := 6, cells := 1, slots := 6, locals := 129 })).room = R at hRf hRl hRc ⊢
  obtain ⟨H, hH⟩ : ∃ H, H = s.heap := ⟨_, rfl⟩
  rw [← hH] at hP
  have hS : va_S (fun q : Nat => s.heap.size ≤ q) s.heap H [] := by rw [hH]; exact hS
  show W p l e R s m (List.toArray [Value.ref (sd_a 0)]) below meth c s.heap [] 0 0 (tMQ below (exN res) (List.toArray [Value.ref (sd_a 0)]) s 1 6) _
  rw [show s.heap = H from hH.symm]
  rw [e_SD_pass] at hf
  refine lv_aload_n hx hb d_SD_pass_0 rfl (lv_at hl 0 rfl) ?_
  refine va_get (D := (dC, dI)) (ci := 6) (v := .ref v_a) (C := R_SD) (T := T_SD) (N := 7) hx hb hts in_SD hown hK hP 0 rfl rfl 2 (by decide) (hts _ t_260) (fun _ h9 => h9) rfl d_SD_pass_1 ?_
  refine va_get (D := (dC, dI)) (ci := 1) (v := .int (Br_n v)) (C := R_ByteRow) (T := T_ByteRow) (N := 3) hx hb hts in_ByteRow hown hK hP 3 rfl rfl 1 (by decide) (hts _ t_97) (fun _ h9 => h9) rfl d_SD_pass_4 ?_
  refine lv_aload_n hx hb d_SD_pass_7 rfl (lv_at hl 0 rfl) ?_
  refine va_get (D := (dC, dI)) (ci := 6) (v := .ref w_a) (C := R_SD) (T := T_SD) (N := 7) hx hb hts in_SD hown hK hP 0 rfl rfl 1 (by decide) (hts _ t_259) (fun _ h9 => h9) rfl d_SD_pass_8 ?_
  refine va_get (D := (dC, dI)) (ci := 1) (v := .int (Br_n w)) (C := R_ByteRow) (T := T_ByteRow) (N := 3) hx hb hts in_ByteRow hown hK hP 1 rfl rfl 1 (by decide) (hts _ t_97) (fun _ h9 => h9) rfl d_SD_pass_11 ?_
  refine lv_iadd hx hb d_SD_pass_14 ?_
  refine lv_sipush (v := 3000) hx hb d_SD_pass_15 (by decide) ?_
  refine lv_icmp_le (tgt := 31) hx hb d_SD_pass_18 (by decide) (fun c_1 => ?_) (fun c_1 => ?_)
  · rw [if_pos c_1] at hf
    exact absurd hf (by simp)
  · rw [if_neg c_1] at hf
    obtain rfl : 4 = res := Option.some.inj hf
    obtain ⟨sa, hsa⟩ := hT.2.2.2.2 (146, "there would be more than 3000 bytes to be read") (by decide)
    exact t_throw (names := th_names) hx hb hl9 hown (by decide +kernel) (by decide +kernel) (hts _ t_635) (hts _ t_68) hsa (th_words th_all_82 hts (hts _ th_ini) hT) hS.1 (hl.1.trans hml.symm) d_SD_pass_21 d_SD_pass_24 d_SD_pass_25 d_SD_pass_27 d_SD_pass_30 (fun x h => absurd (hno x h) id) (Nat.lt_of_lt_of_le (by decide) hRf) (Nat.le_trans (Nat.le_of_ble_eq_true rfl) hRl) hRc.1 hRc.2 hlocks
