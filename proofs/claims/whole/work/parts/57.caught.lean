theorem t_560 : (.classLink R_Law 13 "java/lang/IllegalArgumentException" : Cond) ∈ tb := List.mem_filter.mpr ⟨List.mem_of_getElem? (i := 560) (by decide +kernel), by decide +kernel⟩
theorem t_561 : (.classLink R_Law 15 "java/lang/UnsupportedOperationException" : Cond) ∈ tb := List.mem_filter.mpr ⟨List.mem_of_getElem? (i := 561) (by decide +kernel), by decide +kernel⟩
theorem t_655 : (.classLink R_Law 21 "java/lang/IndexOutOfBoundsException" : Cond) ∈ tb := List.mem_filter.mpr ⟨List.mem_of_getElem? (i := 655) (by decide +kernel), by decide +kernel⟩
theorem t_708 : (.classLink R_Law 35 "java/lang/IllegalStateException" : Cond) ∈ tb := List.mem_filter.mpr ⟨List.mem_of_getElem? (i := 708) (by decide +kernel), by decide +kernel⟩
/-! The law's helpers, runs in which the class throws and the helper answers the handler's number -/
def kX (U : State) : Prop := ∀ x ∈ th_cls, ∀ y ∈ th_cls, x ≠ y → va_Nc x y U
theorem kX_at {s U : State} (hW : s.vm.Alike U.vm) (h : kX s) : kX U := fun x hx y hy hxy => (h x hx y hy hxy).moved hW
def kPX (D : va_G) (cl : List vw_C) (tys : List (ClassId × FieldType)) (w : va_W) (sz : Nat) (U : State) : Prop := kPT D cl tys w sz U ∧ kX U
theorem kPX_blind {D : va_G} {cl : List vw_C} {tys : List (ClassId × FieldType)} {w : va_W} {sz : Nat} {av : List Value} : FrameBlind (va_Pc av (kPX D cl tys w sz)) := by
  intro a U g mk q
  obtain ⟨q0, q1, q2⟩ := q
  have h := kPT_blind (av := av) a U g mk ⟨q0, q1⟩
  exact ⟨h.1, h.2, kX_at (s := U) (U := U.calling g mk a) (State.WarmedH.refl U).alike q2⟩
theorem kPX_at {D : va_G} {cl : List vw_C} {tys : List (ClassId × FieldType)} {w : va_W} {H : Heap} {A : Nat → Prop} {s : State} {av : List Value} (hP : va_P D cl w H) (hK : va_K D cl tys s) (hD : va_D A w) (hN : kN s) (hS : ∀ q : Nat, q < s.heap.size → H[q]? = s.heap[q]?) (hT : kT s) (hX : kX s) :
    ∀ U : State, U.heap = H → s.WarmedH U.vm → va_Pc av (kPX D cl tys w H.size) av.toArray U := fun U hU hW => by
  have h := kP_at (av := av) hP hK hD hN U hU hW
  exact ⟨h.1, ⟨h.2, kT_at hW (fun q hq => by rw [hU]; exact hS q hq) hT⟩, kX_at hW.alike hX⟩
/-- a row that takes the thrown object -/
theorem hRow_take {pl : Platform} {s : State} {args : Array Value} {own nm : String} {d th : ClassId} {pc a b h idx : Nat} (hown : s.vm.findClass own = some d) (hpl : pl.magicAccessors = ({} : Platform).magicAccessors) (hlink : (Cond.classLink own idx nm).before args s = true) (hc : va_Nw (.castable nm nm) s) (hth : s.vm.findClass nm = some th) (hcov : covers ⟨a, b, h, idx⟩ pc = true) (h0 : idx ≠ 0) : hRow pl s d pc th true ⟨a, b, h, idx⟩ := by
  obtain ⟨c', hc', hcl⟩ := Cond.classLink_spec hown hlink pl hpl
  cases hth.symm.trans hc'
  obtain ⟨c3, t3, w1, w2, w3⟩ := Cond.castable_spec (show (Cond.castable nm nm).before args s = true from hc.use rfl)
  cases hth.symm.trans w1
  cases hth.symm.trans w2
  exact Or.inr ⟨hcov, h0, th, hcl, w3⟩
/-- a row that lets it pass -/
theorem hRow_pass {pl : Platform} {s : State} {args : Array Value} {own E nm : String} {d th : ClassId} {pc a b h idx : Nat} (hown : s.vm.findClass own = some d) (hpl : pl.magicAccessors = ({} : Platform).magicAccessors) (hlink : (Cond.classLink own idx nm).before args s = true) (hc : va_Nc E nm s) (hth : s.vm.findClass E = some th) (hcov : covers ⟨a, b, h, idx⟩ pc = true) (h0 : idx ≠ 0) : hRow pl s d pc th false ⟨a, b, h, idx⟩ := by
  obtain ⟨c', hc', hcl⟩ := Cond.classLink_spec hown hlink pl hpl
  obtain ⟨c0, t0, f1, f2, f3⟩ := hc
  cases hth.symm.trans f1
  cases f2.symm.trans hc'
  exact Or.inr ⟨hcov, h0, _, hcl, f3⟩
set_option maxHeartbeats 4000000 in
set_option maxRecDepth 100000 in
theorem kx_Law_symbol_1 (l : Launch) (hl9 : l.stackTraces = false) (dC : Nat → ClassId) (dI : Nat → Nat → Nat) (cI cZ cJ : ClassId) (sd_a : Nat → Nat) (cu_a : Nat → Nat) (ou_a : Nat → Nat) (lk_w : Nat) (lk_v : Nat) (lk_wr : Nat) (lk_rd : Nat) (lk_sp : Nat) (sz : Nat) {sd : Sd} {cu : Sy} {ou : Ou} {x1 : Int32} {x2 : Int32} (hf : e_SD_symbol sd cu x1 x2 = some 1) :
    Met l y_Law_symbol ws_Law_symbol ({ frames := 7, cells := 1, slots := 6, locals := 112 }) (va_Pc [.ref (sd_a 0), .int x1, .int x2, .ref (ou_a 0)] (kPX (dC, dI) vwCl (TYS cI cZ cJ) (wSd cI cZ cJ sd_a lk_w lk_v lk_wr lk_rd (cu_a 0) lk_sp sd ++ wSy cI cZ cJ cu_a cu ++ wOu cI cZ cJ ou_a ou) sz)) (va_Qi (fun (q : Int32) (_ : Unit) => q = 1) (fun _ t => kQ (dC, dI) vwCl (TYS cI cZ cJ) (wSd cI cZ cJ sd_a lk_w lk_v lk_wr lk_rd (cu_a 0) lk_sp sd ++ wSy cI cZ cJ cu_a cu ++ wOu cI cZ cJ ou_a ou) sz (wSd cI cZ cJ sd_a lk_w lk_v lk_wr lk_rd (cu_a 0) lk_sp sd ++ wSy cI cZ cJ cu_a cu ++ wOu cI cZ cJ ou_a ou) t) (va_A (wSd cI cZ cJ sd_a lk_w lk_v lk_wr lk_rd (cu_a 0) lk_sp sd ++ wSy cI cZ cJ cu_a cu ++ wOu cI cZ cJ ou_a ou) sz)) 1 6 (va_A (wSd cI cZ cJ sd_a lk_w lk_v lk_wr lk_rd (cu_a 0) lk_sp sd ++ wSy cI cZ cJ cu_a cu ++ wOu cI cZ cJ ou_a ou) sz) := by
  refine va_MetW (hh := [((0), (10), (13), (13)), ((0), (10), (17), (15))]) (cc := c_Law_symbol) (maxL := 5) (ret := (some .int)) (by decide) rfl ?_
  intro p e s m args below meth c s₁ B hml hv
  obtain ⟨rfl, ⟨⟨hsz, hP, hK, hD0, hN⟩, hT⟩, hX⟩ := hv
  have hr := B.returns
  have hlocks := B.notSynchronized
  subst hsz
  have hD := hD0.self (sz := s.heap.size)
  have hx := B.exec
  have hb := B.bytes
  have hown : s.vm.findClass R_Law = some m.cls := findClass_of_methodNamed B.named
  have hts : ∀ w ∈ tb, w.before (List.toArray [Value.ref (sd_a 0), Value.int x1, Value.int x2, Value.ref (ou_a 0)]) s = true := fun w h => atoms_spec (ws := ws_Law_symbol) B.pre w (List.mem_cons_of_mem _ h)
  have htab := w_tab B rfl
  have hl := lv_entry ([.ref (sd_a 0), .int x1, .int x2, .ref (ou_a 0)]) (n := 5) (Nat.le_of_ble_eq_true rfl)
  rw [lg_entry_eq]
  generalize (lg_sl ([.ref (sd_a 0), .int x1, .int x2, .ref (ou_a 0)]) ++ List.replicate (5 - (lg_sl ([.ref (sd_a 0), .int x1, .int x2, .ref (ou_a 0)])).length) Slot.unset).toArray = ls at hl ⊢
  have hl : lv_has ls 5 [(0, .ref (sd_a 0)), (1, .int x1), (2, .int x2), (3, .ref (ou_a 0))] := hl
  have hRf : 7 ≤ (headSpec ws_Law_symbol ({ frames := 7, cells := 1, slots := 6, locals := 112 })).room.frames := Nat.le_refl _
  have hRl : 112 ≤ (headSpec ws_Law_symbol ({ frames := 7, cells := 1, slots := 6, locals := 112 })).room.locals := Nat.le_refl _
  have hRc : 0 + 1 ≤ (headSpec ws_Law_symbol ({ frames := 7, cells := 1, slots := 6, locals := 112 })).room.cells ∧ 0 + 6 ≤ (headSpec ws_Law_symbol ({ frames := 7, cells := 1, slots := 6, locals := 112 })).room.slots := ⟨Nat.le_refl _, Nat.le_refl _⟩
  generalize (headSpec ws_Law_symbol ({ frames := 7, cells := 1, slots := 6, locals := 112 })).room = R at hRf hRl hRc ⊢
  refine lv_aload_n hx hb d_Law_symbol_0 rfl (lv_at hl 3 rfl) ?_
  refine lv_iconst (v := 0) hx hb d_Law_symbol_1 (by decide) ?_
  refine lv_aload_n hx hb d_Law_symbol_2 rfl (lv_at hl 0 rfl) ?_
  refine lv_iload_n hx hb d_Law_symbol_3 rfl (lv_at hl 1 rfl) ?_
  refine lv_iload_n hx hb d_Law_symbol_4 rfl (lv_at hl 2 rfl) ?_
  have hPc := hP.sub (ws' := (wSd cI cZ cJ sd_a lk_w lk_v lk_wr lk_rd (cu_a 0) lk_sp sd ++ wSy cI cZ cJ cu_a cu)) [0, 1, 2, 3, 4, 5, 6, 7, 8, 9, 10] rfl
  have hDc := hD.sub (ws' := (wSd cI cZ cJ sd_a lk_w lk_v lk_wr lk_rd (cu_a 0) lk_sp sd ++ wSy cI cZ cJ cu_a cu)) [0, 1, 2, 3, 4, 5, 6, 7, 8, 9, 10] (by decide) rfl
  refine t_run (E := exN 1) (As := [.int x1, .int x2]) (rest := [.int 0, .ref (ou_a 0)]) ⟨hx, hb, hml, hown, hts⟩ (kt_SD_symbol l hl9 dC dI cI cZ cJ sd_a cu_a lk_w lk_v lk_wr lk_rd lk_sp _ hf) (cwV 2 hts (gV t_562 t_563 t_564 t_54 t_565) rfl rfl rfl hd_SD_symbol ⟨Nat.le_trans (Nat.le_of_ble_eq_true rfl) hRf, Nat.le_trans (Nat.le_of_ble_eq_true rfl) hRl⟩) ⟨kPT_blind, va_recv hK hP (ci := 6) (q0 := 0) rfl rfl, kPT_at hPc hK hDc hN va_S.rf hT⟩ rfl hl.1 rfl (lv_room (Nat.le_of_ble_eq_true rfl)) d_Law_symbol_5 hRc (fun q ce H1 h1 h2 hq hv hcl => ?_)
  obtain ⟨kE, hkE, -⟩ := Vm.findClass_spec hcl
  refine t_catch [] ⟨0, 10, 13, 13⟩ [⟨0, 10, 17, 15⟩] htab (fun hpl => ⟨(List.forall_mem_nil _), hRow_take (nm := "java/lang/IllegalArgumentException") hown hpl (hts _ t_560) (hT.1 _ (by decide)) hcl (by decide) (by decide)⟩) ⟨kE, hkE⟩ hq hv ?_
  refine lv_astore (lv' := [(4, .ref q), (0, .ref (sd_a 0)), (1, .int x1), (2, .int x2), (3, .ref (ou_a 0))]) hx hb d_Law_symbol_13 hl (by decide) rfl (fun ls hl => ?_)
  refine lv_iconst (v := 1) hx hb d_Law_symbol_15 (by decide) ?_
  have hP := hP.kept (fun k x hx9 => h2 x.1 (hP k x hx9).lt)
  have hS : va_S (va_A (wSd cI cZ cJ sd_a lk_w lk_v lk_wr lk_rd (cu_a 0) lk_sp sd ++ wSy cI cZ cJ cu_a cu ++ wOu cI cZ cJ ou_a ou) s.heap.size) s.heap H1 [] := ⟨h1, fun q hq _ => h2 q hq, fun _ h => nomatch h⟩
  exact W.iret B.exec B.bytes hr (fun t ht hW => ⟨⟨_, (), rfl, rfl, ⟨by rw [ht]; exact hP, va_K.moved hW.alike hK, hD⟩⟩, hS.F ht⟩) hS.2.2 d_Law_symbol_16

set_option maxHeartbeats 4000000 in
set_option maxRecDepth 100000 in
theorem kx_Law_symbol_4 (l : Launch) (hl9 : l.stackTraces = false) (dC : Nat → ClassId) (dI : Nat → Nat → Nat) (cI cZ cJ : ClassId) (sd_a : Nat → Nat) (cu_a : Nat → Nat) (ou_a : Nat → Nat) (lk_w : Nat) (lk_v : Nat) (lk_wr : Nat) (lk_rd : Nat) (lk_sp : Nat) (sz : Nat) {sd : Sd} {cu : Sy} {ou : Ou} {x1 : Int32} {x2 : Int32} (hf : e_SD_symbol sd cu x1 x2 = some 4) :
    Met l y_Law_symbol ws_Law_symbol ({ frames := 7, cells := 1, slots := 6, locals := 112 }) (va_Pc [.ref (sd_a 0), .int x1, .int x2, .ref (ou_a 0)] (kPX (dC, dI) vwCl (TYS cI cZ cJ) (wSd cI cZ cJ sd_a lk_w lk_v lk_wr lk_rd (cu_a 0) lk_sp sd ++ wSy cI cZ cJ cu_a cu ++ wOu cI cZ cJ ou_a ou) sz)) (va_Qi (fun (q : Int32) (_ : Unit) => q = 2) (fun _ t => kQ (dC, dI) vwCl (TYS cI cZ cJ) (wSd cI cZ cJ sd_a lk_w lk_v lk_wr lk_rd (cu_a 0) lk_sp sd ++ wSy cI cZ cJ cu_a cu ++ wOu cI cZ cJ ou_a ou) sz (wSd cI cZ cJ sd_a lk_w lk_v lk_wr lk_rd (cu_a 0) lk_sp sd ++ wSy cI cZ cJ cu_a cu ++ wOu cI cZ cJ ou_a ou) t) (va_A (wSd cI cZ cJ sd_a lk_w lk_v lk_wr lk_rd (cu_a 0) lk_sp sd ++ wSy cI cZ cJ cu_a cu ++ wOu cI cZ cJ ou_a ou) sz)) 1 6 (va_A (wSd cI cZ cJ sd_a lk_w lk_v lk_wr lk_rd (cu_a 0) lk_sp sd ++ wSy cI cZ cJ cu_a cu ++ wOu cI cZ cJ ou_a ou) sz) := by
  refine va_MetW (hh := [((0), (10), (13), (13)), ((0), (10), (17), (15))]) (cc := c_Law_symbol) (maxL := 5) (ret := (some .int)) (by decide) rfl ?_
  intro p e s m args below meth c s₁ B hml hv
  obtain ⟨rfl, ⟨⟨hsz, hP, hK, hD0, hN⟩, hT⟩, hX⟩ := hv
  have hr := B.returns
  have hlocks := B.notSynchronized
  subst hsz
  have hD := hD0.self (sz := s.heap.size)
  have hx := B.exec
  have hb := B.bytes
  have hown : s.vm.findClass R_Law = some m.cls := findClass_of_methodNamed B.named
  have hts : ∀ w ∈ tb, w.before (List.toArray [Value.ref (sd_a 0), Value.int x1, Value.int x2, Value.ref (ou_a 0)]) s = true := fun w h => atoms_spec (ws := ws_Law_symbol) B.pre w (List.mem_cons_of_mem _ h)
  have htab := w_tab B rfl
  have hl := lv_entry ([.ref (sd_a 0), .int x1, .int x2, .ref (ou_a 0)]) (n := 5) (Nat.le_of_ble_eq_true rfl)
  rw [lg_entry_eq]
  generalize (lg_sl ([.ref (sd_a 0), .int x1, .int x2, .ref (ou_a 0)]) ++ List.replicate (5 - (lg_sl ([.ref (sd_a 0), .int x1, .int x2, .ref (ou_a 0)])).length) Slot.unset).toArray = ls at hl ⊢
  have hl : lv_has ls 5 [(0, .ref (sd_a 0)), (1, .int x1), (2, .int x2), (3, .ref (ou_a 0))] := hl
  have hRf : 7 ≤ (headSpec ws_Law_symbol ({ frames := 7, cells := 1, slots := 6, locals := 112 })).room.frames := Nat.le_refl _
  have hRl : 112 ≤ (headSpec ws_Law_symbol ({ frames := 7, cells := 1, slots := 6, locals := 112 })).room.locals := Nat.le_refl _
  have hRc : 0 + 1 ≤ (headSpec ws_Law_symbol ({ frames := 7, cells := 1, slots := 6, locals := 112 })).room.cells ∧ 0 + 6 ≤ (headSpec ws_Law_symbol ({ frames := 7, cells := 1, slots := 6, locals := 112 })).room.slots := ⟨Nat.le_refl _, Nat.le_refl _⟩
  generalize (headSpec ws_Law_symbol ({ frames := 7, cells := 1, slots := 6, locals := 112 })).room = R at hRf hRl hRc ⊢
  refine lv_aload_n hx hb d_Law_symbol_0 rfl (lv_at hl 3 rfl) ?_
  refine lv_iconst (v := 0) hx hb d_Law_symbol_1 (by decide) ?_
  refine lv_aload_n hx hb d_Law_symbol_2 rfl (lv_at hl 0 rfl) ?_
  refine lv_iload_n hx hb d_Law_symbol_3 rfl (lv_at hl 1 rfl) ?_
  refine lv_iload_n hx hb d_Law_symbol_4 rfl (lv_at hl 2 rfl) ?_
  have hPc := hP.sub (ws' := (wSd cI cZ cJ sd_a lk_w lk_v lk_wr lk_rd (cu_a 0) lk_sp sd ++ wSy cI cZ cJ cu_a cu)) [0, 1, 2, 3, 4, 5, 6, 7, 8, 9, 10] rfl
  have hDc := hD.sub (ws' := (wSd cI cZ cJ sd_a lk_w lk_v lk_wr lk_rd (cu_a 0) lk_sp sd ++ wSy cI cZ cJ cu_a cu)) [0, 1, 2, 3, 4, 5, 6, 7, 8, 9, 10] (by decide) rfl
  refine t_run (E := exN 4) (As := [.int x1, .int x2]) (rest := [.int 0, .ref (ou_a 0)]) ⟨hx, hb, hml, hown, hts⟩ (kt_SD_symbol l hl9 dC dI cI cZ cJ sd_a cu_a lk_w lk_v lk_wr lk_rd lk_sp _ hf) (cwV 2 hts (gV t_562 t_563 t_564 t_54 t_565) rfl rfl rfl hd_SD_symbol ⟨Nat.le_trans (Nat.le_of_ble_eq_true rfl) hRf, Nat.le_trans (Nat.le_of_ble_eq_true rfl) hRl⟩) ⟨kPT_blind, va_recv hK hP (ci := 6) (q0 := 0) rfl rfl, kPT_at hPc hK hDc hN va_S.rf hT⟩ rfl hl.1 rfl (lv_room (Nat.le_of_ble_eq_true rfl)) d_Law_symbol_5 hRc (fun q ce H1 h1 h2 hq hv hcl => ?_)
  obtain ⟨kE, hkE, -⟩ := Vm.findClass_spec hcl
  refine t_catch [⟨0, 10, 13, 13⟩] ⟨0, 10, 17, 15⟩ [] htab (fun hpl => ⟨(List.forall_mem_cons.mpr ⟨(hRow_pass (E := "java/lang/UnsupportedOperationException") (nm := "java/lang/IllegalArgumentException") hown hpl (hts _ t_560) (hX _ (by decide) _ (by decide) (by decide)) hcl (by decide) (by decide)), (List.forall_mem_nil _)⟩), hRow_take (nm := "java/lang/UnsupportedOperationException") hown hpl (hts _ t_561) (hT.1 _ (by decide)) hcl (by decide) (by decide)⟩) ⟨kE, hkE⟩ hq hv ?_
  refine lv_astore (lv' := [(4, .ref q), (0, .ref (sd_a 0)), (1, .int x1), (2, .int x2), (3, .ref (ou_a 0))]) hx hb d_Law_symbol_17 hl (by decide) rfl (fun ls hl => ?_)
  refine lv_iconst (v := 2) hx hb d_Law_symbol_19 (by decide) ?_
  have hP := hP.kept (fun k x hx9 => h2 x.1 (hP k x hx9).lt)
  have hS : va_S (va_A (wSd cI cZ cJ sd_a lk_w lk_v lk_wr lk_rd (cu_a 0) lk_sp sd ++ wSy cI cZ cJ cu_a cu ++ wOu cI cZ cJ ou_a ou) s.heap.size) s.heap H1 [] := ⟨h1, fun q hq _ => h2 q hq, fun _ h => nomatch h⟩
  exact W.iret B.exec B.bytes hr (fun t ht hW => ⟨⟨_, (), rfl, rfl, ⟨by rw [ht]; exact hP, va_K.moved hW.alike hK, hD⟩⟩, hS.F ht⟩) hS.2.2 d_Law_symbol_20

set_option maxHeartbeats 4000000 in
set_option maxRecDepth 100000 in
theorem kx_Law_put_3 (l : Launch) (hl9 : l.stackTraces = false) (dC : Nat → ClassId) (dI : Nat → Nat → Nat) (cI cZ cJ : ClassId) (sd_a : Nat → Nat) (cu_a : Nat → Nat) (ou_a : Nat → Nat) (lk_w : Nat) (lk_v : Nat) (lk_wr : Nat) (lk_rd : Nat) (lk_sp : Nat) (sz : Nat) {sd : Sd} {cu : Sy} {ou : Ou} {x1 : Int32} {x2 : Int32} {x3 : Int32} {x4 : Int32} (hf : e_SD_put sd cu x1 x2 x3 x4 = some 3) :
    Met l y_Law_put ws_Law_put ({ frames := 9, cells := 1, slots := 6, locals := 158 }) (va_Pc [.ref (sd_a 0), .int x1, .int x2, .int x3, .int x4, .ref (ou_a 0)] (kPX (dC, dI) vwCl (TYS cI cZ cJ) (wSd cI cZ cJ sd_a lk_w lk_v lk_wr lk_rd (cu_a 0) lk_sp sd ++ wSy cI cZ cJ cu_a cu ++ wOu cI cZ cJ ou_a ou) sz)) (va_Qi (fun (q : Int32) (_ : Unit) => q = 1) (fun _ t => kQ (dC, dI) vwCl (TYS cI cZ cJ) (wSd cI cZ cJ sd_a lk_w lk_v lk_wr lk_rd (cu_a 0) lk_sp sd ++ wSy cI cZ cJ cu_a cu ++ wOu cI cZ cJ ou_a ou) sz (wSd cI cZ cJ sd_a lk_w lk_v lk_wr lk_rd (cu_a 0) lk_sp sd ++ wSy cI cZ cJ cu_a cu ++ wOu cI cZ cJ ou_a ou) t) (va_A (wSd cI cZ cJ sd_a lk_w lk_v lk_wr lk_rd (cu_a 0) lk_sp sd ++ wSy cI cZ cJ cu_a cu ++ wOu cI cZ cJ ou_a ou) sz)) 1 6 (va_A (wSd cI cZ cJ sd_a lk_w lk_v lk_wr lk_rd (cu_a 0) lk_sp sd ++ wSy cI cZ cJ cu_a cu ++ wOu cI cZ cJ ou_a ou) sz) := by
  refine va_MetW (hh := [((0), (21), (24), (21))]) (cc := c_Law_put) (maxL := 7) (ret := (some .int)) (by decide) rfl ?_
  intro p e s m args below meth c s₁ B hml hv
  obtain ⟨rfl, ⟨⟨hsz, hP, hK, hD0, hN⟩, hT⟩, hX⟩ := hv
  have hr := B.returns
  have hlocks := B.notSynchronized
  subst hsz
  have hD := hD0.self (sz := s.heap.size)
  have hx := B.exec
  have hb := B.bytes
  have hown : s.vm.findClass R_Law = some m.cls := findClass_of_methodNamed B.named
  have hts : ∀ w ∈ tb, w.before (List.toArray [Value.ref (sd_a 0), Value.int x1, Value.int x2, Value.int x3, Value.int x4, Value.ref (ou_a 0)]) s = true := fun w h => atoms_spec (ws := ws_Law_put) B.pre w (List.mem_cons_of_mem _ h)
  have htab := w_tab B rfl
  have hl := lv_entry ([.ref (sd_a 0), .int x1, .int x2, .int x3, .int x4, .ref (ou_a 0)]) (n := 7) (Nat.le_of_ble_eq_true rfl)
  rw [lg_entry_eq]
  generalize (lg_sl ([.ref (sd_a 0), .int x1, .int x2, .int x3, .int x4, .ref (ou_a 0)]) ++ List.replicate (7 - (lg_sl ([.ref (sd_a 0), .int x1, .int x2, .int x3, .int x4, .ref (ou_a 0)])).length) Slot.unset).toArray = ls at hl ⊢
  have hl : lv_has ls 7 [(0, .ref (sd_a 0)), (1, .int x1), (2, .int x2), (3, .int x3), (4, .int x4), (5, .ref (ou_a 0))] := hl
  have hRf : 9 ≤ (headSpec ws_Law_put ({ frames := 9, cells := 1, slots := 6, locals := 158 })).room.frames := Nat.le_refl _
  have hRl : 158 ≤ (headSpec ws_Law_put ({ frames := 9, cells := 1, slots := 6, locals := 158 })).room.locals := Nat.le_refl _
  have hRc : 0 + 1 ≤ (headSpec ws_Law_put ({ frames := 9, cells := 1, slots := 6, locals := 158 })).room.cells ∧ 0 + 6 ≤ (headSpec ws_Law_put ({ frames := 9, cells := 1, slots := 6, locals := 158 })).room.slots := ⟨Nat.le_refl _, Nat.le_refl _⟩
  generalize (headSpec ws_Law_put ({ frames := 9, cells := 1, slots := 6, locals := 158 })).room = R at hRf hRl hRc ⊢
  refine lv_aload hx hb d_Law_put_0 (lv_at hl 5 rfl) ?_
  refine lv_iconst (v := 0) hx hb d_Law_put_2 (by decide) ?_
  refine lv_aload_n hx hb d_Law_put_3 rfl (lv_at hl 0 rfl) ?_
  refine lv_iload_n hx hb d_Law_put_4 rfl (lv_at hl 1 rfl) ?_
  refine lv_iload_n hx hb d_Law_put_5 rfl (lv_at hl 2 rfl) ?_
  refine lv_iload_n hx hb d_Law_put_6 rfl (lv_at hl 3 rfl) ?_
  refine lv_iload hx hb d_Law_put_7 (lv_at hl 4 rfl) ?_
  have hPc := hP.sub (ws' := (wSd cI cZ cJ sd_a lk_w lk_v lk_wr lk_rd (cu_a 0) lk_sp sd ++ wSy cI cZ cJ cu_a cu)) [0, 1, 2, 3, 4, 5, 6, 7, 8, 9, 10] rfl
  have hDc := hD.sub (ws' := (wSd cI cZ cJ sd_a lk_w lk_v lk_wr lk_rd (cu_a 0) lk_sp sd ++ wSy cI cZ cJ cu_a cu)) [0, 1, 2, 3, 4, 5, 6, 7, 8, 9, 10] (by decide) rfl
  refine t_run (E := exN 3) (As := [.int x1, .int x2, .int x3, .int x4]) (rest := [.int 0, .ref (ou_a 0)]) ⟨hx, hb, hml, hown, hts⟩ (kt_SD_put l hl9 dC dI cI cZ cJ sd_a cu_a lk_w lk_v lk_wr lk_rd lk_sp _ hf) (cwV 4 hts (gV t_656 t_657 t_658 t_54 t_659) rfl rfl rfl hd_SD_put ⟨Nat.le_trans (Nat.le_of_ble_eq_true rfl) hRf, Nat.le_trans (Nat.le_of_ble_eq_true rfl) hRl⟩) ⟨kPT_blind, va_recv hK hP (ci := 6) (q0 := 0) rfl rfl, kPT_at hPc hK hDc hN va_S.rf hT⟩ rfl hl.1 rfl (lv_room (Nat.le_of_ble_eq_true rfl)) d_Law_put_9 hRc (fun q ce H1 h1 h2 hq hv hcl => ?_)
  obtain ⟨kE, hkE, -⟩ := Vm.findClass_spec hcl
  refine t_catch [] ⟨0, 21, 24, 21⟩ [] htab (fun hpl => ⟨(List.forall_mem_nil _), hRow_take (nm := "java/lang/IndexOutOfBoundsException") hown hpl (hts _ t_655) (hT.1 _ (by decide)) hcl (by decide) (by decide)⟩) ⟨kE, hkE⟩ hq hv ?_
  refine lv_astore (lv' := [(6, .ref q), (0, .ref (sd_a 0)), (1, .int x1), (2, .int x2), (3, .int x3), (4, .int x4), (5, .ref (ou_a 0))]) hx hb d_Law_put_24 hl (by decide) rfl (fun ls hl => ?_)
  refine lv_iconst (v := 1) hx hb d_Law_put_26 (by decide) ?_
  have hP := hP.kept (fun k x hx9 => h2 x.1 (hP k x hx9).lt)
  have hS : va_S (va_A (wSd cI cZ cJ sd_a lk_w lk_v lk_wr lk_rd (cu_a 0) lk_sp sd ++ wSy cI cZ cJ cu_a cu ++ wOu cI cZ cJ ou_a ou) s.heap.size) s.heap H1 [] := ⟨h1, fun q hq _ => h2 q hq, fun _ h => nomatch h⟩
  exact W.iret B.exec B.bytes hr (fun t ht hW => ⟨⟨_, (), rfl, rfl, ⟨by rw [ht]; exact hP, va_K.moved hW.alike hK, hD⟩⟩, hS.F ht⟩) hS.2.2 d_Law_put_27

set_option maxHeartbeats 4000000 in
set_option maxRecDepth 100000 in
theorem kx_Law_row_3 (l : Launch) (hl9 : l.stackTraces = false) (dC : Nat → ClassId) (dI : Nat → Nat → Nat) (cI cZ cJ : ClassId) (sd_a : Nat → Nat) (cu_a : Nat → Nat) (ou_a : Nat → Nat) (lk_w : Nat) (lk_v : Nat) (lk_wr : Nat) (lk_rd : Nat) (lk_sp : Nat) (sz : Nat) {sd : Sd} {cu : Sy} {ou : Ou} {x1 : Int32} {x2 : Int32} {x3 : Int32} (hf : e_SD_row sd cu x1 x2 x3 = some 3) :
    Met l y_Law_row ws_Law_row ({ frames := 9, cells := 1, slots := 6, locals := 157 }) (va_Pc [.ref (sd_a 0), .int x1, .int x2, .int x3, .ref (ou_a 0)] (kPX (dC, dI) vwCl (TYS cI cZ cJ) (wSd cI cZ cJ sd_a lk_w lk_v lk_wr lk_rd (cu_a 0) lk_sp sd ++ wSy cI cZ cJ cu_a cu ++ wOu cI cZ cJ ou_a ou) sz)) (va_Qi (fun (q : Int32) (_ : Unit) => q = 1) (fun _ t => kQ (dC, dI) vwCl (TYS cI cZ cJ) (wSd cI cZ cJ sd_a lk_w lk_v lk_wr lk_rd (cu_a 0) lk_sp sd ++ wSy cI cZ cJ cu_a cu ++ wOu cI cZ cJ ou_a ou) sz (wSd cI cZ cJ sd_a lk_w lk_v lk_wr lk_rd (cu_a 0) lk_sp sd ++ wSy cI cZ cJ cu_a cu ++ wOu cI cZ cJ ou_a ou) t) (va_A (wSd cI cZ cJ sd_a lk_w lk_v lk_wr lk_rd (cu_a 0) lk_sp sd ++ wSy cI cZ cJ cu_a cu ++ wOu cI cZ cJ ou_a ou) sz)) 1 6 (va_A (wSd cI cZ cJ sd_a lk_w lk_v lk_wr lk_rd (cu_a 0) lk_sp sd ++ wSy cI cZ cJ cu_a cu ++ wOu cI cZ cJ ou_a ou) sz) := by
  refine va_MetW (hh := [((0), (12), (15), (21))]) (cc := c_Law_row) (maxL := 6) (ret := (some .int)) (by decide) rfl ?_
  intro p e s m args below meth c s₁ B hml hv
  obtain ⟨rfl, ⟨⟨hsz, hP, hK, hD0, hN⟩, hT⟩, hX⟩ := hv
  have hr := B.returns
  have hlocks := B.notSynchronized
  subst hsz
  have hD := hD0.self (sz := s.heap.size)
  have hx := B.exec
  have hb := B.bytes
  have hown : s.vm.findClass R_Law = some m.cls := findClass_of_methodNamed B.named
  have hts : ∀ w ∈ tb, w.before (List.toArray [Value.ref (sd_a 0), Value.int x1, Value.int x2, Value.int x3, Value.ref (ou_a 0)]) s = true := fun w h => atoms_spec (ws := ws_Law_row) B.pre w (List.mem_cons_of_mem _ h)
  have htab := w_tab B rfl
  have hl := lv_entry ([.ref (sd_a 0), .int x1, .int x2, .int x3, .ref (ou_a 0)]) (n := 6) (Nat.le_of_ble_eq_true rfl)
  rw [lg_entry_eq]
  generalize (lg_sl ([.ref (sd_a 0), .int x1, .int x2, .int x3, .ref (ou_a 0)]) ++ List.replicate (6 - (lg_sl ([.ref (sd_a 0), .int x1, .int x2, .int x3, .ref (ou_a 0)])).length) Slot.unset).toArray = ls at hl ⊢
  have hl : lv_has ls 6 [(0, .ref (sd_a 0)), (1, .int x1), (2, .int x2), (3, .int x3), (4, .ref (ou_a 0))] := hl
  have hRf : 9 ≤ (headSpec ws_Law_row ({ frames := 9, cells := 1, slots := 6, locals := 157 })).room.frames := Nat.le_refl _
  have hRl : 157 ≤ (headSpec ws_Law_row ({ frames := 9, cells := 1, slots := 6, locals := 157 })).room.locals := Nat.le_refl _
  have hRc : 0 + 1 ≤ (headSpec ws_Law_row ({ frames := 9, cells := 1, slots := 6, locals := 157 })).room.cells ∧ 0 + 6 ≤ (headSpec ws_Law_row ({ frames := 9, cells := 1, slots := 6, locals := 157 })).room.slots := ⟨Nat.le_refl _, Nat.le_refl _⟩
  generalize (headSpec ws_Law_row ({ frames := 9, cells := 1, slots := 6, locals := 157 })).room = R at hRf hRl hRc ⊢
  refine lv_aload hx hb d_Law_row_0 (lv_at hl 4 rfl) ?_
  refine lv_iconst (v := 0) hx hb d_Law_row_2 (by decide) ?_
  refine lv_aload_n hx hb d_Law_row_3 rfl (lv_at hl 0 rfl) ?_
  refine lv_iload_n hx hb d_Law_row_4 rfl (lv_at hl 1 rfl) ?_
  refine lv_iload_n hx hb d_Law_row_5 rfl (lv_at hl 2 rfl) ?_
  refine lv_iload_n hx hb d_Law_row_6 rfl (lv_at hl 3 rfl) ?_
  have hPc := hP.sub (ws' := (wSd cI cZ cJ sd_a lk_w lk_v lk_wr lk_rd (cu_a 0) lk_sp sd ++ wSy cI cZ cJ cu_a cu)) [0, 1, 2, 3, 4, 5, 6, 7, 8, 9, 10] rfl
  have hDc := hD.sub (ws' := (wSd cI cZ cJ sd_a lk_w lk_v lk_wr lk_rd (cu_a 0) lk_sp sd ++ wSy cI cZ cJ cu_a cu)) [0, 1, 2, 3, 4, 5, 6, 7, 8, 9, 10] (by decide) rfl
  refine t_run (E := exN 3) (As := [.int x1, .int x2, .int x3]) (rest := [.int 0, .ref (ou_a 0)]) ⟨hx, hb, hml, hown, hts⟩ (kt_SD_row l hl9 dC dI cI cZ cJ sd_a cu_a lk_w lk_v lk_wr lk_rd lk_sp _ hf) (cwV 3 hts (gV t_693 t_694 t_695 t_54 t_696) rfl rfl rfl hd_SD_row ⟨Nat.le_trans (Nat.le_of_ble_eq_true rfl) hRf, Nat.le_trans (Nat.le_of_ble_eq_true rfl) hRl⟩) ⟨kPT_blind, va_recv hK hP (ci := 6) (q0 := 0) rfl rfl, kPT_at hPc hK hDc hN va_S.rf hT⟩ rfl hl.1 rfl (lv_room (Nat.le_of_ble_eq_true rfl)) d_Law_row_7 hRc (fun q ce H1 h1 h2 hq hv hcl => ?_)
  obtain ⟨kE, hkE, -⟩ := Vm.findClass_spec hcl
  refine t_catch [] ⟨0, 12, 15, 21⟩ [] htab (fun hpl => ⟨(List.forall_mem_nil _), hRow_take (nm := "java/lang/IndexOutOfBoundsException") hown hpl (hts _ t_655) (hT.1 _ (by decide)) hcl (by decide) (by decide)⟩) ⟨kE, hkE⟩ hq hv ?_
  refine lv_astore (lv' := [(5, .ref q), (0, .ref (sd_a 0)), (1, .int x1), (2, .int x2), (3, .int x3), (4, .ref (ou_a 0))]) hx hb d_Law_row_15 hl (by decide) rfl (fun ls hl => ?_)
  refine lv_iconst (v := 1) hx hb d_Law_row_17 (by decide) ?_
  have hP := hP.kept (fun k x hx9 => h2 x.1 (hP k x hx9).lt)
  have hS : va_S (va_A (wSd cI cZ cJ sd_a lk_w lk_v lk_wr lk_rd (cu_a 0) lk_sp sd ++ wSy cI cZ cJ cu_a cu ++ wOu cI cZ cJ ou_a ou) s.heap.size) s.heap H1 [] := ⟨h1, fun q hq _ => h2 q hq, fun _ h => nomatch h⟩
  exact W.iret B.exec B.bytes hr (fun t ht hW => ⟨⟨_, (), rfl, rfl, ⟨by rw [ht]; exact hP, va_K.moved hW.alike hK, hD⟩⟩, hS.F ht⟩) hS.2.2 d_Law_row_18

set_option maxHeartbeats 4000000 in
set_option maxRecDepth 100000 in
theorem kx_Law_at_3 (l : Launch) (hl9 : l.stackTraces = false) (dC : Nat → ClassId) (dI : Nat → Nat → Nat) (cI cZ cJ : ClassId) (sd_a : Nat → Nat) (cu_a : Nat → Nat) (ou_a : Nat → Nat) (lk_w : Nat) (lk_v : Nat) (lk_wr : Nat) (lk_rd : Nat) (lk_sp : Nat) (sz : Nat) {sd : Sd} {cu : Sy} {ou : Ou} {x1 : Int32} {x2 : Int32} {x3 : Int32} (hf : e_SD_at sd cu x1 x2 x3 = some 3) :
    Met l y_Law_at ws_Law_at ({ frames := 9, cells := 1, slots := 6, locals := 157 }) (va_Pc [.ref (sd_a 0), .int x1, .int x2, .int x3, .ref (ou_a 0)] (kPX (dC, dI) vwCl (TYS cI cZ cJ) (wSd cI cZ cJ sd_a lk_w lk_v lk_wr lk_rd (cu_a 0) lk_sp sd ++ wSy cI cZ cJ cu_a cu ++ wOu cI cZ cJ ou_a ou) sz)) (va_Qi (fun (q : Int32) (_ : Unit) => q = 1) (fun _ t => kQ (dC, dI) vwCl (TYS cI cZ cJ) (wSd cI cZ cJ sd_a lk_w lk_v lk_wr lk_rd (cu_a 0) lk_sp sd ++ wSy cI cZ cJ cu_a cu ++ wOu cI cZ cJ ou_a ou) sz (wSd cI cZ cJ sd_a lk_w lk_v lk_wr lk_rd (cu_a 0) lk_sp sd ++ wSy cI cZ cJ cu_a cu ++ wOu cI cZ cJ ou_a ou) t) (va_A (wSd cI cZ cJ sd_a lk_w lk_v lk_wr lk_rd (cu_a 0) lk_sp sd ++ wSy cI cZ cJ cu_a cu ++ wOu cI cZ cJ ou_a ou) sz)) 1 6 (va_A (wSd cI cZ cJ sd_a lk_w lk_v lk_wr lk_rd (cu_a 0) lk_sp sd ++ wSy cI cZ cJ cu_a cu ++ wOu cI cZ cJ ou_a ou) sz) := by
  refine va_MetW (hh := [((0), (19), (22), (21))]) (cc := c_Law_at) (maxL := 6) (ret := (some .int)) (by decide) rfl ?_
  intro p e s m args below meth c s₁ B hml hv
  obtain ⟨rfl, ⟨⟨hsz, hP, hK, hD0, hN⟩, hT⟩, hX⟩ := hv
  have hr := B.returns
  have hlocks := B.notSynchronized
  subst hsz
  have hD := hD0.self (sz := s.heap.size)
  have hx := B.exec
  have hb := B.bytes
  have hown : s.vm.findClass R_Law = some m.cls := findClass_of_methodNamed B.named
  have hts : ∀ w ∈ tb, w.before (List.toArray [Value.ref (sd_a 0), Value.int x1, Value.int x2, Value.int x3, Value.ref (ou_a 0)]) s = true := fun w h => atoms_spec (ws := ws_Law_at) B.pre w (List.mem_cons_of_mem _ h)
  have htab := w_tab B rfl
  have hl := lv_entry ([.ref (sd_a 0), .int x1, .int x2, .int x3, .ref (ou_a 0)]) (n := 6) (Nat.le_of_ble_eq_true rfl)
  rw [lg_entry_eq]
  generalize (lg_sl ([.ref (sd_a 0), .int x1, .int x2, .int x3, .ref (ou_a 0)]) ++ List.replicate (6 - (lg_sl ([.ref (sd_a 0), .int x1, .int x2, .int x3, .ref (ou_a 0)])).length) Slot.unset).toArray = ls at hl ⊢
  have hl : lv_has ls 6 [(0, .ref (sd_a 0)), (1, .int x1), (2, .int x2), (3, .int x3), (4, .ref (ou_a 0))] := hl
  have hRf : 9 ≤ (headSpec ws_Law_at ({ frames := 9, cells := 1, slots := 6, locals := 157 })).room.frames := Nat.le_refl _
  have hRl : 157 ≤ (headSpec ws_Law_at ({ frames := 9, cells := 1, slots := 6, locals := 157 })).room.locals := Nat.le_refl _
  have hRc : 0 + 1 ≤ (headSpec ws_Law_at ({ frames := 9, cells := 1, slots := 6, locals := 157 })).room.cells ∧ 0 + 6 ≤ (headSpec ws_Law_at ({ frames := 9, cells := 1, slots := 6, locals := 157 })).room.slots := ⟨Nat.le_refl _, Nat.le_refl _⟩
  generalize (headSpec ws_Law_at ({ frames := 9, cells := 1, slots := 6, locals := 157 })).room = R at hRf hRl hRc ⊢
  refine lv_aload hx hb d_Law_at_0 (lv_at hl 4 rfl) ?_
  refine lv_iconst (v := 0) hx hb d_Law_at_2 (by decide) ?_
  refine lv_aload_n hx hb d_Law_at_3 rfl (lv_at hl 0 rfl) ?_
  refine lv_iload_n hx hb d_Law_at_4 rfl (lv_at hl 1 rfl) ?_
  refine lv_iload_n hx hb d_Law_at_5 rfl (lv_at hl 2 rfl) ?_
  refine lv_iload_n hx hb d_Law_at_6 rfl (lv_at hl 3 rfl) ?_
  have hPc := hP.sub (ws' := (wSd cI cZ cJ sd_a lk_w lk_v lk_wr lk_rd (cu_a 0) lk_sp sd ++ wSy cI cZ cJ cu_a cu)) [0, 1, 2, 3, 4, 5, 6, 7, 8, 9, 10] rfl
  have hDc := hD.sub (ws' := (wSd cI cZ cJ sd_a lk_w lk_v lk_wr lk_rd (cu_a 0) lk_sp sd ++ wSy cI cZ cJ cu_a cu)) [0, 1, 2, 3, 4, 5, 6, 7, 8, 9, 10] (by decide) rfl
  refine t_run (E := exN 3) (As := [.int x1, .int x2, .int x3]) (rest := [.int 0, .ref (ou_a 0)]) ⟨hx, hb, hml, hown, hts⟩ (kt_SD_at l hl9 dC dI cI cZ cJ sd_a cu_a lk_w lk_v lk_wr lk_rd lk_sp _ hf) (cwV 3 hts (gV t_701 t_702 t_703 t_54 t_704) rfl rfl rfl hd_SD_at ⟨Nat.le_trans (Nat.le_of_ble_eq_true rfl) hRf, Nat.le_trans (Nat.le_of_ble_eq_true rfl) hRl⟩) ⟨kPT_blind, va_recv hK hP (ci := 6) (q0 := 0) rfl rfl, kPT_at hPc hK hDc hN va_S.rf hT⟩ rfl hl.1 rfl (lv_room (Nat.le_of_ble_eq_true rfl)) d_Law_at_7 hRc (fun q ce H1 h1 h2 hq hv hcl => ?_)
  obtain ⟨kE, hkE, -⟩ := Vm.findClass_spec hcl
  refine t_catch [] ⟨0, 19, 22, 21⟩ [] htab (fun hpl => ⟨(List.forall_mem_nil _), hRow_take (nm := "java/lang/IndexOutOfBoundsException") hown hpl (hts _ t_655) (hT.1 _ (by decide)) hcl (by decide) (by decide)⟩) ⟨kE, hkE⟩ hq hv ?_
  refine lv_astore (lv' := [(5, .ref q), (0, .ref (sd_a 0)), (1, .int x1), (2, .int x2), (3, .int x3), (4, .ref (ou_a 0))]) hx hb d_Law_at_22 hl (by decide) rfl (fun ls hl => ?_)
  refine lv_iconst (v := 1) hx hb d_Law_at_24 (by decide) ?_
  have hP := hP.kept (fun k x hx9 => h2 x.1 (hP k x hx9).lt)
  have hS : va_S (va_A (wSd cI cZ cJ sd_a lk_w lk_v lk_wr lk_rd (cu_a 0) lk_sp sd ++ wSy cI cZ cJ cu_a cu ++ wOu cI cZ cJ ou_a ou) s.heap.size) s.heap H1 [] := ⟨h1, fun q hq _ => h2 q hq, fun _ h => nomatch h⟩
  exact W.iret B.exec B.bytes hr (fun t ht hW => ⟨⟨_, (), rfl, rfl, ⟨by rw [ht]; exact hP, va_K.moved hW.alike hK, hD⟩⟩, hS.F ht⟩) hS.2.2 d_Law_at_25

set_option maxHeartbeats 4000000 in
set_option maxRecDepth 100000 in
theorem kx_Law_refined_3 (l : Launch) (hl9 : l.stackTraces = false) (dC : Nat → ClassId) (dI : Nat → Nat → Nat) (cI cZ cJ : ClassId) (sd_a : Nat → Nat) (cu_a : Nat → Nat) (ou_a : Nat → Nat) (lk_w : Nat) (lk_v : Nat) (lk_wr : Nat) (lk_rd : Nat) (lk_sp : Nat) (sz : Nat) {sd : Sd} {cu : Sy} {ou : Ou} {x1 : Int32} {x2 : Int32} {x3 : Int32} {x4 : Int32} (hf : e_SD_refined sd cu x1 x2 x3 x4 = some 3) :
    Met l y_Law_refined ws_Law_refined ({ frames := 8, cells := 1, slots := 6, locals := 136 }) (va_Pc [.ref (sd_a 0), .int x1, .int x2, .int x3, .int x4, .ref (ou_a 0)] (kPX (dC, dI) vwCl (TYS cI cZ cJ) (wSd cI cZ cJ sd_a lk_w lk_v lk_wr lk_rd (cu_a 0) lk_sp sd ++ wSy cI cZ cJ cu_a cu ++ wOu cI cZ cJ ou_a ou) sz)) (va_Qi (fun (q : Int32) (_ : Unit) => q = 1) (fun _ t => kQ (dC, dI) vwCl (TYS cI cZ cJ) (wSd cI cZ cJ sd_a lk_w lk_v lk_wr lk_rd (cu_a 0) lk_sp sd ++ wSy cI cZ cJ cu_a cu ++ wOu cI cZ cJ ou_a ou) sz (wSd cI cZ cJ sd_a lk_w lk_v lk_wr lk_rd (cu_a 0) lk_sp sd ++ wSy cI cZ cJ cu_a cu ++ wOu cI cZ cJ ou_a ou) t) (va_A (wSd cI cZ cJ sd_a lk_w lk_v lk_wr lk_rd (cu_a 0) lk_sp sd ++ wSy cI cZ cJ cu_a cu ++ wOu cI cZ cJ ou_a ou) sz)) 1 6 (va_A (wSd cI cZ cJ sd_a lk_w lk_v lk_wr lk_rd (cu_a 0) lk_sp sd ++ wSy cI cZ cJ cu_a cu ++ wOu cI cZ cJ ou_a ou) sz) := by
  refine va_MetW (hh := [((0), (14), (17), (21)), ((0), (14), (21), (13)), ((0), (14), (25), (35))]) (cc := c_Law_refined) (maxL := 7) (ret := (some .int)) (by decide) rfl ?_
  intro p e s m args below meth c s₁ B hml hv
  obtain ⟨rfl, ⟨⟨hsz, hP, hK, hD0, hN⟩, hT⟩, hX⟩ := hv
  have hr := B.returns
  have hlocks := B.notSynchronized
  subst hsz
  have hD := hD0.self (sz := s.heap.size)
  have hx := B.exec
  have hb := B.bytes
  have hown : s.vm.findClass R_Law = some m.cls := findClass_of_methodNamed B.named
  have hts : ∀ w ∈ tb, w.before (List.toArray [Value.ref (sd_a 0), Value.int x1, Value.int x2, Value.int x3, Value.int x4, Value.ref (ou_a 0)]) s = true := fun w h => atoms_spec (ws := ws_Law_refined) B.pre w (List.mem_cons_of_mem _ h)
  have htab := w_tab B rfl
  have hl := lv_entry ([.ref (sd_a 0), .int x1, .int x2, .int x3, .int x4, .ref (ou_a 0)]) (n := 7) (Nat.le_of_ble_eq_true rfl)
  rw [lg_entry_eq]
  generalize (lg_sl ([.ref (sd_a 0), .int x1, .int x2, .int x3, .int x4, .ref (ou_a 0)]) ++ List.replicate (7 - (lg_sl ([.ref (sd_a 0), .int x1, .int x2, .int x3, .int x4, .ref (ou_a 0)])).length) Slot.unset).toArray = ls at hl ⊢
  have hl : lv_has ls 7 [(0, .ref (sd_a 0)), (1, .int x1), (2, .int x2), (3, .int x3), (4, .int x4), (5, .ref (ou_a 0))] := hl
  have hRf : 8 ≤ (headSpec ws_Law_refined ({ frames := 8, cells := 1, slots := 6, locals := 136 })).room.frames := Nat.le_refl _
  have hRl : 136 ≤ (headSpec ws_Law_refined ({ frames := 8, cells := 1, slots := 6, locals := 136 })).room.locals := Nat.le_refl _
  have hRc : 0 + 1 ≤ (headSpec ws_Law_refined ({ frames := 8, cells := 1, slots := 6, locals := 136 })).room.cells ∧ 0 + 6 ≤ (headSpec ws_Law_refined ({ frames := 8, cells := 1, slots := 6, locals := 136 })).room.slots := ⟨Nat.le_refl _, Nat.le_refl _⟩
  generalize (headSpec ws_Law_refined ({ frames := 8, cells := 1, slots := 6, locals := 136 })).room = R at hRf hRl hRc ⊢
  refine lv_aload hx hb d_Law_refined_0 (lv_at hl 5 rfl) ?_
  refine lv_iconst (v := 0) hx hb d_Law_refined_2 (by decide) ?_
  refine lv_aload_n hx hb d_Law_refined_3 rfl (lv_at hl 0 rfl) ?_
  refine lv_iload_n hx hb d_Law_refined_4 rfl (lv_at hl 1 rfl) ?_
  refine lv_iload_n hx hb d_Law_refined_5 rfl (lv_at hl 2 rfl) ?_
  refine lv_iload_n hx hb d_Law_refined_6 rfl (lv_at hl 3 rfl) ?_
  refine lv_iload hx hb d_Law_refined_7 (lv_at hl 4 rfl) ?_
  have hPc := hP.sub (ws' := (wSd cI cZ cJ sd_a lk_w lk_v lk_wr lk_rd (cu_a 0) lk_sp sd ++ wSy cI cZ cJ cu_a cu)) [0, 1, 2, 3, 4, 5, 6, 7, 8, 9, 10] rfl
  have hDc := hD.sub (ws' := (wSd cI cZ cJ sd_a lk_w lk_v lk_wr lk_rd (cu_a 0) lk_sp sd ++ wSy cI cZ cJ cu_a cu)) [0, 1, 2, 3, 4, 5, 6, 7, 8, 9, 10] (by decide) rfl
  refine t_run (E := exN 3) (As := [.int x1, .int x2, .int x3, .int x4]) (rest := [.int 0, .ref (ou_a 0)]) ⟨hx, hb, hml, hown, hts⟩ (kt_SD_refined l hl9 dC dI cI cZ cJ sd_a cu_a lk_w lk_v lk_wr lk_rd lk_sp _ hf) (cwV 4 hts (gV t_709 t_710 t_711 t_54 t_712) rfl rfl rfl hd_SD_refined ⟨Nat.le_trans (Nat.le_of_ble_eq_true rfl) hRf, Nat.le_trans (Nat.le_of_ble_eq_true rfl) hRl⟩) ⟨kPT_blind, va_recv hK hP (ci := 6) (q0 := 0) rfl rfl, kPT_at hPc hK hDc hN va_S.rf hT⟩ rfl hl.1 rfl (lv_room (Nat.le_of_ble_eq_true rfl)) d_Law_refined_9 hRc (fun q ce H1 h1 h2 hq hv hcl => ?_)
  obtain ⟨kE, hkE, -⟩ := Vm.findClass_spec hcl
  refine t_catch [] ⟨0, 14, 17, 21⟩ [⟨0, 14, 21, 13⟩, ⟨0, 14, 25, 35⟩] htab (fun hpl => ⟨(List.forall_mem_nil _), hRow_take (nm := "java/lang/IndexOutOfBoundsException") hown hpl (hts _ t_655) (hT.1 _ (by decide)) hcl (by decide) (by decide)⟩) ⟨kE, hkE⟩ hq hv ?_
  refine lv_astore (lv' := [(6, .ref q), (0, .ref (sd_a 0)), (1, .int x1), (2, .int x2), (3, .int x3), (4, .int x4), (5, .ref (ou_a 0))]) hx hb d_Law_refined_17 hl (by decide) rfl (fun ls hl => ?_)
  refine lv_iconst (v := 1) hx hb d_Law_refined_19 (by decide) ?_
  have hP := hP.kept (fun k x hx9 => h2 x.1 (hP k x hx9).lt)
  have hS : va_S (va_A (wSd cI cZ cJ sd_a lk_w lk_v lk_wr lk_rd (cu_a 0) lk_sp sd ++ wSy cI cZ cJ cu_a cu ++ wOu cI cZ cJ ou_a ou) s.heap.size) s.heap H1 [] := ⟨h1, fun q hq _ => h2 q hq, fun _ h => nomatch h⟩
  exact W.iret B.exec B.bytes hr (fun t ht hW => ⟨⟨_, (), rfl, rfl, ⟨by rw [ht]; exact hP, va_K.moved hW.alike hK, hD⟩⟩, hS.F ht⟩) hS.2.2 d_Law_refined_20

set_option maxHeartbeats 4000000 in
set_option maxRecDepth 100000 in
theorem kx_Law_refined_1 (l : Launch) (hl9 : l.stackTraces = false) (dC : Nat → ClassId) (dI : Nat → Nat → Nat) (cI cZ cJ : ClassId) (sd_a : Nat → Nat) (cu_a : Nat → Nat) (ou_a : Nat → Nat) (lk_w : Nat) (lk_v : Nat) (lk_wr : Nat) (lk_rd : Nat) (lk_sp : Nat) (sz : Nat) {sd : Sd} {cu : Sy} {ou : Ou} {x1 : Int32} {x2 : Int32} {x3 : Int32} {x4 : Int32} (hf : e_SD_refined sd cu x1 x2 x3 x4 = some 1) :
    Met l y_Law_refined ws_Law_refined ({ frames := 8, cells := 1, slots := 6, locals := 136 }) (va_Pc [.ref (sd_a 0), .int x1, .int x2, .int x3, .int x4, .ref (ou_a 0)] (kPX (dC, dI) vwCl (TYS cI cZ cJ) (wSd cI cZ cJ sd_a lk_w lk_v lk_wr lk_rd (cu_a 0) lk_sp sd ++ wSy cI cZ cJ cu_a cu ++ wOu cI cZ cJ ou_a ou) sz)) (va_Qi (fun (q : Int32) (_ : Unit) => q = 2) (fun _ t => kQ (dC, dI) vwCl (TYS cI cZ cJ) (wSd cI cZ cJ sd_a lk_w lk_v lk_wr lk_rd (cu_a 0) lk_sp sd ++ wSy cI cZ cJ cu_a cu ++ wOu cI cZ cJ ou_a ou) sz (wSd cI cZ cJ sd_a lk_w lk_v lk_wr lk_rd (cu_a 0) lk_sp sd ++ wSy cI cZ cJ cu_a cu ++ wOu cI cZ cJ ou_a ou) t) (va_A (wSd cI cZ cJ sd_a lk_w lk_v lk_wr lk_rd (cu_a 0) lk_sp sd ++ wSy cI cZ cJ cu_a cu ++ wOu cI cZ cJ ou_a ou) sz)) 1 6 (va_A (wSd cI cZ cJ sd_a lk_w lk_v lk_wr lk_rd (cu_a 0) lk_sp sd ++ wSy cI cZ cJ cu_a cu ++ wOu cI cZ cJ ou_a ou) sz) := by
  refine va_MetW (hh := [((0), (14), (17), (21)), ((0), (14), (21), (13)), ((0), (14), (25), (35))]) (cc := c_Law_refined) (maxL := 7) (ret := (some .int)) (by decide) rfl ?_
  intro p e s m args below meth c s₁ B hml hv
  obtain ⟨rfl, ⟨⟨hsz, hP, hK, hD0, hN⟩, hT⟩, hX⟩ := hv
  have hr := B.returns
  have hlocks := B.notSynchronized
  subst hsz
  have hD := hD0.self (sz := s.heap.size)
  have hx := B.exec
  have hb := B.bytes
  have hown : s.vm.findClass R_Law = some m.cls := findClass_of_methodNamed B.named
  have hts : ∀ w ∈ tb, w.before (List.toArray [Value.ref (sd_a 0), Value.int x1, Value.int x2, Value.int x3, Value.int x4, Value.ref (ou_a 0)]) s = true := fun w h => atoms_spec (ws := ws_Law_refined) B.pre w (List.mem_cons_of_mem _ h)
  have htab := w_tab B rfl
  have hl := lv_entry ([.ref (sd_a 0), .int x1, .int x2, .int x3, .int x4, .ref (ou_a 0)]) (n := 7) (Nat.le_of_ble_eq_true rfl)
  rw [lg_entry_eq]
  generalize (lg_sl ([.ref (sd_a 0), .int x1, .int x2, .int x3, .int x4, .ref (ou_a 0)]) ++ List.replicate (7 - (lg_sl ([.ref (sd_a 0), .int x1, .int x2, .int x3, .int x4, .ref (ou_a 0)])).length) Slot.unset).toArray = ls at hl ⊢
  have hl : lv_has ls 7 [(0, .ref (sd_a 0)), (1, .int x1), (2, .int x2), (3, .int x3), (4, .int x4), (5, .ref (ou_a 0))] := hl
  have hRf : 8 ≤ (headSpec ws_Law_refined ({ frames := 8, cells := 1, slots := 6, locals := 136 })).room.frames := Nat.le_refl _
  have hRl : 136 ≤ (headSpec ws_Law_refined ({ frames := 8, cells := 1, slots := 6, locals := 136 })).room.locals := Nat.le_refl _
  have hRc : 0 + 1 ≤ (headSpec ws_Law_refined ({ frames := 8, cells := 1, slots := 6, locals := 136 })).room.cells ∧ 0 + 6 ≤ (headSpec ws_Law_refined ({ frames := 8, cells := 1, slots := 6, locals := 136 })).room.slots := ⟨Nat.le_refl _, Nat.le_refl _⟩
  generalize (headSpec ws_Law_refined ({ frames := 8, cells := 1, slots := 6, locals := 136 })).room = R at hRf hRl hRc ⊢
  refine lv_aload hx hb d_Law_refined_0 (lv_at hl 5 rfl) ?_
  refine lv_iconst (v := 0) hx hb d_Law_refined_2 (by decide) ?_
  refine lv_aload_n hx hb d_Law_refined_3 rfl (lv_at hl 0 rfl) ?_
  refine lv_iload_n hx hb d_Law_refined_4 rfl (lv_at hl 1 rfl) ?_
  refine lv_iload_n hx hb d_Law_refined_5 rfl (lv_at hl 2 rfl) ?_
  refine lv_iload_n hx hb d_Law_refined_6 rfl (lv_at hl 3 rfl) ?_
  refine lv_iload hx hb d_Law_refined_7 (lv_at hl 4 rfl) ?_
  have hPc := hP.sub (ws' := (wSd cI cZ cJ sd_a lk_w lk_v lk_wr lk_rd (cu_a 0) lk_sp sd ++ wSy cI cZ cJ cu_a cu)) [0, 1, 2, 3, 4, 5, 6, 7, 8, 9, 10] rfl
  have hDc := hD.sub (ws' := (wSd cI cZ cJ sd_a lk_w lk_v lk_wr lk_rd (cu_a 0) lk_sp sd ++ wSy cI cZ cJ cu_a cu)) [0, 1, 2, 3, 4, 5, 6, 7, 8, 9, 10] (by decide) rfl
  refine t_run (E := exN 1) (As := [.int x1, .int x2, .int x3, .int x4]) (rest := [.int 0, .ref (ou_a 0)]) ⟨hx, hb, hml, hown, hts⟩ (kt_SD_refined l hl9 dC dI cI cZ cJ sd_a cu_a lk_w lk_v lk_wr lk_rd lk_sp _ hf) (cwV 4 hts (gV t_709 t_710 t_711 t_54 t_712) rfl rfl rfl hd_SD_refined ⟨Nat.le_trans (Nat.le_of_ble_eq_true rfl) hRf, Nat.le_trans (Nat.le_of_ble_eq_true rfl) hRl⟩) ⟨kPT_blind, va_recv hK hP (ci := 6) (q0 := 0) rfl rfl, kPT_at hPc hK hDc hN va_S.rf hT⟩ rfl hl.1 rfl (lv_room (Nat.le_of_ble_eq_true rfl)) d_Law_refined_9 hRc (fun q ce H1 h1 h2 hq hv hcl => ?_)
  obtain ⟨kE, hkE, -⟩ := Vm.findClass_spec hcl
  refine t_catch [⟨0, 14, 17, 21⟩] ⟨0, 14, 21, 13⟩ [⟨0, 14, 25, 35⟩] htab (fun hpl => ⟨(List.forall_mem_cons.mpr ⟨(hRow_pass (E := "java/lang/IllegalArgumentException") (nm := "java/lang/IndexOutOfBoundsException") hown hpl (hts _ t_655) (hX _ (by decide) _ (by decide) (by decide)) hcl (by decide) (by decide)), (List.forall_mem_nil _)⟩), hRow_take (nm := "java/lang/IllegalArgumentException") hown hpl (hts _ t_560) (hT.1 _ (by decide)) hcl (by decide) (by decide)⟩) ⟨kE, hkE⟩ hq hv ?_
  refine lv_astore (lv' := [(6, .ref q), (0, .ref (sd_a 0)), (1, .int x1), (2, .int x2), (3, .int x3), (4, .int x4), (5, .ref (ou_a 0))]) hx hb d_Law_refined_21 hl (by decide) rfl (fun ls hl => ?_)
  refine lv_iconst (v := 2) hx hb d_Law_refined_23 (by decide) ?_
  have hP := hP.kept (fun k x hx9 => h2 x.1 (hP k x hx9).lt)
  have hS : va_S (va_A (wSd cI cZ cJ sd_a lk_w lk_v lk_wr lk_rd (cu_a 0) lk_sp sd ++ wSy cI cZ cJ cu_a cu ++ wOu cI cZ cJ ou_a ou) s.heap.size) s.heap H1 [] := ⟨h1, fun q hq _ => h2 q hq, fun _ h => nomatch h⟩
  exact W.iret B.exec B.bytes hr (fun t ht hW => ⟨⟨_, (), rfl, rfl, ⟨by rw [ht]; exact hP, va_K.moved hW.alike hK, hD⟩⟩, hS.F ht⟩) hS.2.2 d_Law_refined_24

set_option maxHeartbeats 4000000 in
set_option maxRecDepth 100000 in
theorem kx_Law_refined_2 (l : Launch) (hl9 : l.stackTraces = false) (dC : Nat → ClassId) (dI : Nat → Nat → Nat) (cI cZ cJ : ClassId) (sd_a : Nat → Nat) (cu_a : Nat → Nat) (ou_a : Nat → Nat) (lk_w : Nat) (lk_v : Nat) (lk_wr : Nat) (lk_rd : Nat) (lk_sp : Nat) (sz : Nat) {sd : Sd} {cu : Sy} {ou : Ou} {x1 : Int32} {x2 : Int32} {x3 : Int32} {x4 : Int32} (hf : e_SD_refined sd cu x1 x2 x3 x4 = some 2) :
    Met l y_Law_refined ws_Law_refined ({ frames := 8, cells := 1, slots := 6, locals := 136 }) (va_Pc [.ref (sd_a 0), .int x1, .int x2, .int x3, .int x4, .ref (ou_a 0)] (kPX (dC, dI) vwCl (TYS cI cZ cJ) (wSd cI cZ cJ sd_a lk_w lk_v lk_wr lk_rd (cu_a 0) lk_sp sd ++ wSy cI cZ cJ cu_a cu ++ wOu cI cZ cJ ou_a ou) sz)) (va_Qi (fun (q : Int32) (_ : Unit) => q = 3) (fun _ t => kQ (dC, dI) vwCl (TYS cI cZ cJ) (wSd cI cZ cJ sd_a lk_w lk_v lk_wr lk_rd (cu_a 0) lk_sp sd ++ wSy cI cZ cJ cu_a cu ++ wOu cI cZ cJ ou_a ou) sz (wSd cI cZ cJ sd_a lk_w lk_v lk_wr lk_rd (cu_a 0) lk_sp sd ++ wSy cI cZ cJ cu_a cu ++ wOu cI cZ cJ ou_a ou) t) (va_A (wSd cI cZ cJ sd_a lk_w lk_v lk_wr lk_rd (cu_a 0) lk_sp sd ++ wSy cI cZ cJ cu_a cu ++ wOu cI cZ cJ ou_a ou) sz)) 1 6 (va_A (wSd cI cZ cJ sd_a lk_w lk_v lk_wr lk_rd (cu_a 0) lk_sp sd ++ wSy cI cZ cJ cu_a cu ++ wOu cI cZ cJ ou_a ou) sz) := by
  refine va_MetW (hh := [((0), (14), (17), (21)), ((0), (14), (21), (13)), ((0), (14), (25), (35))]) (cc := c_Law_refined) (maxL := 7) (ret := (some .int)) (by decide) rfl ?_
  intro p e s m args below meth c s₁ B hml hv
  obtain ⟨rfl, ⟨⟨hsz, hP, hK, hD0, hN⟩, hT⟩, hX⟩ := hv
  have hr := B.returns
  have hlocks := B.notSynchronized
  subst hsz
  have hD := hD0.self (sz := s.heap.size)
  have hx := B.exec
  have hb := B.bytes
  have hown : s.vm.findClass R_Law = some m.cls := findClass_of_methodNamed B.named
  have hts : ∀ w ∈ tb, w.before (List.toArray [Value.ref (sd_a 0), Value.int x1, Value.int x2, Value.int x3, Value.int x4, Value.ref (ou_a 0)]) s = true := fun w h => atoms_spec (ws := ws_Law_refined) B.pre w (List.mem_cons_of_mem _ h)
  have htab := w_tab B rfl
  have hl := lv_entry ([.ref (sd_a 0), .int x1, .int x2, .int x3, .int x4, .ref (ou_a 0)]) (n := 7) (Nat.le_of_ble_eq_true rfl)
  rw [lg_entry_eq]
  generalize (lg_sl ([.ref (sd_a 0), .int x1, .int x2, .int x3, .int x4, .ref (ou_a 0)]) ++ List.replicate (7 - (lg_sl ([.ref (sd_a 0), .int x1, .int x2, .int x3, .int x4, .ref (ou_a 0)])).length) Slot.unset).toArray = ls at hl ⊢
  have hl : lv_has ls 7 [(0, .ref (sd_a 0)), (1, .int x1), (2, .int x2), (3, .int x3), (4, .int x4), (5, .ref (ou_a 0))] := hl
  have hRf : 8 ≤ (headSpec ws_Law_refined ({ frames := 8, cells := 1, slots := 6, locals := 136 })).room.frames := Nat.le_refl _
  have hRl : 136 ≤ (headSpec ws_Law_refined ({ frames := 8, cells := 1, slots := 6, locals := 136 })).room.locals := Nat.le_refl _
  have hRc : 0 + 1 ≤ (headSpec ws_Law_refined ({ frames := 8, cells := 1, slots := 6, locals := 136 })).room.cells ∧ 0 + 6 ≤ (headSpec ws_Law_refined ({ frames := 8, cells := 1, slots := 6, locals := 136 })).room.slots := ⟨Nat.le_refl _, Nat.le_refl _⟩
  generalize (headSpec ws_Law_refined ({ frames := 8, cells := 1, slots := 6, locals := 136 })).room = R at hRf hRl hRc ⊢
  refine lv_aload hx hb d_Law_refined_0 (lv_at hl 5 rfl) ?_
  refine lv_iconst (v := 0) hx hb d_Law_refined_2 (by decide) ?_
  refine lv_aload_n hx hb d_Law_refined_3 rfl (lv_at hl 0 rfl) ?_
  refine lv_iload_n hx hb d_Law_refined_4 rfl (lv_at hl 1 rfl) ?_
  refine lv_iload_n hx hb d_Law_refined_5 rfl (lv_at hl 2 rfl) ?_
  refine lv_iload_n hx hb d_Law_refined_6 rfl (lv_at hl 3 rfl) ?_
  refine lv_iload hx hb d_Law_refined_7 (lv_at hl 4 rfl) ?_
  have hPc := hP.sub (ws' := (wSd cI cZ cJ sd_a lk_w lk_v lk_wr lk_rd (cu_a 0) lk_sp sd ++ wSy cI cZ cJ cu_a cu)) [0, 1, 2, 3, 4, 5, 6, 7, 8, 9, 10] rfl
  have hDc := hD.sub (ws' := (wSd cI cZ cJ sd_a lk_w lk_v lk_wr lk_rd (cu_a 0) lk_sp sd ++ wSy cI cZ cJ cu_a cu)) [0, 1, 2, 3, 4, 5, 6, 7, 8, 9, 10] (by decide) rfl
  refine t_run (E := exN 2) (As := [.int x1, .int x2, .int x3, .int x4]) (rest := [.int 0, .ref (ou_a 0)]) ⟨hx, hb, hml, hown, hts⟩ (kt_SD_refined l hl9 dC dI cI cZ cJ sd_a cu_a lk_w lk_v lk_wr lk_rd lk_sp _ hf) (cwV 4 hts (gV t_709 t_710 t_711 t_54 t_712) rfl rfl rfl hd_SD_refined ⟨Nat.le_trans (Nat.le_of_ble_eq_true rfl) hRf, Nat.le_trans (Nat.le_of_ble_eq_true rfl) hRl⟩) ⟨kPT_blind, va_recv hK hP (ci := 6) (q0 := 0) rfl rfl, kPT_at hPc hK hDc hN va_S.rf hT⟩ rfl hl.1 rfl (lv_room (Nat.le_of_ble_eq_true rfl)) d_Law_refined_9 hRc (fun q ce H1 h1 h2 hq hv hcl => ?_)
  obtain ⟨kE, hkE, -⟩ := Vm.findClass_spec hcl
  refine t_catch [⟨0, 14, 17, 21⟩, ⟨0, 14, 21, 13⟩] ⟨0, 14, 25, 35⟩ [] htab (fun hpl => ⟨(List.forall_mem_cons.mpr ⟨(hRow_pass (E := "java/lang/IllegalStateException") (nm := "java/lang/IndexOutOfBoundsException") hown hpl (hts _ t_655) (hX _ (by decide) _ (by decide) (by decide)) hcl (by decide) (by decide)), (List.forall_mem_cons.mpr ⟨(hRow_pass (E := "java/lang/IllegalStateException") (nm := "java/lang/IllegalArgumentException") hown hpl (hts _ t_560) (hX _ (by decide) _ (by decide) (by decide)) hcl (by decide) (by decide)), (List.forall_mem_nil _)⟩)⟩), hRow_take (nm := "java/lang/IllegalStateException") hown hpl (hts _ t_708) (hT.1 _ (by decide)) hcl (by decide) (by decide)⟩) ⟨kE, hkE⟩ hq hv ?_
  refine lv_astore (lv' := [(6, .ref q), (0, .ref (sd_a 0)), (1, .int x1), (2, .int x2), (3, .int x3), (4, .int x4), (5, .ref (ou_a 0))]) hx hb d_Law_refined_25 hl (by decide) rfl (fun ls hl => ?_)
  refine lv_iconst (v := 3) hx hb d_Law_refined_27 (by decide) ?_
  have hP := hP.kept (fun k x hx9 => h2 x.1 (hP k x hx9).lt)
  have hS : va_S (va_A (wSd cI cZ cJ sd_a lk_w lk_v lk_wr lk_rd (cu_a 0) lk_sp sd ++ wSy cI cZ cJ cu_a cu ++ wOu cI cZ cJ ou_a ou) s.heap.size) s.heap H1 [] := ⟨h1, fun q hq _ => h2 q hq, fun _ h => nomatch h⟩
  exact W.iret B.exec B.bytes hr (fun t ht hW => ⟨⟨_, (), rfl, rfl, ⟨by rw [ht]; exact hP, va_K.moved hW.alike hK, hD⟩⟩, hS.F ht⟩) hS.2.2 d_Law_refined_28

set_option maxHeartbeats 4000000 in
set_option maxRecDepth 100000 in
theorem kx_Law_export_3 (l : Launch) (hl9 : l.stackTraces = false) (dC : Nat → ClassId) (dI : Nat → Nat → Nat) (cI cZ cJ : ClassId) (sd_a : Nat → Nat) (cu_a : Nat → Nat) (ou_a : Nat → Nat) (lk_w : Nat) (lk_v : Nat) (lk_wr : Nat) (lk_rd : Nat) (lk_sp : Nat) (sz : Nat) {sd : Sd} {cu : Sy} {ou : Ou} {x1 : Int32} {x2 : Int32} (hf : e_SD_export sd cu x1 x2 = some 3) :
    Met l y_Law_export ws_Law_export ({ frames := 8, cells := 1, slots := 6, locals := 134 }) (va_Pc [.ref (sd_a 0), .int x1, .int x2, .ref (ou_a 0)] (kPX (dC, dI) vwCl (TYS cI cZ cJ) (wSd cI cZ cJ sd_a lk_w lk_v lk_wr lk_rd (cu_a 0) lk_sp sd ++ wSy cI cZ cJ cu_a cu ++ wOu cI cZ cJ ou_a ou) sz)) (va_Qi (fun (q : Int32) (_ : Unit) => q = 1) (fun _ t => kQ (dC, dI) vwCl (TYS cI cZ cJ) (wSd cI cZ cJ sd_a lk_w lk_v lk_wr lk_rd (cu_a 0) lk_sp sd ++ wSy cI cZ cJ cu_a cu ++ wOu cI cZ cJ ou_a ou) sz (wSd cI cZ cJ sd_a lk_w lk_v lk_wr lk_rd (cu_a 0) lk_sp sd ++ wSy cI cZ cJ cu_a cu ++ wOu cI cZ cJ ou_a ou) t) (va_A (wSd cI cZ cJ sd_a lk_w lk_v lk_wr lk_rd (cu_a 0) lk_sp sd ++ wSy cI cZ cJ cu_a cu ++ wOu cI cZ cJ ou_a ou) sz)) 1 6 (va_A (wSd cI cZ cJ sd_a lk_w lk_v lk_wr lk_rd (cu_a 0) lk_sp sd ++ wSy cI cZ cJ cu_a cu ++ wOu cI cZ cJ ou_a ou) sz) := by
  refine va_MetW (hh := [((0), (17), (20), (21))]) (cc := c_Law_export) (maxL := 5) (ret := (some .int)) (by decide) rfl ?_
  intro p e s m args below meth c s₁ B hml hv
  obtain ⟨rfl, ⟨⟨hsz, hP, hK, hD0, hN⟩, hT⟩, hX⟩ := hv
  have hr := B.returns
  have hlocks := B.notSynchronized
  subst hsz
  have hD := hD0.self (sz := s.heap.size)
  have hx := B.exec
  have hb := B.bytes
  have hown : s.vm.findClass R_Law = some m.cls := findClass_of_methodNamed B.named
  have hts : ∀ w ∈ tb, w.before (List.toArray [Value.ref (sd_a 0), Value.int x1, Value.int x2, Value.ref (ou_a 0)]) s = true := fun w h => atoms_spec (ws := ws_Law_export) B.pre w (List.mem_cons_of_mem _ h)
  have htab := w_tab B rfl
  have hl := lv_entry ([.ref (sd_a 0), .int x1, .int x2, .ref (ou_a 0)]) (n := 5) (Nat.le_of_ble_eq_true rfl)
  rw [lg_entry_eq]
  generalize (lg_sl ([.ref (sd_a 0), .int x1, .int x2, .ref (ou_a 0)]) ++ List.replicate (5 - (lg_sl ([.ref (sd_a 0), .int x1, .int x2, .ref (ou_a 0)])).length) Slot.unset).toArray = ls at hl ⊢
  have hl : lv_has ls 5 [(0, .ref (sd_a 0)), (1, .int x1), (2, .int x2), (3, .ref (ou_a 0))] := hl
  have hRf : 8 ≤ (headSpec ws_Law_export ({ frames := 8, cells := 1, slots := 6, locals := 134 })).room.frames := Nat.le_refl _
  have hRl : 134 ≤ (headSpec ws_Law_export ({ frames := 8, cells := 1, slots := 6, locals := 134 })).room.locals := Nat.le_refl _
  have hRc : 0 + 1 ≤ (headSpec ws_Law_export ({ frames := 8, cells := 1, slots := 6, locals := 134 })).room.cells ∧ 0 + 6 ≤ (headSpec ws_Law_export ({ frames := 8, cells := 1, slots := 6, locals := 134 })).room.slots := ⟨Nat.le_refl _, Nat.le_refl _⟩
  generalize (headSpec ws_Law_export ({ frames := 8, cells := 1, slots := 6, locals := 134 })).room = R at hRf hRl hRc ⊢
  refine lv_aload_n hx hb d_Law_export_0 rfl (lv_at hl 3 rfl) ?_
  refine lv_iconst (v := 0) hx hb d_Law_export_1 (by decide) ?_
  refine lv_aload_n hx hb d_Law_export_2 rfl (lv_at hl 0 rfl) ?_
  refine lv_iload_n hx hb d_Law_export_3 rfl (lv_at hl 1 rfl) ?_
  refine lv_iload_n hx hb d_Law_export_4 rfl (lv_at hl 2 rfl) ?_
  have hPc := hP.sub (ws' := (wSd cI cZ cJ sd_a lk_w lk_v lk_wr lk_rd (cu_a 0) lk_sp sd ++ wSy cI cZ cJ cu_a cu)) [0, 1, 2, 3, 4, 5, 6, 7, 8, 9, 10] rfl
  have hDc := hD.sub (ws' := (wSd cI cZ cJ sd_a lk_w lk_v lk_wr lk_rd (cu_a 0) lk_sp sd ++ wSy cI cZ cJ cu_a cu)) [0, 1, 2, 3, 4, 5, 6, 7, 8, 9, 10] (by decide) rfl
  refine t_run (E := exN 3) (As := [.int x1, .int x2]) (rest := [.int 0, .ref (ou_a 0)]) ⟨hx, hb, hml, hown, hts⟩ (kt_SD_export l hl9 dC dI cI cZ cJ sd_a cu_a lk_w lk_v lk_wr lk_rd lk_sp _ hf) (cwV 2 hts (gV t_735 t_736 t_737 t_54 t_738) rfl rfl rfl hd_SD_export ⟨Nat.le_trans (Nat.le_of_ble_eq_true rfl) hRf, Nat.le_trans (Nat.le_of_ble_eq_true rfl) hRl⟩) ⟨kPT_blind, va_recv hK hP (ci := 6) (q0 := 0) rfl rfl, kPT_at hPc hK hDc hN va_S.rf hT⟩ rfl hl.1 rfl (lv_room (Nat.le_of_ble_eq_true rfl)) d_Law_export_5 hRc (fun q ce H1 h1 h2 hq hv hcl => ?_)
  obtain ⟨kE, hkE, -⟩ := Vm.findClass_spec hcl
  refine t_catch [] ⟨0, 17, 20, 21⟩ [] htab (fun hpl => ⟨(List.forall_mem_nil _), hRow_take (nm := "java/lang/IndexOutOfBoundsException") hown hpl (hts _ t_655) (hT.1 _ (by decide)) hcl (by decide) (by decide)⟩) ⟨kE, hkE⟩ hq hv ?_
  refine lv_astore (lv' := [(4, .ref q), (0, .ref (sd_a 0)), (1, .int x1), (2, .int x2), (3, .ref (ou_a 0))]) hx hb d_Law_export_20 hl (by decide) rfl (fun ls hl => ?_)
  refine lv_iconst (v := 1) hx hb d_Law_export_22 (by decide) ?_
  have hP := hP.kept (fun k x hx9 => h2 x.1 (hP k x hx9).lt)
  have hS : va_S (va_A (wSd cI cZ cJ sd_a lk_w lk_v lk_wr lk_rd (cu_a 0) lk_sp sd ++ wSy cI cZ cJ cu_a cu ++ wOu cI cZ cJ ou_a ou) s.heap.size) s.heap H1 [] := ⟨h1, fun q hq _ => h2 q hq, fun _ h => nomatch h⟩
  exact W.iret B.exec B.bytes hr (fun t ht hW => ⟨⟨_, (), rfl, rfl, ⟨by rw [ht]; exact hP, va_K.moved hW.alike hK, hD⟩⟩, hS.F ht⟩) hS.2.2 d_Law_export_23

set_option maxHeartbeats 4000000 in
set_option maxRecDepth 100000 in
theorem kx_Law_byteAt_3 (l : Launch) (hl9 : l.stackTraces = false) (dC : Nat → ClassId) (dI : Nat → Nat → Nat) (cI cZ cJ : ClassId) (sd_a : Nat → Nat) (w_a w_b : Nat) (ou_a : Nat → Nat) (lk_v : Nat) (lk_wr : Nat) (lk_rd : Nat) (lk_cu : Nat) (lk_sp : Nat) (sz : Nat) {sd : Sd} {w : Br} {ou : Ou} {x1 : Int32} (hf : e_SD_byteAt sd w x1 = some 3) :
    Met l y_Law_byteAt ws_Law_byteAt ({ frames := 7, cells := 1, slots := 6, locals := 111 }) (va_Pc [.ref (sd_a 0), .int x1, .ref (ou_a 0)] (kPX (dC, dI) vwCl (TYS cI cZ cJ) (wSd cI cZ cJ sd_a w_a lk_v lk_wr lk_rd lk_cu lk_sp sd ++ wBr cI cZ cJ w_a w_b w ++ wOu cI cZ cJ ou_a ou) sz)) (va_Qi (fun (q : Int32) (_ : Unit) => q = 1) (fun _ t => kQ (dC, dI) vwCl (TYS cI cZ cJ) (wSd cI cZ cJ sd_a w_a lk_v lk_wr lk_rd lk_cu lk_sp sd ++ wBr cI cZ cJ w_a w_b w ++ wOu cI cZ cJ ou_a ou) sz (wSd cI cZ cJ sd_a w_a lk_v lk_wr lk_rd lk_cu lk_sp sd ++ wBr cI cZ cJ w_a w_b w ++ wOu cI cZ cJ ou_a ou) t) (va_A (wSd cI cZ cJ sd_a w_a lk_v lk_wr lk_rd lk_cu lk_sp sd ++ wBr cI cZ cJ w_a w_b w ++ wOu cI cZ cJ ou_a ou) sz)) 1 6 (va_A (wSd cI cZ cJ sd_a w_a lk_v lk_wr lk_rd lk_cu lk_sp sd ++ wBr cI cZ cJ w_a w_b w ++ wOu cI cZ cJ ou_a ou) sz) := by
  refine va_MetW (hh := [((0), (9), (12), (21))]) (cc := c_Law_byteAt) (maxL := 4) (ret := (some .int)) (by decide) rfl ?_
  intro p e s m args below meth c s₁ B hml hv
  obtain ⟨rfl, ⟨⟨hsz, hP, hK, hD0, hN⟩, hT⟩, hX⟩ := hv
  have hr := B.returns
  have hlocks := B.notSynchronized
  subst hsz
  have hD := hD0.self (sz := s.heap.size)
  have hx := B.exec
  have hb := B.bytes
  have hown : s.vm.findClass R_Law = some m.cls := findClass_of_methodNamed B.named
  have hts : ∀ w ∈ tb, w.before (List.toArray [Value.ref (sd_a 0), Value.int x1, Value.ref (ou_a 0)]) s = true := fun w h => atoms_spec (ws := ws_Law_byteAt) B.pre w (List.mem_cons_of_mem _ h)
  have htab := w_tab B rfl
  have hl := lv_entry ([.ref (sd_a 0), .int x1, .ref (ou_a 0)]) (n := 4) (Nat.le_of_ble_eq_true rfl)
  rw [lg_entry_eq]
  generalize (lg_sl ([.ref (sd_a 0), .int x1, .ref (ou_a 0)]) ++ List.replicate (4 - (lg_sl ([.ref (sd_a 0), .int x1, .ref (ou_a 0)])).length) Slot.unset).toArray = ls at hl ⊢
  have hl : lv_has ls 4 [(0, .ref (sd_a 0)), (1, .int x1), (2, .ref (ou_a 0))] := hl
  have hRf : 7 ≤ (headSpec ws_Law_byteAt ({ frames := 7, cells := 1, slots := 6, locals := 111 })).room.frames := Nat.le_refl _
  have hRl : 111 ≤ (headSpec ws_Law_byteAt ({ frames := 7, cells := 1, slots := 6, locals := 111 })).room.locals := Nat.le_refl _
  have hRc : 0 + 1 ≤ (headSpec ws_Law_byteAt ({ frames := 7, cells := 1, slots := 6, locals := 111 })).room.cells ∧ 0 + 6 ≤ (headSpec ws_Law_byteAt ({ frames := 7, cells := 1, slots := 6, locals := 111 })).room.slots := ⟨Nat.le_refl _, Nat.le_refl _⟩
  generalize (headSpec ws_Law_byteAt ({ frames := 7, cells := 1, slots := 6, locals := 111 })).room = R at hRf hRl hRc ⊢
  refine lv_aload_n hx hb d_Law_byteAt_0 rfl (lv_at hl 2 rfl) ?_
  refine lv_iconst (v := 0) hx hb d_Law_byteAt_1 (by decide) ?_
  refine lv_aload_n hx hb d_Law_byteAt_2 rfl (lv_at hl 0 rfl) ?_
  refine lv_iload_n hx hb d_Law_byteAt_3 rfl (lv_at hl 1 rfl) ?_
  have hPc := hP.sub (ws' := (wSd cI cZ cJ sd_a w_a lk_v lk_wr lk_rd lk_cu lk_sp sd ++ wBr cI cZ cJ w_a w_b w)) [0, 1, 2] rfl
  have hDc := hD.sub (ws' := (wSd cI cZ cJ sd_a w_a lk_v lk_wr lk_rd lk_cu lk_sp sd ++ wBr cI cZ cJ w_a w_b w)) [0, 1, 2] (by decide) rfl
  refine t_run (E := exN 3) (As := [.int x1]) (rest := [.int 0, .ref (ou_a 0)]) ⟨hx, hb, hml, hown, hts⟩ (kt_SD_byteAt l hl9 dC dI cI cZ cJ sd_a w_a w_b lk_v lk_wr lk_rd lk_cu lk_sp _ hf) (cwV 1 hts (gV t_742 t_743 t_744 t_54 t_745) rfl rfl rfl hd_SD_byteAt ⟨Nat.le_trans (Nat.le_of_ble_eq_true rfl) hRf, Nat.le_trans (Nat.le_of_ble_eq_true rfl) hRl⟩) ⟨kPT_blind, va_recv hK hP (ci := 6) (q0 := 0) rfl rfl, kPT_at hPc hK hDc hN va_S.rf hT⟩ rfl hl.1 rfl (lv_room (Nat.le_of_ble_eq_true rfl)) d_Law_byteAt_4 hRc (fun q ce H1 h1 h2 hq hv hcl => ?_)
  obtain ⟨kE, hkE, -⟩ := Vm.findClass_spec hcl
  refine t_catch [] ⟨0, 9, 12, 21⟩ [] htab (fun hpl => ⟨(List.forall_mem_nil _), hRow_take (nm := "java/lang/IndexOutOfBoundsException") hown hpl (hts _ t_655) (hT.1 _ (by decide)) hcl (by decide) (by decide)⟩) ⟨kE, hkE⟩ hq hv ?_
  refine lv_astore_n (lv' := [(3, .ref q), (0, .ref (sd_a 0)), (1, .int x1), (2, .ref (ou_a 0))]) hx hb d_Law_byteAt_12 rfl hl (by decide) rfl (fun ls hl => ?_)
  refine lv_iconst (v := 1) hx hb d_Law_byteAt_13 (by decide) ?_
  have hP := hP.kept (fun k x hx9 => h2 x.1 (hP k x hx9).lt)
  have hS : va_S (va_A (wSd cI cZ cJ sd_a w_a lk_v lk_wr lk_rd lk_cu lk_sp sd ++ wBr cI cZ cJ w_a w_b w ++ wOu cI cZ cJ ou_a ou) s.heap.size) s.heap H1 [] := ⟨h1, fun q hq _ => h2 q hq, fun _ h => nomatch h⟩
  exact W.iret B.exec B.bytes hr (fun t ht hW => ⟨⟨_, (), rfl, rfl, ⟨by rw [ht]; exact hP, va_K.moved hW.alike hK, hD⟩⟩, hS.F ht⟩) hS.2.2 d_Law_byteAt_14

set_option maxHeartbeats 4000000 in
set_option maxRecDepth 100000 in
theorem kx_Law_feed_1 (l : Launch) (hl9 : l.stackTraces = false) (dC : Nat → ClassId) (dI : Nat → Nat → Nat) (cI cZ cJ : ClassId) (sd_a : Nat → Nat) (v_a v_b : Nat) (ou_a : Nat → Nat) (lk_w : Nat) (lk_wr : Nat) (lk_rd : Nat) (lk_cu : Nat) (lk_sp : Nat) (sz : Nat) {sd : Sd} {v : Br} {ou : Ou} {x1 : Int32} (hf : e_SD_feed sd v x1 = some 1) :
    Met l y_Law_feed ws_Law_feed ({ frames := 7, cells := 1, slots := 6, locals := 128 }) (va_Pc [.ref (sd_a 0), .int x1, .ref (ou_a 0)] (kPX (dC, dI) vwCl (TYS cI cZ cJ) (wSd cI cZ cJ sd_a lk_w v_a lk_wr lk_rd lk_cu lk_sp sd ++ wBr cI cZ cJ v_a v_b v ++ wOu cI cZ cJ ou_a ou) sz)) (va_Qi (fun (q : Int32) (_ : Unit) => q = 1) (fun _ t => kQ (dC, dI) vwCl (TYS cI cZ cJ) (wSd cI cZ cJ sd_a lk_w v_a lk_wr lk_rd lk_cu lk_sp sd ++ wBr cI cZ cJ v_a v_b v ++ wOu cI cZ cJ ou_a ou) sz (wSd cI cZ cJ sd_a lk_w v_a lk_wr lk_rd lk_cu lk_sp sd ++ wBr cI cZ cJ v_a v_b v ++ wOu cI cZ cJ ou_a ou) t) (va_A (wSd cI cZ cJ sd_a lk_w v_a lk_wr lk_rd lk_cu lk_sp sd ++ wBr cI cZ cJ v_a v_b v ++ wOu cI cZ cJ ou_a ou) sz)) 1 6 (va_A (wSd cI cZ cJ sd_a lk_w v_a lk_wr lk_rd lk_cu lk_sp sd ++ wBr cI cZ cJ v_a v_b v ++ wOu cI cZ cJ ou_a ou) sz) := by
  refine va_MetW (hh := [((0), (9), (12), (13)), ((0), (9), (15), (15))]) (cc := c_Law_feed) (maxL := 4) (ret := (some .int)) (by decide) rfl ?_
  intro p e s m args below meth c s₁ B hml hv
  obtain ⟨rfl, ⟨⟨hsz, hP, hK, hD0, hN⟩, hT⟩, hX⟩ := hv
  have hr := B.returns
  have hlocks := B.notSynchronized
  subst hsz
  have hD := hD0.self (sz := s.heap.size)
  have hx := B.exec
  have hb := B.bytes
  have hown : s.vm.findClass R_Law = some m.cls := findClass_of_methodNamed B.named
  have hts : ∀ w ∈ tb, w.before (List.toArray [Value.ref (sd_a 0), Value.int x1, Value.ref (ou_a 0)]) s = true := fun w h => atoms_spec (ws := ws_Law_feed) B.pre w (List.mem_cons_of_mem _ h)
  have htab := w_tab B rfl
  have hl := lv_entry ([.ref (sd_a 0), .int x1, .ref (ou_a 0)]) (n := 4) (Nat.le_of_ble_eq_true rfl)
  rw [lg_entry_eq]
  generalize (lg_sl ([.ref (sd_a 0), .int x1, .ref (ou_a 0)]) ++ List.replicate (4 - (lg_sl ([.ref (sd_a 0), .int x1, .ref (ou_a 0)])).length) Slot.unset).toArray = ls at hl ⊢
  have hl : lv_has ls 4 [(0, .ref (sd_a 0)), (1, .int x1), (2, .ref (ou_a 0))] := hl
  have hRf : 7 ≤ (headSpec ws_Law_feed ({ frames := 7, cells := 1, slots := 6, locals := 128 })).room.frames := Nat.le_refl _
  have hRl : 128 ≤ (headSpec ws_Law_feed ({ frames := 7, cells := 1, slots := 6, locals := 128 })).room.locals := Nat.le_refl _
  have hRc : 0 + 1 ≤ (headSpec ws_Law_feed ({ frames := 7, cells := 1, slots := 6, locals := 128 })).room.cells ∧ 0 + 6 ≤ (headSpec ws_Law_feed ({ frames := 7, cells := 1, slots := 6, locals := 128 })).room.slots := ⟨Nat.le_refl _, Nat.le_refl _⟩
  generalize (headSpec ws_Law_feed ({ frames := 7, cells := 1, slots := 6, locals := 128 })).room = R at hRf hRl hRc ⊢
  refine lv_aload_n hx hb d_Law_feed_0 rfl (lv_at hl 2 rfl) ?_
  refine lv_iconst (v := 0) hx hb d_Law_feed_1 (by decide) ?_
  refine lv_aload_n hx hb d_Law_feed_2 rfl (lv_at hl 0 rfl) ?_
  refine lv_iload_n hx hb d_Law_feed_3 rfl (lv_at hl 1 rfl) ?_
  have hPc := hP.sub (ws' := (wSd cI cZ cJ sd_a lk_w v_a lk_wr lk_rd lk_cu lk_sp sd ++ wBr cI cZ cJ v_a v_b v)) [0, 1, 2] rfl
  have hDc := hD.sub (ws' := (wSd cI cZ cJ sd_a lk_w v_a lk_wr lk_rd lk_cu lk_sp sd ++ wBr cI cZ cJ v_a v_b v)) [0, 1, 2] (by decide) rfl
  refine t_run (E := exN 1) (As := [.int x1]) (rest := [.int 0, .ref (ou_a 0)]) ⟨hx, hb, hml, hown, hts⟩ (kt_SD_feed l hl9 dC dI cI cZ cJ sd_a v_a v_b lk_w lk_wr lk_rd lk_cu lk_sp _ hf) (cwV 1 hts (gV t_750 t_751 t_752 t_54 t_753) rfl rfl rfl hd_SD_feed ⟨Nat.le_trans (Nat.le_of_ble_eq_true rfl) hRf, Nat.le_trans (Nat.le_of_ble_eq_true rfl) hRl⟩) ⟨kPT_blind, va_recv hK hP (ci := 6) (q0 := 0) rfl rfl, kPT_at hPc hK hDc hN va_S.rf hT⟩ rfl hl.1 rfl (lv_room (Nat.le_of_ble_eq_true rfl)) d_Law_feed_4 hRc (fun q ce H1 h1 h2 hq hv hcl => ?_)
  obtain ⟨kE, hkE, -⟩ := Vm.findClass_spec hcl
  refine t_catch [] ⟨0, 9, 12, 13⟩ [⟨0, 9, 15, 15⟩] htab (fun hpl => ⟨(List.forall_mem_nil _), hRow_take (nm := "java/lang/IllegalArgumentException") hown hpl (hts _ t_560) (hT.1 _ (by decide)) hcl (by decide) (by decide)⟩) ⟨kE, hkE⟩ hq hv ?_
  refine lv_astore_n (lv' := [(3, .ref q), (0, .ref (sd_a 0)), (1, .int x1), (2, .ref (ou_a 0))]) hx hb d_Law_feed_12 rfl hl (by decide) rfl (fun ls hl => ?_)
  refine lv_iconst (v := 1) hx hb d_Law_feed_13 (by decide) ?_
  have hP := hP.kept (fun k x hx9 => h2 x.1 (hP k x hx9).lt)
  have hS : va_S (va_A (wSd cI cZ cJ sd_a lk_w v_a lk_wr lk_rd lk_cu lk_sp sd ++ wBr cI cZ cJ v_a v_b v ++ wOu cI cZ cJ ou_a ou) s.heap.size) s.heap H1 [] := ⟨h1, fun q hq _ => h2 q hq, fun _ h => nomatch h⟩
  exact W.iret B.exec B.bytes hr (fun t ht hW => ⟨⟨_, (), rfl, rfl, ⟨by rw [ht]; exact hP, va_K.moved hW.alike hK, hD⟩⟩, hS.F ht⟩) hS.2.2 d_Law_feed_14

set_option maxHeartbeats 4000000 in
set_option maxRecDepth 100000 in
theorem kx_Law_feed_4 (l : Launch) (hl9 : l.stackTraces = false) (dC : Nat → ClassId) (dI : Nat → Nat → Nat) (cI cZ cJ : ClassId) (sd_a : Nat → Nat) (v_a v_b : Nat) (ou_a : Nat → Nat) (lk_w : Nat) (lk_wr : Nat) (lk_rd : Nat) (lk_cu : Nat) (lk_sp : Nat) (sz : Nat) {sd : Sd} {v : Br} {ou : Ou} {x1 : Int32} (hf : e_SD_feed sd v x1 = some 4) :
    Met l y_Law_feed ws_Law_feed ({ frames := 7, cells := 1, slots := 6, locals := 128 }) (va_Pc [.ref (sd_a 0), .int x1, .ref (ou_a 0)] (kPX (dC, dI) vwCl (TYS cI cZ cJ) (wSd cI cZ cJ sd_a lk_w v_a lk_wr lk_rd lk_cu lk_sp sd ++ wBr cI cZ cJ v_a v_b v ++ wOu cI cZ cJ ou_a ou) sz)) (va_Qi (fun (q : Int32) (_ : Unit) => q = 2) (fun _ t => kQ (dC, dI) vwCl (TYS cI cZ cJ) (wSd cI cZ cJ sd_a lk_w v_a lk_wr lk_rd lk_cu lk_sp sd ++ wBr cI cZ cJ v_a v_b v ++ wOu cI cZ cJ ou_a ou) sz (wSd cI cZ cJ sd_a lk_w v_a lk_wr lk_rd lk_cu lk_sp sd ++ wBr cI cZ cJ v_a v_b v ++ wOu cI cZ cJ ou_a ou) t) (va_A (wSd cI cZ cJ sd_a lk_w v_a lk_wr lk_rd lk_cu lk_sp sd ++ wBr cI cZ cJ v_a v_b v ++ wOu cI cZ cJ ou_a ou) sz)) 1 6 (va_A (wSd cI cZ cJ sd_a lk_w v_a lk_wr lk_rd lk_cu lk_sp sd ++ wBr cI cZ cJ v_a v_b v ++ wOu cI cZ cJ ou_a ou) sz) := by
  refine va_MetW (hh := [((0), (9), (12), (13)), ((0), (9), (15), (15))]) (cc := c_Law_feed) (maxL := 4) (ret := (some .int)) (by decide) rfl ?_
  intro p e s m args below meth c s₁ B hml hv
  obtain ⟨rfl, ⟨⟨hsz, hP, hK, hD0, hN⟩, hT⟩, hX⟩ := hv
  have hr := B.returns
  have hlocks := B.notSynchronized
  subst hsz
  have hD := hD0.self (sz := s.heap.size)
  have hx := B.exec
  have hb := B.bytes
  have hown : s.vm.findClass R_Law = some m.cls := findClass_of_methodNamed B.named
  have hts : ∀ w ∈ tb, w.before (List.toArray [Value.ref (sd_a 0), Value.int x1, Value.ref (ou_a 0)]) s = true := fun w h => atoms_spec (ws := ws_Law_feed) B.pre w (List.mem_cons_of_mem _ h)
  have htab := w_tab B rfl
  have hl := lv_entry ([.ref (sd_a 0), .int x1, .ref (ou_a 0)]) (n := 4) (Nat.le_of_ble_eq_true rfl)
  rw [lg_entry_eq]
  generalize (lg_sl ([.ref (sd_a 0), .int x1, .ref (ou_a 0)]) ++ List.replicate (4 - (lg_sl ([.ref (sd_a 0), .int x1, .ref (ou_a 0)])).length) Slot.unset).toArray = ls at hl ⊢
  have hl : lv_has ls 4 [(0, .ref (sd_a 0)), (1, .int x1), (2, .ref (ou_a 0))] := hl
  have hRf : 7 ≤ (headSpec ws_Law_feed ({ frames := 7, cells := 1, slots := 6, locals := 128 })).room.frames := Nat.le_refl _
  have hRl : 128 ≤ (headSpec ws_Law_feed ({ frames := 7, cells := 1, slots := 6, locals := 128 })).room.locals := Nat.le_refl _
  have hRc : 0 + 1 ≤ (headSpec ws_Law_feed ({ frames := 7, cells := 1, slots := 6, locals := 128 })).room.cells ∧ 0 + 6 ≤ (headSpec ws_Law_feed ({ frames := 7, cells := 1, slots := 6, locals := 128 })).room.slots := ⟨Nat.le_refl _, Nat.le_refl _⟩
  generalize (headSpec ws_Law_feed ({ frames := 7, cells := 1, slots := 6, locals := 128 })).room = R at hRf hRl hRc ⊢
  refine lv_aload_n hx hb d_Law_feed_0 rfl (lv_at hl 2 rfl) ?_
  refine lv_iconst (v := 0) hx hb d_Law_feed_1 (by decide) ?_
  refine lv_aload_n hx hb d_Law_feed_2 rfl (lv_at hl 0 rfl) ?_
  refine lv_iload_n hx hb d_Law_feed_3 rfl (lv_at hl 1 rfl) ?_
  have hPc := hP.sub (ws' := (wSd cI cZ cJ sd_a lk_w v_a lk_wr lk_rd lk_cu lk_sp sd ++ wBr cI cZ cJ v_a v_b v)) [0, 1, 2] rfl
  have hDc := hD.sub (ws' := (wSd cI cZ cJ sd_a lk_w v_a lk_wr lk_rd lk_cu lk_sp sd ++ wBr cI cZ cJ v_a v_b v)) [0, 1, 2] (by decide) rfl
  refine t_run (E := exN 4) (As := [.int x1]) (rest := [.int 0, .ref (ou_a 0)]) ⟨hx, hb, hml, hown, hts⟩ (kt_SD_feed l hl9 dC dI cI cZ cJ sd_a v_a v_b lk_w lk_wr lk_rd lk_cu lk_sp _ hf) (cwV 1 hts (gV t_750 t_751 t_752 t_54 t_753) rfl rfl rfl hd_SD_feed ⟨Nat.le_trans (Nat.le_of_ble_eq_true rfl) hRf, Nat.le_trans (Nat.le_of_ble_eq_true rfl) hRl⟩) ⟨kPT_blind, va_recv hK hP (ci := 6) (q0 := 0) rfl rfl, kPT_at hPc hK hDc hN va_S.rf hT⟩ rfl hl.1 rfl (lv_room (Nat.le_of_ble_eq_true rfl)) d_Law_feed_4 hRc (fun q ce H1 h1 h2 hq hv hcl => ?_)
  obtain ⟨kE, hkE, -⟩ := Vm.findClass_spec hcl
  refine t_catch [⟨0, 9, 12, 13⟩] ⟨0, 9, 15, 15⟩ [] htab (fun hpl => ⟨(List.forall_mem_cons.mpr ⟨(hRow_pass (E := "java/lang/UnsupportedOperationException") (nm := "java/lang/IllegalArgumentException") hown hpl (hts _ t_560) (hX _ (by decide) _ (by decide) (by decide)) hcl (by decide) (by decide)), (List.forall_mem_nil _)⟩), hRow_take (nm := "java/lang/UnsupportedOperationException") hown hpl (hts _ t_561) (hT.1 _ (by decide)) hcl (by decide) (by decide)⟩) ⟨kE, hkE⟩ hq hv ?_
  refine lv_astore_n (lv' := [(3, .ref q), (0, .ref (sd_a 0)), (1, .int x1), (2, .ref (ou_a 0))]) hx hb d_Law_feed_15 rfl hl (by decide) rfl (fun ls hl => ?_)
  refine lv_iconst (v := 2) hx hb d_Law_feed_16 (by decide) ?_
  have hP := hP.kept (fun k x hx9 => h2 x.1 (hP k x hx9).lt)
  have hS : va_S (va_A (wSd cI cZ cJ sd_a lk_w v_a lk_wr lk_rd lk_cu lk_sp sd ++ wBr cI cZ cJ v_a v_b v ++ wOu cI cZ cJ ou_a ou) s.heap.size) s.heap H1 [] := ⟨h1, fun q hq _ => h2 q hq, fun _ h => nomatch h⟩
  exact W.iret B.exec B.bytes hr (fun t ht hW => ⟨⟨_, (), rfl, rfl, ⟨by rw [ht]; exact hP, va_K.moved hW.alike hK, hD⟩⟩, hS.F ht⟩) hS.2.2 d_Law_feed_17

set_option maxHeartbeats 4000000 in
set_option maxRecDepth 100000 in
theorem kx_Law_pass_4 (l : Launch) (hl9 : l.stackTraces = false) (dC : Nat → ClassId) (dI : Nat → Nat → Nat) (cI cZ cJ : ClassId) (sd_a : Nat → Nat) (w_a w_b : Nat) (v_a v_b : Nat) (ou_a : Nat → Nat) (lk_wr : Nat) (lk_rd : Nat) (lk_cu : Nat) (lk_sp : Nat) (sz : Nat) {sd : Sd} {w : Br} {v : Br} {ou : Ou} (hf : e_SD_pass sd w v = some 4) :
    Met l y_Law_pass ws_Law_pass ({ frames := 7, cells := 1, slots := 6, locals := 149 }) (va_Pc [.ref (sd_a 0), .ref (ou_a 0)] (kPX (dC, dI) vwCl (TYS cI cZ cJ) (wSd cI cZ cJ sd_a w_a v_a lk_wr lk_rd lk_cu lk_sp sd ++ wBr cI cZ cJ w_a w_b w ++ wBr cI cZ cJ v_a v_b v ++ wOu cI cZ cJ ou_a ou) sz)) (va_Qi (fun (q : Int32) (_ : Unit) => q = 1) (fun _ t => kQ (dC, dI) vwCl (TYS cI cZ cJ) (wSd cI cZ cJ sd_a w_a v_a lk_wr lk_rd lk_cu lk_sp sd ++ wBr cI cZ cJ w_a w_b w ++ wBr cI cZ cJ v_a v_b v ++ wOu cI cZ cJ ou_a ou) sz (wSd cI cZ cJ sd_a w_a v_a lk_wr lk_rd lk_cu lk_sp sd ++ wBr cI cZ cJ w_a w_b w ++ wBr cI cZ cJ v_a v_b v ++ wOu cI cZ cJ ou_a ou) t) (va_A (wSd cI cZ cJ sd_a w_a v_a lk_wr lk_rd lk_cu lk_sp sd ++ wBr cI cZ cJ w_a w_b w ++ wBr cI cZ cJ v_a v_b v ++ wOu cI cZ cJ ou_a ou) sz)) 1 6 (va_A (wSd cI cZ cJ sd_a w_a v_a lk_wr lk_rd lk_cu lk_sp sd ++ wBr cI cZ cJ w_a w_b w ++ wBr cI cZ cJ v_a v_b v ++ wOu cI cZ cJ ou_a ou) sz) := by
  refine va_MetW (hh := [((0), (8), (11), (15))]) (cc := c_Law_pass) (maxL := 3) (ret := (some .int)) (by decide) rfl ?_
  intro p e s m args below meth c s₁ B hml hv
  obtain ⟨rfl, ⟨⟨hsz, hP, hK, hD0, hN⟩, hT⟩, hX⟩ := hv
  have hr := B.returns
  have hlocks := B.notSynchronized
  subst hsz
  have hD := hD0.self (sz := s.heap.size)
  have hx := B.exec
  have hb := B.bytes
  have hown : s.vm.findClass R_Law = some m.cls := findClass_of_methodNamed B.named
  have hts : ∀ w ∈ tb, w.before (List.toArray [Value.ref (sd_a 0), Value.ref (ou_a 0)]) s = true := fun w h => atoms_spec (ws := ws_Law_pass) B.pre w (List.mem_cons_of_mem _ h)
  have htab := w_tab B rfl
  have hl := lv_entry ([.ref (sd_a 0), .ref (ou_a 0)]) (n := 3) (Nat.le_of_ble_eq_true rfl)
  rw [lg_entry_eq]
  generalize (lg_sl ([.ref (sd_a 0), .ref (ou_a 0)]) ++ List.replicate (3 - (lg_sl ([.ref (sd_a 0), .ref (ou_a 0)])).length) Slot.unset).toArray = ls at hl ⊢
  have hl : lv_has ls 3 [(0, .ref (sd_a 0)), (1, .ref (ou_a 0))] := hl
  have hRf : 7 ≤ (headSpec ws_Law_pass ({ frames := 7, cells := 1, slots := 6, locals := 149 })).room.frames := Nat.le_refl _
  have hRl : 149 ≤ (headSpec ws_Law_pass ({ frames := 7, cells := 1, slots := 6, locals := 149 })).room.locals := Nat.le_refl _
  have hRc : 0 + 1 ≤ (headSpec ws_Law_pass ({ frames := 7, cells := 1, slots := 6, locals := 149 })).room.cells ∧ 0 + 6 ≤ (headSpec ws_Law_pass ({ frames := 7, cells := 1, slots := 6, locals := 149 })).room.slots := ⟨Nat.le_refl _, Nat.le_refl _⟩
  generalize (headSpec ws_Law_pass ({ frames := 7, cells := 1, slots := 6, locals := 149 })).room = R at hRf hRl hRc ⊢
  refine lv_aload_n hx hb d_Law_pass_0 rfl (lv_at hl 1 rfl) ?_
  refine lv_iconst (v := 0) hx hb d_Law_pass_1 (by decide) ?_
  refine lv_aload_n hx hb d_Law_pass_2 rfl (lv_at hl 0 rfl) ?_
  have hPc := hP.sub (ws' := (wSd cI cZ cJ sd_a w_a v_a lk_wr lk_rd lk_cu lk_sp sd ++ wBr cI cZ cJ w_a w_b w ++ wBr cI cZ cJ v_a v_b v)) [0, 1, 2, 3, 4] rfl
  have hDc := hD.sub (ws' := (wSd cI cZ cJ sd_a w_a v_a lk_wr lk_rd lk_cu lk_sp sd ++ wBr cI cZ cJ w_a w_b w ++ wBr cI cZ cJ v_a v_b v)) [0, 1, 2, 3, 4] (by decide) rfl
  refine t_run (E := exN 4) (As := []) (rest := [.int 0, .ref (ou_a 0)]) ⟨hx, hb, hml, hown, hts⟩ (kt_SD_pass l hl9 dC dI cI cZ cJ sd_a w_a w_b v_a v_b lk_wr lk_rd lk_cu lk_sp _ hf) (cwV 0 hts (gV t_760 t_761 t_762 t_54 t_763) rfl rfl rfl hd_SD_pass ⟨Nat.le_trans (Nat.le_of_ble_eq_true rfl) hRf, Nat.le_trans (Nat.le_of_ble_eq_true rfl) hRl⟩) ⟨kPT_blind, va_recv hK hP (ci := 6) (q0 := 0) rfl rfl, kPT_at hPc hK hDc hN va_S.rf hT⟩ rfl hl.1 rfl (lv_room (Nat.le_of_ble_eq_true rfl)) d_Law_pass_3 hRc (fun q ce H1 h1 h2 hq hv hcl => ?_)
  obtain ⟨kE, hkE, -⟩ := Vm.findClass_spec hcl
  refine t_catch [] ⟨0, 8, 11, 15⟩ [] htab (fun hpl => ⟨(List.forall_mem_nil _), hRow_take (nm := "java/lang/UnsupportedOperationException") hown hpl (hts _ t_561) (hT.1 _ (by decide)) hcl (by decide) (by decide)⟩) ⟨kE, hkE⟩ hq hv ?_
  refine lv_astore_n (lv' := [(2, .ref q), (0, .ref (sd_a 0)), (1, .ref (ou_a 0))]) hx hb d_Law_pass_11 rfl hl (by decide) rfl (fun ls hl => ?_)
  refine lv_iconst (v := 1) hx hb d_Law_pass_12 (by decide) ?_
  have hP := hP.kept (fun k x hx9 => h2 x.1 (hP k x hx9).lt)
  have hS : va_S (va_A (wSd cI cZ cJ sd_a w_a v_a lk_wr lk_rd lk_cu lk_sp sd ++ wBr cI cZ cJ w_a w_b w ++ wBr cI cZ cJ v_a v_b v ++ wOu cI cZ cJ ou_a ou) s.heap.size) s.heap H1 [] := ⟨h1, fun q hq _ => h2 q hq, fun _ h => nomatch h⟩
  exact W.iret B.exec B.bytes hr (fun t ht hW => ⟨⟨_, (), rfl, rfl, ⟨by rw [ht]; exact hP, va_K.moved hW.alike hK, hD⟩⟩, hS.F ht⟩) hS.2.2 d_Law_pass_13

set_option maxHeartbeats 4000000 in
set_option maxRecDepth 100000 in
theorem kx_Law_told_3 (l : Launch) (hl9 : l.stackTraces = false) (dC : Nat → ClassId) (dI : Nat → Nat → Nat) (cI cZ cJ : ClassId) (sd_a : Nat → Nat) (cu_a : Nat → Nat) (ou_a : Nat → Nat) (lk_w : Nat) (lk_v : Nat) (lk_wr : Nat) (lk_rd : Nat) (lk_sp : Nat) (sz : Nat) {sd : Sd} {cu : Sy} {ou : Ou} {x1 : Int32} {x2 : Int32} (hf : e_SD_told sd cu x1 x2 = some 3) :
    Met l y_Law_told ws_Law_told ({ frames := 8, cells := 1, slots := 6, locals := 133 }) (va_Pc [.ref (sd_a 0), .int x1, .int x2, .ref (ou_a 0)] (kPX (dC, dI) vwCl (TYS cI cZ cJ) (wSd cI cZ cJ sd_a lk_w lk_v lk_wr lk_rd (cu_a 0) lk_sp sd ++ wSy cI cZ cJ cu_a cu ++ wOu cI cZ cJ ou_a ou) sz)) (va_Qi (fun (q : Int32) (_ : Unit) => q = 1) (fun _ t => kQ (dC, dI) vwCl (TYS cI cZ cJ) (wSd cI cZ cJ sd_a lk_w lk_v lk_wr lk_rd (cu_a 0) lk_sp sd ++ wSy cI cZ cJ cu_a cu ++ wOu cI cZ cJ ou_a ou) sz (wSd cI cZ cJ sd_a lk_w lk_v lk_wr lk_rd (cu_a 0) lk_sp sd ++ wSy cI cZ cJ cu_a cu ++ wOu cI cZ cJ ou_a ou) t) (va_A (wSd cI cZ cJ sd_a lk_w lk_v lk_wr lk_rd (cu_a 0) lk_sp sd ++ wSy cI cZ cJ cu_a cu ++ wOu cI cZ cJ ou_a ou) sz)) 1 6 (va_A (wSd cI cZ cJ sd_a lk_w lk_v lk_wr lk_rd (cu_a 0) lk_sp sd ++ wSy cI cZ cJ cu_a cu ++ wOu cI cZ cJ ou_a ou) sz) := by
  refine va_MetW (hh := [((0), (10), (13), (21)), ((0), (10), (17), (13))]) (cc := c_Law_told) (maxL := 5) (ret := (some .int)) (by decide) rfl ?_
  intro p e s m args below meth c s₁ B hml hv
  obtain ⟨rfl, ⟨⟨hsz, hP, hK, hD0, hN⟩, hT⟩, hX⟩ := hv
  have hr := B.returns
  have hlocks := B.notSynchronized
  subst hsz
  have hD := hD0.self (sz := s.heap.size)
  have hx := B.exec
  have hb := B.bytes
  have hown : s.vm.findClass R_Law = some m.cls := findClass_of_methodNamed B.named
  have hts : ∀ w ∈ tb, w.before (List.toArray [Value.ref (sd_a 0), Value.int x1, Value.int x2, Value.ref (ou_a 0)]) s = true := fun w h => atoms_spec (ws := ws_Law_told) B.pre w (List.mem_cons_of_mem _ h)
  have htab := w_tab B rfl
  have hl := lv_entry ([.ref (sd_a 0), .int x1, .int x2, .ref (ou_a 0)]) (n := 5) (Nat.le_of_ble_eq_true rfl)
  rw [lg_entry_eq]
  generalize (lg_sl ([.ref (sd_a 0), .int x1, .int x2, .ref (ou_a 0)]) ++ List.replicate (5 - (lg_sl ([.ref (sd_a 0), .int x1, .int x2, .ref (ou_a 0)])).length) Slot.unset).toArray = ls at hl ⊢
  have hl : lv_has ls 5 [(0, .ref (sd_a 0)), (1, .int x1), (2, .int x2), (3, .ref (ou_a 0))] := hl
  have hRf : 8 ≤ (headSpec ws_Law_told ({ frames := 8, cells := 1, slots := 6, locals := 133 })).room.frames := Nat.le_refl _
  have hRl : 133 ≤ (headSpec ws_Law_told ({ frames := 8, cells := 1, slots := 6, locals := 133 })).room.locals := Nat.le_refl _
  have hRc : 0 + 1 ≤ (headSpec ws_Law_told ({ frames := 8, cells := 1, slots := 6, locals := 133 })).room.cells ∧ 0 + 6 ≤ (headSpec ws_Law_told ({ frames := 8, cells := 1, slots := 6, locals := 133 })).room.slots := ⟨Nat.le_refl _, Nat.le_refl _⟩
  generalize (headSpec ws_Law_told ({ frames := 8, cells := 1, slots := 6, locals := 133 })).room = R at hRf hRl hRc ⊢
  refine lv_aload_n hx hb d_Law_told_0 rfl (lv_at hl 3 rfl) ?_
  refine lv_iconst (v := 0) hx hb d_Law_told_1 (by decide) ?_
  refine lv_aload_n hx hb d_Law_told_2 rfl (lv_at hl 0 rfl) ?_
  refine lv_iload_n hx hb d_Law_told_3 rfl (lv_at hl 1 rfl) ?_
  refine lv_iload_n hx hb d_Law_told_4 rfl (lv_at hl 2 rfl) ?_
  have hPc := hP.sub (ws' := (wSd cI cZ cJ sd_a lk_w lk_v lk_wr lk_rd (cu_a 0) lk_sp sd ++ wSy cI cZ cJ cu_a cu)) [0, 1, 2, 3, 4, 5, 6, 7, 8, 9, 10] rfl
  have hDc := hD.sub (ws' := (wSd cI cZ cJ sd_a lk_w lk_v lk_wr lk_rd (cu_a 0) lk_sp sd ++ wSy cI cZ cJ cu_a cu)) [0, 1, 2, 3, 4, 5, 6, 7, 8, 9, 10] (by decide) rfl
  refine t_run (E := exN 3) (As := [.int x1, .int x2]) (rest := [.int 0, .ref (ou_a 0)]) ⟨hx, hb, hml, hown, hts⟩ (kt_SD_told l hl9 dC dI cI cZ cJ sd_a cu_a lk_w lk_v lk_wr lk_rd lk_sp _ hf) (cwV 2 hts (gV t_773 t_774 t_775 t_54 t_776) rfl rfl rfl hd_SD_told ⟨Nat.le_trans (Nat.le_of_ble_eq_true rfl) hRf, Nat.le_trans (Nat.le_of_ble_eq_true rfl) hRl⟩) ⟨kPT_blind, va_recv hK hP (ci := 6) (q0 := 0) rfl rfl, kPT_at hPc hK hDc hN va_S.rf hT⟩ rfl hl.1 rfl (lv_room (Nat.le_of_ble_eq_true rfl)) d_Law_told_5 hRc (fun q ce H1 h1 h2 hq hv hcl => ?_)
  obtain ⟨kE, hkE, -⟩ := Vm.findClass_spec hcl
  refine t_catch [] ⟨0, 10, 13, 21⟩ [⟨0, 10, 17, 13⟩] htab (fun hpl => ⟨(List.forall_mem_nil _), hRow_take (nm := "java/lang/IndexOutOfBoundsException") hown hpl (hts _ t_655) (hT.1 _ (by decide)) hcl (by decide) (by decide)⟩) ⟨kE, hkE⟩ hq hv ?_
  refine lv_astore (lv' := [(4, .ref q), (0, .ref (sd_a 0)), (1, .int x1), (2, .int x2), (3, .ref (ou_a 0))]) hx hb d_Law_told_13 hl (by decide) rfl (fun ls hl => ?_)
  refine lv_iconst (v := 1) hx hb d_Law_told_15 (by decide) ?_
  have hP := hP.kept (fun k x hx9 => h2 x.1 (hP k x hx9).lt)
  have hS : va_S (va_A (wSd cI cZ cJ sd_a lk_w lk_v lk_wr lk_rd (cu_a 0) lk_sp sd ++ wSy cI cZ cJ cu_a cu ++ wOu cI cZ cJ ou_a ou) s.heap.size) s.heap H1 [] := ⟨h1, fun q hq _ => h2 q hq, fun _ h => nomatch h⟩
  exact W.iret B.exec B.bytes hr (fun t ht hW => ⟨⟨_, (), rfl, rfl, ⟨by rw [ht]; exact hP, va_K.moved hW.alike hK, hD⟩⟩, hS.F ht⟩) hS.2.2 d_Law_told_16

set_option maxHeartbeats 4000000 in
set_option maxRecDepth 100000 in
theorem kx_Law_told_1 (l : Launch) (hl9 : l.stackTraces = false) (dC : Nat → ClassId) (dI : Nat → Nat → Nat) (cI cZ cJ : ClassId) (sd_a : Nat → Nat) (cu_a : Nat → Nat) (ou_a : Nat → Nat) (lk_w : Nat) (lk_v : Nat) (lk_wr : Nat) (lk_rd : Nat) (lk_sp : Nat) (sz : Nat) {sd : Sd} {cu : Sy} {ou : Ou} {x1 : Int32} {x2 : Int32} (hf : e_SD_told sd cu x1 x2 = some 1) :
    Met l y_Law_told ws_Law_told ({ frames := 8, cells := 1, slots := 6, locals := 133 }) (va_Pc [.ref (sd_a 0), .int x1, .int x2, .ref (ou_a 0)] (kPX (dC, dI) vwCl (TYS cI cZ cJ) (wSd cI cZ cJ sd_a lk_w lk_v lk_wr lk_rd (cu_a 0) lk_sp sd ++ wSy cI cZ cJ cu_a cu ++ wOu cI cZ cJ ou_a ou) sz)) (va_Qi (fun (q : Int32) (_ : Unit) => q = 2) (fun _ t => kQ (dC, dI) vwCl (TYS cI cZ cJ) (wSd cI cZ cJ sd_a lk_w lk_v lk_wr lk_rd (cu_a 0) lk_sp sd ++ wSy cI cZ cJ cu_a cu ++ wOu cI cZ cJ ou_a ou) sz (wSd cI cZ cJ sd_a lk_w lk_v lk_wr lk_rd (cu_a 0) lk_sp sd ++ wSy cI cZ cJ cu_a cu ++ wOu cI cZ cJ ou_a ou) t) (va_A (wSd cI cZ cJ sd_a lk_w lk_v lk_wr lk_rd (cu_a 0) lk_sp sd ++ wSy cI cZ cJ cu_a cu ++ wOu cI cZ cJ ou_a ou) sz)) 1 6 (va_A (wSd cI cZ cJ sd_a lk_w lk_v lk_wr lk_rd (cu_a 0) lk_sp sd ++ wSy cI cZ cJ cu_a cu ++ wOu cI cZ cJ ou_a ou) sz) := by
  refine va_MetW (hh := [((0), (10), (13), (21)), ((0), (10), (17), (13))]) (cc := c_Law_told) (maxL := 5) (ret := (some .int)) (by decide) rfl ?_
  intro p e s m args below meth c s₁ B hml hv
  obtain ⟨rfl, ⟨⟨hsz, hP, hK, hD0, hN⟩, hT⟩, hX⟩ := hv
  have hr := B.returns
  have hlocks := B.notSynchronized
  subst hsz
  have hD := hD0.self (sz := s.heap.size)
  have hx := B.exec
  have hb := B.bytes
  have hown : s.vm.findClass R_Law = some m.cls := findClass_of_methodNamed B.named
  have hts : ∀ w ∈ tb, w.before (List.toArray [Value.ref (sd_a 0), Value.int x1, Value.int x2, Value.ref (ou_a 0)]) s = true := fun w h => atoms_spec (ws := ws_Law_told) B.pre w (List.mem_cons_of_mem _ h)
  have htab := w_tab B rfl
  have hl := lv_entry ([.ref (sd_a 0), .int x1, .int x2, .ref (ou_a 0)]) (n := 5) (Nat.le_of_ble_eq_true rfl)
  rw [lg_entry_eq]
  generalize (lg_sl ([.ref (sd_a 0), .int x1, .int x2, .ref (ou_a 0)]) ++ List.replicate (5 - (lg_sl ([.ref (sd_a 0), .int x1, .int x2, .ref (ou_a 0)])).length) Slot.unset).toArray = ls at hl ⊢
  have hl : lv_has ls 5 [(0, .ref (sd_a 0)), (1, .int x1), (2, .int x2), (3, .ref (ou_a 0))] := hl
  have hRf : 8 ≤ (headSpec ws_Law_told ({ frames := 8, cells := 1, slots := 6, locals := 133 })).room.frames := Nat.le_refl _
  have hRl : 133 ≤ (headSpec ws_Law_told ({ frames := 8, cells := 1, slots := 6, locals := 133 })).room.locals := Nat.le_refl _
  have hRc : 0 + 1 ≤ (headSpec ws_Law_told ({ frames := 8, cells := 1, slots := 6, locals := 133 })).room.cells ∧ 0 + 6 ≤ (headSpec ws_Law_told ({ frames := 8, cells := 1, slots := 6, locals := 133 })).room.slots := ⟨Nat.le_refl _, Nat.le_refl _⟩
  generalize (headSpec ws_Law_told ({ frames := 8, cells := 1, slots := 6, locals := 133 })).room = R at hRf hRl hRc ⊢
  refine lv_aload_n hx hb d_Law_told_0 rfl (lv_at hl 3 rfl) ?_
  refine lv_iconst (v := 0) hx hb d_Law_told_1 (by decide) ?_
  refine lv_aload_n hx hb d_Law_told_2 rfl (lv_at hl 0 rfl) ?_
  refine lv_iload_n hx hb d_Law_told_3 rfl (lv_at hl 1 rfl) ?_
  refine lv_iload_n hx hb d_Law_told_4 rfl (lv_at hl 2 rfl) ?_
  have hPc := hP.sub (ws' := (wSd cI cZ cJ sd_a lk_w lk_v lk_wr lk_rd (cu_a 0) lk_sp sd ++ wSy cI cZ cJ cu_a cu)) [0, 1, 2, 3, 4, 5, 6, 7, 8, 9, 10] rfl
  have hDc := hD.sub (ws' := (wSd cI cZ cJ sd_a lk_w lk_v lk_wr lk_rd (cu_a 0) lk_sp sd ++ wSy cI cZ cJ cu_a cu)) [0, 1, 2, 3, 4, 5, 6, 7, 8, 9, 10] (by decide) rfl
  refine t_run (E := exN 1) (As := [.int x1, .int x2]) (rest := [.int 0, .ref (ou_a 0)]) ⟨hx, hb, hml, hown, hts⟩ (kt_SD_told l hl9 dC dI cI cZ cJ sd_a cu_a lk_w lk_v lk_wr lk_rd lk_sp _ hf) (cwV 2 hts (gV t_773 t_774 t_775 t_54 t_776) rfl rfl rfl hd_SD_told ⟨Nat.le_trans (Nat.le_of_ble_eq_true rfl) hRf, Nat.le_trans (Nat.le_of_ble_eq_true rfl) hRl⟩) ⟨kPT_blind, va_recv hK hP (ci := 6) (q0 := 0) rfl rfl, kPT_at hPc hK hDc hN va_S.rf hT⟩ rfl hl.1 rfl (lv_room (Nat.le_of_ble_eq_true rfl)) d_Law_told_5 hRc (fun q ce H1 h1 h2 hq hv hcl => ?_)
  obtain ⟨kE, hkE, -⟩ := Vm.findClass_spec hcl
  refine t_catch [⟨0, 10, 13, 21⟩] ⟨0, 10, 17, 13⟩ [] htab (fun hpl => ⟨(List.forall_mem_cons.mpr ⟨(hRow_pass (E := "java/lang/IllegalArgumentException") (nm := "java/lang/IndexOutOfBoundsException") hown hpl (hts _ t_655) (hX _ (by decide) _ (by decide) (by decide)) hcl (by decide) (by decide)), (List.forall_mem_nil _)⟩), hRow_take (nm := "java/lang/IllegalArgumentException") hown hpl (hts _ t_560) (hT.1 _ (by decide)) hcl (by decide) (by decide)⟩) ⟨kE, hkE⟩ hq hv ?_
  refine lv_astore (lv' := [(4, .ref q), (0, .ref (sd_a 0)), (1, .int x1), (2, .int x2), (3, .ref (ou_a 0))]) hx hb d_Law_told_17 hl (by decide) rfl (fun ls hl => ?_)
  refine lv_iconst (v := 2) hx hb d_Law_told_19 (by decide) ?_
  have hP := hP.kept (fun k x hx9 => h2 x.1 (hP k x hx9).lt)
  have hS : va_S (va_A (wSd cI cZ cJ sd_a lk_w lk_v lk_wr lk_rd (cu_a 0) lk_sp sd ++ wSy cI cZ cJ cu_a cu ++ wOu cI cZ cJ ou_a ou) s.heap.size) s.heap H1 [] := ⟨h1, fun q hq _ => h2 q hq, fun _ h => nomatch h⟩
  exact W.iret B.exec B.bytes hr (fun t ht hW => ⟨⟨_, (), rfl, rfl, ⟨by rw [ht]; exact hP, va_K.moved hW.alike hK, hD⟩⟩, hS.F ht⟩) hS.2.2 d_Law_told_20

set_option maxHeartbeats 4000000 in
set_option maxRecDepth 100000 in
theorem kx_Law_likeness_3 (l : Launch) (hl9 : l.stackTraces = false) (dC : Nat → ClassId) (dI : Nat → Nat → Nat) (cI cZ cJ : ClassId) (sd_a : Nat → Nat) (cu_a : Nat → Nat) (ou_a : Nat → Nat) (lk_w : Nat) (lk_v : Nat) (lk_wr : Nat) (lk_rd : Nat) (lk_sp : Nat) (sz : Nat) {sd : Sd} {cu : Sy} {ou : Ou} {x1 : Int32} {x2 : Int32} (hf : e_SD_likeness sd cu x1 x2 = some 3) :
    Met l y_Law_likeness ws_Law_likeness ({ frames := 8, cells := 1, slots := 6, locals := 133 }) (va_Pc [.ref (sd_a 0), .int x1, .int x2, .ref (ou_a 0)] (kPX (dC, dI) vwCl (TYS cI cZ cJ) (wSd cI cZ cJ sd_a lk_w lk_v lk_wr lk_rd (cu_a 0) lk_sp sd ++ wSy cI cZ cJ cu_a cu ++ wOu cI cZ cJ ou_a ou) sz)) (va_Qi (fun (q : Int32) (_ : Unit) => q = 1) (fun _ t => kQ (dC, dI) vwCl (TYS cI cZ cJ) (wSd cI cZ cJ sd_a lk_w lk_v lk_wr lk_rd (cu_a 0) lk_sp sd ++ wSy cI cZ cJ cu_a cu ++ wOu cI cZ cJ ou_a ou) sz (wSd cI cZ cJ sd_a lk_w lk_v lk_wr lk_rd (cu_a 0) lk_sp sd ++ wSy cI cZ cJ cu_a cu ++ wOu cI cZ cJ ou_a ou) t) (va_A (wSd cI cZ cJ sd_a lk_w lk_v lk_wr lk_rd (cu_a 0) lk_sp sd ++ wSy cI cZ cJ cu_a cu ++ wOu cI cZ cJ ou_a ou) sz)) 1 6 (va_A (wSd cI cZ cJ sd_a lk_w lk_v lk_wr lk_rd (cu_a 0) lk_sp sd ++ wSy cI cZ cJ cu_a cu ++ wOu cI cZ cJ ou_a ou) sz) := by
  refine va_MetW (hh := [((0), (10), (13), (21))]) (cc := c_Law_likeness) (maxL := 5) (ret := (some .int)) (by decide) rfl ?_
  intro p e s m args below meth c s₁ B hml hv
  obtain ⟨rfl, ⟨⟨hsz, hP, hK, hD0, hN⟩, hT⟩, hX⟩ := hv
  have hr := B.returns
  have hlocks := B.notSynchronized
  subst hsz
  have hD := hD0.self (sz := s.heap.size)
  have hx := B.exec
  have hb := B.bytes
  have hown : s.vm.findClass R_Law = some m.cls := findClass_of_methodNamed B.named
  have hts : ∀ w ∈ tb, w.before (List.toArray [Value.ref (sd_a 0), Value.int x1, Value.int x2, Value.ref (ou_a 0)]) s = true := fun w h => atoms_spec (ws := ws_Law_likeness) B.pre w (List.mem_cons_of_mem _ h)
  have htab := w_tab B rfl
  have hl := lv_entry ([.ref (sd_a 0), .int x1, .int x2, .ref (ou_a 0)]) (n := 5) (Nat.le_of_ble_eq_true rfl)
  rw [lg_entry_eq]
  generalize (lg_sl ([.ref (sd_a 0), .int x1, .int x2, .ref (ou_a 0)]) ++ List.replicate (5 - (lg_sl ([.ref (sd_a 0), .int x1, .int x2, .ref (ou_a 0)])).length) Slot.unset).toArray = ls at hl ⊢
  have hl : lv_has ls 5 [(0, .ref (sd_a 0)), (1, .int x1), (2, .int x2), (3, .ref (ou_a 0))] := hl
  have hRf : 8 ≤ (headSpec ws_Law_likeness ({ frames := 8, cells := 1, slots := 6, locals := 133 })).room.frames := Nat.le_refl _
  have hRl : 133 ≤ (headSpec ws_Law_likeness ({ frames := 8, cells := 1, slots := 6, locals := 133 })).room.locals := Nat.le_refl _
  have hRc : 0 + 1 ≤ (headSpec ws_Law_likeness ({ frames := 8, cells := 1, slots := 6, locals := 133 })).room.cells ∧ 0 + 6 ≤ (headSpec ws_Law_likeness ({ frames := 8, cells := 1, slots := 6, locals := 133 })).room.slots := ⟨Nat.le_refl _, Nat.le_refl _⟩
  generalize (headSpec ws_Law_likeness ({ frames := 8, cells := 1, slots := 6, locals := 133 })).room = R at hRf hRl hRc ⊢
  refine lv_aload_n hx hb d_Law_likeness_0 rfl (lv_at hl 3 rfl) ?_
  refine lv_iconst (v := 0) hx hb d_Law_likeness_1 (by decide) ?_
  refine lv_aload_n hx hb d_Law_likeness_2 rfl (lv_at hl 0 rfl) ?_
  refine lv_iload_n hx hb d_Law_likeness_3 rfl (lv_at hl 1 rfl) ?_
  refine lv_iload_n hx hb d_Law_likeness_4 rfl (lv_at hl 2 rfl) ?_
  have hPc := hP.sub (ws' := (wSd cI cZ cJ sd_a lk_w lk_v lk_wr lk_rd (cu_a 0) lk_sp sd ++ wSy cI cZ cJ cu_a cu)) [0, 1, 2, 3, 4, 5, 6, 7, 8, 9, 10] rfl
  have hDc := hD.sub (ws' := (wSd cI cZ cJ sd_a lk_w lk_v lk_wr lk_rd (cu_a 0) lk_sp sd ++ wSy cI cZ cJ cu_a cu)) [0, 1, 2, 3, 4, 5, 6, 7, 8, 9, 10] (by decide) rfl
  refine t_run (E := exN 3) (As := [.int x1, .int x2]) (rest := [.int 0, .ref (ou_a 0)]) ⟨hx, hb, hml, hown, hts⟩ (kt_SD_likeness l hl9 dC dI cI cZ cJ sd_a cu_a lk_w lk_v lk_wr lk_rd lk_sp _ hf) (cwV 2 hts (gV t_786 t_787 t_788 t_54 t_789) rfl rfl rfl hd_SD_likeness ⟨Nat.le_trans (Nat.le_of_ble_eq_true rfl) hRf, Nat.le_trans (Nat.le_of_ble_eq_true rfl) hRl⟩) ⟨kPT_blind, va_recv hK hP (ci := 6) (q0 := 0) rfl rfl, kPT_at hPc hK hDc hN va_S.rf hT⟩ rfl hl.1 rfl (lv_room (Nat.le_of_ble_eq_true rfl)) d_Law_likeness_5 hRc (fun q ce H1 h1 h2 hq hv hcl => ?_)
  obtain ⟨kE, hkE, -⟩ := Vm.findClass_spec hcl
  refine t_catch [] ⟨0, 10, 13, 21⟩ [] htab (fun hpl => ⟨(List.forall_mem_nil _), hRow_take (nm := "java/lang/IndexOutOfBoundsException") hown hpl (hts _ t_655) (hT.1 _ (by decide)) hcl (by decide) (by decide)⟩) ⟨kE, hkE⟩ hq hv ?_
  refine lv_astore (lv' := [(4, .ref q), (0, .ref (sd_a 0)), (1, .int x1), (2, .int x2), (3, .ref (ou_a 0))]) hx hb d_Law_likeness_13 hl (by decide) rfl (fun ls hl => ?_)
  refine lv_iconst (v := 1) hx hb d_Law_likeness_15 (by decide) ?_
  have hP := hP.kept (fun k x hx9 => h2 x.1 (hP k x hx9).lt)
  have hS : va_S (va_A (wSd cI cZ cJ sd_a lk_w lk_v lk_wr lk_rd (cu_a 0) lk_sp sd ++ wSy cI cZ cJ cu_a cu ++ wOu cI cZ cJ ou_a ou) s.heap.size) s.heap H1 [] := ⟨h1, fun q hq _ => h2 q hq, fun _ h => nomatch h⟩
  exact W.iret B.exec B.bytes hr (fun t ht hW => ⟨⟨_, (), rfl, rfl, ⟨by rw [ht]; exact hP, va_K.moved hW.alike hK, hD⟩⟩, hS.F ht⟩) hS.2.2 d_Law_likeness_16

set_option maxHeartbeats 4000000 in
set_option maxRecDepth 100000 in
theorem kx_Law_classes_1 (l : Launch) (hl9 : l.stackTraces = false) (dC : Nat → ClassId) (dI : Nat → Nat → Nat) (cI cZ cJ : ClassId) (sd_a : Nat → Nat) (cu_a : Nat → Nat) (ou_a : Nat → Nat) (lk_w : Nat) (lk_v : Nat) (lk_wr : Nat) (lk_rd : Nat) (lk_sp : Nat) (sz : Nat) {sd : Sd} {cu : Sy} {ou : Ou} {x1 : Int32} (hf : e_SD_classes sd cu x1 = some 1) :
    Met l y_Law_classes ws_Law_classes ({ frames := 7, cells := 1, slots := 6, locals := 116 }) (va_Pc [.ref (sd_a 0), .int x1, .ref (ou_a 0)] (kPX (dC, dI) vwCl (TYS cI cZ cJ) (wSd cI cZ cJ sd_a lk_w lk_v lk_wr lk_rd (cu_a 0) lk_sp sd ++ wSy cI cZ cJ cu_a cu ++ wOu cI cZ cJ ou_a ou) sz)) (va_Qi (fun (q : Int32) (_ : Unit) => q = 1) (fun _ t => kQ (dC, dI) vwCl (TYS cI cZ cJ) (wSd cI cZ cJ sd_a lk_w lk_v lk_wr lk_rd (cu_a 0) lk_sp sd ++ wSy cI cZ cJ cu_a cu ++ wOu cI cZ cJ ou_a ou) sz (wSd cI cZ cJ sd_a lk_w lk_v lk_wr lk_rd (cu_a 0) lk_sp sd ++ wSy cI cZ cJ cu_a cu ++ wOu cI cZ cJ ou_a ou) t) (va_A (wSd cI cZ cJ sd_a lk_w lk_v lk_wr lk_rd (cu_a 0) lk_sp sd ++ wSy cI cZ cJ cu_a cu ++ wOu cI cZ cJ ou_a ou) sz)) 1 6 (va_A (wSd cI cZ cJ sd_a lk_w lk_v lk_wr lk_rd (cu_a 0) lk_sp sd ++ wSy cI cZ cJ cu_a cu ++ wOu cI cZ cJ ou_a ou) sz) := by
  refine va_MetW (hh := [((0), (9), (12), (13))]) (cc := c_Law_classes) (maxL := 4) (ret := (some .int)) (by decide) rfl ?_
  intro p e s m args below meth c s₁ B hml hv
  obtain ⟨rfl, ⟨⟨hsz, hP, hK, hD0, hN⟩, hT⟩, hX⟩ := hv
  have hr := B.returns
  have hlocks := B.notSynchronized
  subst hsz
  have hD := hD0.self (sz := s.heap.size)
  have hx := B.exec
  have hb := B.bytes
  have hown : s.vm.findClass R_Law = some m.cls := findClass_of_methodNamed B.named
  have hts : ∀ w ∈ tb, w.before (List.toArray [Value.ref (sd_a 0), Value.int x1, Value.ref (ou_a 0)]) s = true := fun w h => atoms_spec (ws := ws_Law_classes) B.pre w (List.mem_cons_of_mem _ h)
  have htab := w_tab B rfl
  have hl := lv_entry ([.ref (sd_a 0), .int x1, .ref (ou_a 0)]) (n := 4) (Nat.le_of_ble_eq_true rfl)
  rw [lg_entry_eq]
  generalize (lg_sl ([.ref (sd_a 0), .int x1, .ref (ou_a 0)]) ++ List.replicate (4 - (lg_sl ([.ref (sd_a 0), .int x1, .ref (ou_a 0)])).length) Slot.unset).toArray = ls at hl ⊢
  have hl : lv_has ls 4 [(0, .ref (sd_a 0)), (1, .int x1), (2, .ref (ou_a 0))] := hl
  have hRf : 7 ≤ (headSpec ws_Law_classes ({ frames := 7, cells := 1, slots := 6, locals := 116 })).room.frames := Nat.le_refl _
  have hRl : 116 ≤ (headSpec ws_Law_classes ({ frames := 7, cells := 1, slots := 6, locals := 116 })).room.locals := Nat.le_refl _
  have hRc : 0 + 1 ≤ (headSpec ws_Law_classes ({ frames := 7, cells := 1, slots := 6, locals := 116 })).room.cells ∧ 0 + 6 ≤ (headSpec ws_Law_classes ({ frames := 7, cells := 1, slots := 6, locals := 116 })).room.slots := ⟨Nat.le_refl _, Nat.le_refl _⟩
  generalize (headSpec ws_Law_classes ({ frames := 7, cells := 1, slots := 6, locals := 116 })).room = R at hRf hRl hRc ⊢
  refine lv_aload_n hx hb d_Law_classes_0 rfl (lv_at hl 2 rfl) ?_
  refine lv_iconst (v := 0) hx hb d_Law_classes_1 (by decide) ?_
  refine lv_aload_n hx hb d_Law_classes_2 rfl (lv_at hl 0 rfl) ?_
  refine lv_iload_n hx hb d_Law_classes_3 rfl (lv_at hl 1 rfl) ?_
  have hPc := hP.sub (ws' := (wSd cI cZ cJ sd_a lk_w lk_v lk_wr lk_rd (cu_a 0) lk_sp sd ++ wSy cI cZ cJ cu_a cu)) [0, 1, 2, 3, 4, 5, 6, 7, 8, 9, 10] rfl
  have hDc := hD.sub (ws' := (wSd cI cZ cJ sd_a lk_w lk_v lk_wr lk_rd (cu_a 0) lk_sp sd ++ wSy cI cZ cJ cu_a cu)) [0, 1, 2, 3, 4, 5, 6, 7, 8, 9, 10] (by decide) rfl
  refine t_run (E := exN 1) (As := [.int x1]) (rest := [.int 0, .ref (ou_a 0)]) ⟨hx, hb, hml, hown, hts⟩ (kt_SD_classes l hl9 dC dI cI cZ cJ sd_a cu_a lk_w lk_v lk_wr lk_rd lk_sp _ hf) (cwV 1 hts (gV t_797 t_798 t_799 t_54 t_800) rfl rfl rfl hd_SD_classes ⟨Nat.le_trans (Nat.le_of_ble_eq_true rfl) hRf, Nat.le_trans (Nat.le_of_ble_eq_true rfl) hRl⟩) ⟨kPT_blind, va_recv hK hP (ci := 6) (q0 := 0) rfl rfl, kPT_at hPc hK hDc hN va_S.rf hT⟩ rfl hl.1 rfl (lv_room (Nat.le_of_ble_eq_true rfl)) d_Law_classes_4 hRc (fun q ce H1 h1 h2 hq hv hcl => ?_)
  obtain ⟨kE, hkE, -⟩ := Vm.findClass_spec hcl
  refine t_catch [] ⟨0, 9, 12, 13⟩ [] htab (fun hpl => ⟨(List.forall_mem_nil _), hRow_take (nm := "java/lang/IllegalArgumentException") hown hpl (hts _ t_560) (hT.1 _ (by decide)) hcl (by decide) (by decide)⟩) ⟨kE, hkE⟩ hq hv ?_
  refine lv_astore_n (lv' := [(3, .ref q), (0, .ref (sd_a 0)), (1, .int x1), (2, .ref (ou_a 0))]) hx hb d_Law_classes_12 rfl hl (by decide) rfl (fun ls hl => ?_)
  refine lv_iconst (v := 1) hx hb d_Law_classes_13 (by decide) ?_
  have hP := hP.kept (fun k x hx9 => h2 x.1 (hP k x hx9).lt)
  have hS : va_S (va_A (wSd cI cZ cJ sd_a lk_w lk_v lk_wr lk_rd (cu_a 0) lk_sp sd ++ wSy cI cZ cJ cu_a cu ++ wOu cI cZ cJ ou_a ou) s.heap.size) s.heap H1 [] := ⟨h1, fun q hq _ => h2 q hq, fun _ h => nomatch h⟩
  exact W.iret B.exec B.bytes hr (fun t ht hW => ⟨⟨_, (), rfl, rfl, ⟨by rw [ht]; exact hP, va_K.moved hW.alike hK, hD⟩⟩, hS.F ht⟩) hS.2.2 d_Law_classes_14

set_option maxHeartbeats 4000000 in
set_option maxRecDepth 100000 in
theorem kx_Law_cls_3 (l : Launch) (hl9 : l.stackTraces = false) (dC : Nat → ClassId) (dI : Nat → Nat → Nat) (cI cZ cJ : ClassId) (sd_a : Nat → Nat) (cu_a : Nat → Nat) (ou_a : Nat → Nat) (lk_w : Nat) (lk_v : Nat) (lk_wr : Nat) (lk_rd : Nat) (lk_sp : Nat) (sz : Nat) {sd : Sd} {cu : Sy} {ou : Ou} {x1 : Int32} (hf : e_SD_cls sd cu x1 = some 3) :
    Met l y_Law_cls ws_Law_cls ({ frames := 8, cells := 1, slots := 6, locals := 132 }) (va_Pc [.ref (sd_a 0), .int x1, .ref (ou_a 0)] (kPX (dC, dI) vwCl (TYS cI cZ cJ) (wSd cI cZ cJ sd_a lk_w lk_v lk_wr lk_rd (cu_a 0) lk_sp sd ++ wSy cI cZ cJ cu_a cu ++ wOu cI cZ cJ ou_a ou) sz)) (va_Qi (fun (q : Int32) (_ : Unit) => q = 1) (fun _ t => kQ (dC, dI) vwCl (TYS cI cZ cJ) (wSd cI cZ cJ sd_a lk_w lk_v lk_wr lk_rd (cu_a 0) lk_sp sd ++ wSy cI cZ cJ cu_a cu ++ wOu cI cZ cJ ou_a ou) sz (wSd cI cZ cJ sd_a lk_w lk_v lk_wr lk_rd (cu_a 0) lk_sp sd ++ wSy cI cZ cJ cu_a cu ++ wOu cI cZ cJ ou_a ou) t) (va_A (wSd cI cZ cJ sd_a lk_w lk_v lk_wr lk_rd (cu_a 0) lk_sp sd ++ wSy cI cZ cJ cu_a cu ++ wOu cI cZ cJ ou_a ou) sz)) 1 6 (va_A (wSd cI cZ cJ sd_a lk_w lk_v lk_wr lk_rd (cu_a 0) lk_sp sd ++ wSy cI cZ cJ cu_a cu ++ wOu cI cZ cJ ou_a ou) sz) := by
  refine va_MetW (hh := [((0), (9), (12), (21))]) (cc := c_Law_cls) (maxL := 4) (ret := (some .int)) (by decide) rfl ?_
  intro p e s m args below meth c s₁ B hml hv
  obtain ⟨rfl, ⟨⟨hsz, hP, hK, hD0, hN⟩, hT⟩, hX⟩ := hv
  have hr := B.returns
  have hlocks := B.notSynchronized
  subst hsz
  have hD := hD0.self (sz := s.heap.size)
  have hx := B.exec
  have hb := B.bytes
  have hown : s.vm.findClass R_Law = some m.cls := findClass_of_methodNamed B.named
  have hts : ∀ w ∈ tb, w.before (List.toArray [Value.ref (sd_a 0), Value.int x1, Value.ref (ou_a 0)]) s = true := fun w h => atoms_spec (ws := ws_Law_cls) B.pre w (List.mem_cons_of_mem _ h)
  have htab := w_tab B rfl
  have hl := lv_entry ([.ref (sd_a 0), .int x1, .ref (ou_a 0)]) (n := 4) (Nat.le_of_ble_eq_true rfl)
  rw [lg_entry_eq]
  generalize (lg_sl ([.ref (sd_a 0), .int x1, .ref (ou_a 0)]) ++ List.replicate (4 - (lg_sl ([.ref (sd_a 0), .int x1, .ref (ou_a 0)])).length) Slot.unset).toArray = ls at hl ⊢
  have hl : lv_has ls 4 [(0, .ref (sd_a 0)), (1, .int x1), (2, .ref (ou_a 0))] := hl
  have hRf : 8 ≤ (headSpec ws_Law_cls ({ frames := 8, cells := 1, slots := 6, locals := 132 })).room.frames := Nat.le_refl _
  have hRl : 132 ≤ (headSpec ws_Law_cls ({ frames := 8, cells := 1, slots := 6, locals := 132 })).room.locals := Nat.le_refl _
  have hRc : 0 + 1 ≤ (headSpec ws_Law_cls ({ frames := 8, cells := 1, slots := 6, locals := 132 })).room.cells ∧ 0 + 6 ≤ (headSpec ws_Law_cls ({ frames := 8, cells := 1, slots := 6, locals := 132 })).room.slots := ⟨Nat.le_refl _, Nat.le_refl _⟩
  generalize (headSpec ws_Law_cls ({ frames := 8, cells := 1, slots := 6, locals := 132 })).room = R at hRf hRl hRc ⊢
  refine lv_aload_n hx hb d_Law_cls_0 rfl (lv_at hl 2 rfl) ?_
  refine lv_iconst (v := 0) hx hb d_Law_cls_1 (by decide) ?_
  refine lv_aload_n hx hb d_Law_cls_2 rfl (lv_at hl 0 rfl) ?_
  refine lv_iload_n hx hb d_Law_cls_3 rfl (lv_at hl 1 rfl) ?_
  have hPc := hP.sub (ws' := (wSd cI cZ cJ sd_a lk_w lk_v lk_wr lk_rd (cu_a 0) lk_sp sd ++ wSy cI cZ cJ cu_a cu)) [0, 1, 2, 3, 4, 5, 6, 7, 8, 9, 10] rfl
  have hDc := hD.sub (ws' := (wSd cI cZ cJ sd_a lk_w lk_v lk_wr lk_rd (cu_a 0) lk_sp sd ++ wSy cI cZ cJ cu_a cu)) [0, 1, 2, 3, 4, 5, 6, 7, 8, 9, 10] (by decide) rfl
  refine t_run (E := exN 3) (As := [.int x1]) (rest := [.int 0, .ref (ou_a 0)]) ⟨hx, hb, hml, hown, hts⟩ (kt_SD_cls l hl9 dC dI cI cZ cJ sd_a cu_a lk_w lk_v lk_wr lk_rd lk_sp _ hf) (cwV 1 hts (gV t_814 t_815 t_816 t_54 t_817) rfl rfl rfl hd_SD_cls ⟨Nat.le_trans (Nat.le_of_ble_eq_true rfl) hRf, Nat.le_trans (Nat.le_of_ble_eq_true rfl) hRl⟩) ⟨kPT_blind, va_recv hK hP (ci := 6) (q0 := 0) rfl rfl, kPT_at hPc hK hDc hN va_S.rf hT⟩ rfl hl.1 rfl (lv_room (Nat.le_of_ble_eq_true rfl)) d_Law_cls_4 hRc (fun q ce H1 h1 h2 hq hv hcl => ?_)
  obtain ⟨kE, hkE, -⟩ := Vm.findClass_spec hcl
  refine t_catch [] ⟨0, 9, 12, 21⟩ [] htab (fun hpl => ⟨(List.forall_mem_nil _), hRow_take (nm := "java/lang/IndexOutOfBoundsException") hown hpl (hts _ t_655) (hT.1 _ (by decide)) hcl (by decide) (by decide)⟩) ⟨kE, hkE⟩ hq hv ?_
  refine lv_astore_n (lv' := [(3, .ref q), (0, .ref (sd_a 0)), (1, .int x1), (2, .ref (ou_a 0))]) hx hb d_Law_cls_12 rfl hl (by decide) rfl (fun ls hl => ?_)
  refine lv_iconst (v := 1) hx hb d_Law_cls_13 (by decide) ?_
  have hP := hP.kept (fun k x hx9 => h2 x.1 (hP k x hx9).lt)
  have hS : va_S (va_A (wSd cI cZ cJ sd_a lk_w lk_v lk_wr lk_rd (cu_a 0) lk_sp sd ++ wSy cI cZ cJ cu_a cu ++ wOu cI cZ cJ ou_a ou) s.heap.size) s.heap H1 [] := ⟨h1, fun q hq _ => h2 q hq, fun _ h => nomatch h⟩
  exact W.iret B.exec B.bytes hr (fun t ht hW => ⟨⟨_, (), rfl, rfl, ⟨by rw [ht]; exact hP, va_K.moved hW.alike hK, hD⟩⟩, hS.F ht⟩) hS.2.2 d_Law_cls_14
