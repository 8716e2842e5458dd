/-! The law's cell -/
theorem d_Law_cell_0 : decode c_Law_cell 0 = .ok (.iload_n 1, 1) := by decide +kernel
theorem d_Law_cell_1 : decode c_Law_cell 1 = .ok (.aload_n 0, 1) := by decide +kernel
theorem d_Law_cell_2 : decode c_Law_cell 2 = .ok (.arraylength, 1) := by decide +kernel
theorem d_Law_cell_3 : decode c_Law_cell 3 = .ok (.if_icmp .ge 9, 3) := by decide +kernel
theorem d_Law_cell_6 : decode c_Law_cell 6 = .ok (.aload_n 0, 1) := by decide +kernel
theorem d_Law_cell_7 : decode c_Law_cell 7 = .ok (.iload_n 1, 1) := by decide +kernel
theorem d_Law_cell_8 : decode c_Law_cell 8 = .ok (.iaload, 1) := by decide +kernel
theorem d_Law_cell_9 : decode c_Law_cell 9 = .ok (.goto 4, 3) := by decide +kernel
theorem d_Law_cell_12 : decode c_Law_cell 12 = .ok (.iconst 0, 1) := by decide +kernel
theorem d_Law_cell_13 : decode c_Law_cell 13 = .ok (.ireturn, 1) := by decide +kernel
theorem hd_Law_cell : y_Law_cell.cls ≠ "java/lang/invoke/MethodHandle" ∧ y_Law_cell.cls ≠ "java/lang/invoke/VarHandle" ∧ (parseMethodDescriptor y_Law_cell.desc).map (fun d => d.parameters.length) = some 2 := by decide +kernel
def xc (L : Nat) (xs : Nat → Int32) : Int32 := if 0 < L then xs 0 else 0
def cP (b L : Nat) (xs : Nat → Int32) (sz : Nat) (U : State) : Prop := U.heap.size = sz ∧ va_X b L xs U U.heap ∧ b < U.heap.size
theorem cP_blind {b L : Nat} {xs : Nat → Int32} {sz : Nat} {av : List Value} : FrameBlind (va_Pc av (cP b L xs sz)) := by
  intro a U g mk q
  obtain ⟨q0, q1, q2, q3⟩ := q
  exact ⟨q0, q1, va_X.moved (u := U) (U := U.calling g mk a) (Vm.Alike.refl U.vm) q2, q3⟩
theorem cP_at {b L : Nat} {xs : Nat → Int32} {H : Heap} {A : Nat → Prop} {s : State} {locs : List Loc} {av : List Value} (hX : va_X b L xs s s.heap) (hbl : b < s.heap.size) (hbA : ¬ A b) (hS : va_S A s.heap H locs) :
    ∀ U : State, U.heap = H → s.WarmedH U.vm → va_Pc av (cP b L xs H.size) av.toArray U :=
  fun U hU hW => ⟨rfl, by rw [hU], va_X.moved hW.alike (by rw [hU]; exact hX.kept (hS.2.1 b hbl hbA)), by rw [hU]; exact Nat.lt_of_lt_of_le hbl hS.1⟩
set_option maxHeartbeats 4000000 in
theorem k_Law_cell (l : Launch) (b L : Nat) (xs : Nat → Int32) (hL : L ≤ 2561) (sz : Nat) :
    Met l y_Law_cell (.code y_Law_cell c_Law_cell 2 (some .int) :: tb) ({ frames := 0, cells := 0, slots := 0, locals := 0 }) (va_Pc [.ref b, .int 0] (cP b L xs sz)) (va_Qi (fun (q : Int32) (_ : Unit) => q = xc L xs) (fun _ _ => True) (fun q => sz ≤ q)) 0 0 (fun q => sz ≤ q) := by
  refine Met.ofW (cc := c_Law_cell) (maxL := 2) (ret := (some .int)) (by decide) rfl ?_
  intro p e s m args below meth c s₁ B hml hv
  obtain ⟨rfl, hsz, hX, hbl⟩ := hv
  have hx := B.exec
  have hb := B.bytes
  have hr := B.returns
  have hlocks := B.notSynchronized
  subst hsz
  have hS : va_S (fun q : Nat => s.heap.size ≤ q) s.heap s.heap [] := va_S.rf
  have hbA : ¬ (fun q : Nat => s.heap.size ≤ q) b := Nat.not_le.mpr hbl
  have hl := lv_entry ([.ref b, .int 0]) (n := 2) (Nat.le_of_ble_eq_true rfl)
  rw [lg_entry_eq]
  generalize (lg_sl ([.ref b, .int 0]) ++ List.replicate (2 - (lg_sl ([.ref b, .int 0])).length) Slot.unset).toArray = ls at hl ⊢
  have hl : lv_has ls 2 [(0, .ref b), (1, .int 0)] := hl
  refine lv_iload_n hx hb d_Law_cell_0 rfl (lv_at hl 1 rfl) ?_
  refine lv_aload_n hx hb d_Law_cell_1 rfl (lv_at hl 0 rfl) ?_
  refine va_slen hx hb hX hbl hbA hS d_Law_cell_2 ?_
  refine lv_icmp_ge (tgt := 12) hx hb d_Law_cell_3 (by decide) (fun c1 => ?_) (fun c1 => ?_)
  · have e : L = 0 := by
      rcases Nat.eq_zero_or_pos L with q | q
      · exact q
      · exact absurd c1 (nI_nle q (by omega))
    refine lv_iconst (v := 0) hx hb d_Law_cell_12 (by decide) ?_
    exact W.iret hx hb hr (fun t ht hW => ⟨⟨_, (), rfl, by rw [xc, e]; rfl, trivial⟩, ⟨by rw [ht]; exact Nat.le_refl _, fun q h1 h2 => by rw [ht]⟩⟩) (fun q h => nomatch h) d_Law_cell_13
  · have e : 0 < L := by
      rcases Nat.eq_zero_or_pos L with q | q
      · exact absurd (by rw [q]; decide) c1
      · exact q
    refine lv_aload_n hx hb d_Law_cell_6 rfl (lv_at hl 0 rfl) ?_
    refine lv_iload_n hx hb d_Law_cell_7 rfl (lv_at hl 1 rfl) ?_
    refine va_sld hx hb hX hbl hbA hS (i := 0) (vp_in_nI (n := 0) e (by omega)) d_Law_cell_8 ?_
    refine lv_goto (tgt := 13) hx hb d_Law_cell_9 (by decide) ?_
    exact W.iret hx hb hr (fun t ht hW => ⟨⟨_, (), rfl, by rw [xc, if_pos e]; rfl, trivial⟩, ⟨by rw [ht]; exact Nat.le_refl _, fun q h1 h2 => by rw [ht]⟩⟩) (fun q h => nomatch h) d_Law_cell_13
/-- what holds at the law's entry, in the rows' own words -/
def lcy (p : Program) (c : Code) (m : MethodId) (s : State) (args : Array Value) (R : Room) (D : va_G) (tys : List (ClassId × FieldType)) (A : Nat → Prop) (b L : Nat) (xs : Nat → Int32) : Prop :=
  p.tables.exec = Jvm.exec ∧ c.code = code ∧ c.maxLocals = 7 ∧ s.vm.findClass R_Law = some m.cls ∧ (∀ w ∈ tb, w.before args s = true) ∧ va_K D vwCl tys s ∧ (∀ q : Nat, s.heap.size ≤ q → A q) ∧ (∀ q : Nat, A q → s.heap.size ≤ q) ∧ 12 ≤ R.frames ∧ 438 ≤ R.locals ∧ kN s ∧ va_X b L xs s s.heap ∧ b < s.heap.size ∧ 200000 ≤ R.cells ∧ 400000 ≤ R.slots
/-! The law's loop -/
theorem law_out {L k : Nat} (hL : L ≤ 2561) (hk : k ≤ 512) (h : ¬ 5 * k + 6 ≤ L) : nI L - 5 < nI (5 * k + 1) := by
  rw [show (5 : Int32) = nI 5 from rfl, Int32.lt_iff_toInt_lt, pk_sub_toInt (by omega) (by omega), nI_toInt (by omega)]
  omega
theorem law_in {L k : Nat} (hL : L ≤ 2561) (hk : k ≤ 512) (h : 5 * k + 6 ≤ L) : ¬ nI L - 5 < nI (5 * k + 1) := by
  rw [show (5 : Int32) = nI 5 from rfl, Int32.lt_iff_toInt_lt, pk_sub_toInt (by omega) (by omega), nI_toInt (by omega)]
  omega
theorem law_ix {L k : Nat} (hL : L ≤ 2561) (h : 5 * k + 6 ≤ L) : ∀ q : Int32, 0 ≤ q → q < 5 → vp_in (nI (5 * k + 1) + q) L := by
  intro q h0 h5
  obtain ⟨a, ha, rfl⟩ := nI_of (le_nlt h0)
  have h6 : a < 5 := by
    rw [show (5 : Int32) = nI 5 from rfl, nI_ltI ha (by decide)] at h5
    exact h5
  rw [nI_add]
  exact vp_in_nI (by omega) (by omega)
theorem law_inc (k : Nat) : nI (5 * k + 1) + Int32.ofInt 5 = nI (5 * (k + 1) + 1) := by
  show nI (5 * k + 1) + nI 5 = _
  rw [nI_add]
  exact congrArg nI (by omega)
