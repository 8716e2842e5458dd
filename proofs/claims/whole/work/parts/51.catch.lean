/-! A throw that is caught by its class in the method that made the call; the handlers' classes may not be linked yet -/
section Caught
/-- a handler's row, met by a thrown object of class th: it does not stand over pc, or its class is linked (now or by the search) and takes th or not -/
def hRow (pl : Platform) (s0 : State) (d : ClassId) (pc : Nat) (th : ClassId) (takes : Bool) (y : ExceptionTableEntry) : Prop :=
  (takes = false ∧ covers y pc = false) ∨ (covers y pc = true ∧ y.catchType ≠ 0 ∧ ∃ c, s0.vm.ClassLinks pl d y.catchType c ∧ s0.vm.assignable th c = takes)
/-- one row of the search -/
theorem h_step {Q : Handler → Pre} {E : CtlPost} {e : Env} {d : Bool} {acts : List Action} {S : State} {f : JFrame} {a : Addr} {y : ExceptionTableEntry} {t : List ExceptionTableEntry} {c : ClassId} {cell : Cell} {takes : Bool}
    (hx : covers y f.pc = true) (h0 : y.catchType ≠ 0) (hl : S.vm.ClassLinks e.platform f.method.cls y.catchType c) (hcell : S.heap[a]? = some cell) (hobj : ∀ k, cell.vm ≠ .statics k)
    (hk : ∃ k, S.vm.classes[cell.cls]? = some k) (hc : ∃ k, S.vm.classes[c]? = some k) (hfit : S.vm.assignable cell.cls c = takes) :
    wp (findHandler.go f a (y :: t)) Q E e d acts S ↔ (if takes = true then Q (.found y.handlerPc) d acts (S.setVm (S.vm.noted f.method.cls y.catchType (.cls c))) else wp (findHandler.go f a t) Q E e d acts (S.setVm (S.vm.noted f.method.cls y.catchType (.cls c)))) := by
  simp only [covers] at hx
  obtain ⟨ha, ht⟩ := (resolveClass_links e.toSetting hl).op (op := VmOp.resolveClass f.method.cls y.catchType) rfl
  have hal : S.vm.Alike (S.vm.noted f.method.cls y.catchType (.cls c)) := (Vm.Alike.refl S.vm).noted _ _ _
  obtain ⟨k1, hk1⟩ := hk
  obtain ⟨k2, hk2⟩ := hc
  obtain ⟨k1', hk1', -⟩ := hal.2.2 _ _ hk1
  obtain ⟨k2', hk2', -⟩ := hal.2.2 _ _ hk2
  have hfit' : (S.vm.noted f.method.cls y.catchType (.cls c)).assignable cell.cls c = takes := by rw [hal.assignable]; exact hfit
  cases takes <;> simp [findHandler.go, hx, h0, ha, ht, hcell, hobj, hk1', hk2', hfit', VmOp.dirties, VmOp.acts]
/-- the whole search: rows that let it pass, then one that takes it -/
theorem h_search {e : Env} {s0 : State} {f : JFrame} {a : Addr} {cell : Cell} (hobj : ∀ k, cell.vm ≠ .statics k) (hk0 : ∃ k, s0.vm.classes[cell.cls]? = some k) (x : ExceptionTableEntry) (rest : List ExceptionTableEntry) (hx : hRow e.platform s0 f.method.cls f.pc cell.cls true x) :
    ∀ (pre : List ExceptionTableEntry) (S : State), s0.WarmedH S.vm → S.heap[a]? = some cell → (∀ y ∈ pre, hRow e.platform s0 f.method.cls f.pc cell.cls false y) →
      ∃ vm', s0.WarmedH vm' ∧ ∀ (Q : Handler → Pre) (E : CtlPost) (d : Bool) (acts : List Action), wp (findHandler.go f a (pre ++ x :: rest)) Q E e d acts S ↔ Q (.found x.handlerPc) d acts (S.setVm vm') := by
  obtain ⟨k0, hk0⟩ := hk0
  intro pre
  induction pre with
  | nil =>
    intro S hW hcell _
    obtain ⟨k0', hk0', -⟩ := hW.alike.2.2 _ _ hk0
    rcases hx with ⟨h, -⟩ | ⟨hcov, h0, c, hl, hfit⟩
    · cases h
    · obtain ⟨dk, _, _, kt, hd, _, _, _, _, hkt, _, hopen⟩ := hl.here
      obtain ⟨kt', hkt', -⟩ := hW.alike.2.2 _ _ hkt
      refine ⟨_, hW.noted hd hopen (State.rightAt_cls hl), fun Q E d acts => ?_⟩
      rw [List.nil_append, h_step (takes := true) hcov h0 (hW.classLinks hl) hcell hobj ⟨k0', hk0'⟩ ⟨kt', hkt'⟩ (by rw [hW.alike.assignable]; exact hfit), if_pos rfl]
  | cons y ys ih =>
    intro S hW hcell hp
    obtain ⟨k0', hk0', -⟩ := hW.alike.2.2 _ _ hk0
    have hys : ∀ z ∈ ys, hRow e.platform s0 f.method.cls f.pc cell.cls false z := fun z hz => hp z (List.mem_cons_of_mem _ hz)
    rcases hp y List.mem_cons_self with ⟨-, hno⟩ | ⟨hcov, h0, c, hl, hfit⟩
    · obtain ⟨vm', hW', hq⟩ := ih S hW hcell hys
      refine ⟨vm', hW', fun Q E d acts => ?_⟩
      rw [List.cons_append, W.findHandler_go_skip hno]
      exact hq Q E d acts
    · obtain ⟨dk, _, _, kt, hd, _, _, _, _, hkt, _, hopen⟩ := hl.here
      obtain ⟨kt', hkt', -⟩ := hW.alike.2.2 _ _ hkt
      obtain ⟨vm', hW', hq⟩ := ih (S.setVm (S.vm.noted f.method.cls y.catchType (.cls c))) (hW.noted hd hopen (State.rightAt_cls hl)) hcell hys
      refine ⟨vm', hW', fun Q E d acts => ?_⟩
      rw [List.cons_append, h_step (takes := false) hcov h0 (hW.classLinks hl) hcell hobj ⟨k0', hk0'⟩ ⟨kt', hkt'⟩ (by rw [hW.alike.assignable]; exact hfit), if_neg (by decide)]
      exact hq Q E d acts
variable {p : Program} {l : Launch} {e : Env} {R : Room} {s : State} {m : MethodId} {args : Array Value} {below : List Frame} {meth : Method} {c : Code} {H : Heap} {cells slots : Nat} {Q : State → Prop}
/-- caught by the row x: on at its handler, the thrown object alone on the stack -/
theorem t_catch {pc : Nat} {ls : Array Slot} {rest : List Value} {ce : Cell} {q : Addr} (pre : List ExceptionTableEntry) (x : ExceptionTableEntry) (suf : List ExceptionTableEntry) (hsplit : c.exceptionTable.toList = pre ++ x :: suf)
    (hpl : e.platform.magicAccessors = ({} : Platform).magicAccessors → (∀ y ∈ pre, hRow e.platform s m.cls pc ce.cls false y) ∧ hRow e.platform s m.cls pc ce.cls true x) (hk0 : ∃ k, s.vm.classes[ce.cls]? = some k) (hcell : H[q]? = some ce) (hv : ce.vm = .none)
    (kk : W p l e R s m args below meth c H [] cells slots Q (F0 m x.handlerPc ls [.ref q])) : tW p l e R s m args below meth c H cells slots Q (F0 m pc ls rest) q := by
  intro T hT X
  obtain ⟨hpre, hx⟩ := hpl (by rw [X.admits.platform])
  obtain ⟨g, hg⟩ : ∃ g, g = F0 m pc ls rest := ⟨_, rfl⟩
  have hgm : g.method = m := by rw [hg]
  have hgp : g.pc = pc := by rw [hg]
  obtain ⟨S, hS⟩ : ∃ S, S = (T.setTop g).pushFrame (.throwing q) := ⟨_, rfl⟩
  have hSvm : S.vm = T.vm := by rw [hS]; exact Stand.throwing_vm T g q
  have hShp : S.heap = H := by rw [hS, Stand.throwing_heap]; exact hT
  obtain ⟨vm', hW', hq⟩ := h_search (e := e) (s0 := s) (f := g) (a := q) (cell := ce) (fun k h => by rw [hv] at h; cases h) hk0 x suf (by rw [hgm, hgp]; exact hx) pre S (by rw [hSvm]; exact X.warmed) (by rw [hShp]; exact hcell) (by rw [hgm, hgp]; exact hpre)
  obtain ⟨t, a1, b1⟩ := kk (T.setVm vm') hT (X.noted hW')
  refine ⟨t, ?_, b1⟩
  rw [← hg, ← hS]
  have h : At T g.method c below := by rw [hgm]; exact X.here
  obtain ⟨hgo, hw⟩ := h.throwing q
  rw [hS]
  refine Steps.head hgo hw ?_
  have hfind : ∀ (Q : Handler → Pre) (E : CtlPost) (d : Bool) (acts : List Action), wp (findHandler g q) Q E e d acts S ↔ Q (.found x.handlerPc) d acts (S.setVm vm') := fun Q E d acts => by
    rw [W.findHandler_eq (meth := meth) (code := c) (by rw [hSvm, hgm]; exact X.method') X.code, hsplit]
    exact hq Q E d acts
  have hgo2 : ∀ r, (stepThrowing e S q (.java g :: r)).Is ((S.setVm vm').setFrames (.java { g with pc := x.handlerPc, stack := [.ref q] } :: r)) [] := fun r => by
    simp only [stepThrowing, searchFrame, vmDo]
    generalize hr : Sem.go _ e false [] S = res
    obtain ⟨as, rfl, ha⟩ := Sem.eq_ok_of hr (a := Handler.found x.handlerPc) (s' := S.setVm vm') (acts' := []) (by simp [hfind _ _ _ _])
    exact ⟨rfl, ha⟩
  rw [stepThread_throwing (frames_entered h.top _), ← hS, (hgo2 _).1, hS]
  obtain ⟨g₀, hg0⟩ := Option.isSome_iff_exists.mp h.top
  obtain ⟨r, hr⟩ := State.topJava?_eq_some.mp hg0
  have hr' : (T.setVm vm').frames = .java g₀ :: r := hr
  have a2 : Steps p.tables e below ((T.setVm vm').setTop { g with pc := x.handlerPc, stack := [.ref q] }) t := by rw [hg]; exact a1
  rw [State.setTop_of_frames _ hr'] at a2
  have hsf : ∀ (u : State) (F G : List Frame), ((u.setFrames F).setVm vm').setFrames G = (u.setVm vm').setFrames G := fun u F G => by
    rw [show (u.setFrames F).setVm vm' = (u.setVm vm').setFrames F from rfl, State.setFrames_setFrames]
  rw [hr, List.tail_cons, State.pushFrame, hsf, State.setTop_of_frames _ hr, hsf]
  exact a2
end Caught
