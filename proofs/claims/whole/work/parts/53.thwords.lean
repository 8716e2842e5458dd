/-! What a throw asks of the state beside the tables' good words -/
def th_names : List String := ["java/lang/RuntimeException", "java/lang/Exception"]
def th_cls : List String := ["java/lang/IllegalArgumentException", "java/lang/IllegalStateException", "java/lang/IndexOutOfBoundsException", "java/lang/UnsupportedOperationException"]
def th_dec : List MethodName := [⟨"java/lang/RuntimeException", "<init>", "(Ljava/lang/String;)V"⟩, ⟨"java/lang/Exception", "<init>", "(Ljava/lang/String;)V"⟩, ⟨"java/lang/Throwable", "<init>", "(Ljava/lang/String;)V"⟩]
def th_txt : List (Nat × String) := [(70, "a width or height is 1 to 16"), (80, "there are 40 symbols"), (198, "there is no such symbol"), (200, "there is no such sample"), (112, "a shift is -4 to 4"), (120, "a base comes before its symbol"), (134, "there is no such byte"), (140, "a byte is 0 to 255"), (142, "there are 3000 bytes to be read"), (146, "there would be more than 3000 bytes to be read"), (185, "0 to 7 is told of a symbol"), (190, "a bound is not below 0")]
/-- a static field of Throwable: where it lies, and that it holds a reference -/
def stZ (n d : String) (U : State) (H : Heap) : Prop := ∃ (c : ClassId) (k : Class) (i : Nat) (f : Field) (a : Nat) (cell : Cell) (v : Value), U.vm.findClass Bundle.tN = some c ∧ U.fieldFound? Bundle.tN n d = some (c, k, i, f) ∧ f.isStatic = true ∧ k.statics = some a ∧ H[a]? = some cell ∧ cell.vm.isStatics = true ∧ cell.cls = c ∧ f.slot < cell.slots.size ∧ k.staticTypes[f.slot]? = some f.type ∧ cell.slots[f.slot]? = some v ∧ (v = .null ∨ ∃ t, v = .ref t)
theorem stZ.of {args : Array Value} {s : State} {n d : String} (hl : (Cond.laysStatic Bundle.tN n d).before args s = true) (h : (Cond.isRef (.static Bundle.tN n d)).before args s = true) : stZ n d s s.heap := by
  obtain ⟨c, k, i, f, a, cell, h1, h2, h3, h4, h5, h6, h7, h8, h9⟩ := Cond.laysStatic_spec hl
  cases hv : (Term.static Bundle.tN n d).eval args s none [] s with
  | none => simp [Cond.before, Cond.holds, Cond.value, hv] at h
  | some w =>
    obtain ⟨-, a', cell', ha', hcell', -, hslot⟩ := Term.static_spec h2 hv
    cases h4.symm.trans ha'
    cases h5.symm.trans hcell'
    refine ⟨c, k, i, f, a, cell, w, h1, h2, h3, h4, h5, h6, h7, h8, h9, hslot, ?_⟩
    simp only [Cond.before, Cond.holds, Cond.value, hv] at h
    cases w with
    | null => exact Or.inl rfl
    | ref t => exact Or.inr ⟨t, rfl⟩
    | _ => simp at h
theorem stZ.lays {args : Array Value} {s : State} {n d : String} (h : stZ n d s s.heap) : (Cond.laysStatic Bundle.tN n d).before args s = true := by
  obtain ⟨c, k, i, f, a, cell, v, h1, h2, h3, h4, h5, h6, h7, h8, h9, -, -⟩ := h
  exact Cond.laysStatic_of h1 h2 h3 h4 h5 h6 h7 h8 h9
theorem stZ.isRef {args : Array Value} {s : State} {n d : String} (hini : (Cond.initialized Bundle.tN).before args s = true) (h : stZ n d s s.heap) : (Cond.isRef (.static Bundle.tN n d)).before args s = true := by
  obtain ⟨c, k, i, f, a, cell, v, h1, h2, h3, h4, h5, h6, h7, h8, h9, h10, h11⟩ := h
  have hi : k.init = .initialized := Cond.initialized_spec h1 (State.fieldFound?_spec h2).1 hini
  have he : (Term.static Bundle.tN n d).eval args s none [] s = some v := by
    simp [Term.eval, State.fieldNamed?, h2, h3, h4, h5, h6, h10, hi]
  simp only [Cond.before, Cond.holds, Cond.value, he]
  rcases h11 with rfl | ⟨t, rfl⟩ <;> simp
/-- at another state with tables alike and the statics cell as it was -/
theorem stZ.at {s U : State} {n d : String} {H : Heap} (hvm : s.vm.Alike U.vm) (hH : ∀ q : Nat, q < s.heap.size → H[q]? = s.heap[q]?) (h : stZ n d s s.heap) : stZ n d U H := by
  obtain ⟨c, k, i, f, a, cell, v, h1, h2, h3, h4, h5, h6, h7, h8, h9, h10, h11⟩ := h
  obtain ⟨k', hi', he⟩ := State.fieldFound?_setVm hvm h2
  exact ⟨c, k', i, f, a, cell, v, by rw [hvm.findClass]; exact h1, hi', h3, by rw [he]; exact h4, by rw [hH a (Array.getElem?_eq_some_iff.mp h5).1]; exact h5, h6, h7, h8, by rw [he]; exact h9, h10, h11⟩
/-- all of it -/
def kT (U : State) : Prop := (∀ x ∈ th_cls, va_Nw (.castable x x) U) ∧ (∀ x ∈ th_dec, va_Nw (.declares x) U) ∧ stZ "UNASSIGNED_STACK" Bundle.steD U U.heap ∧ stZ "SUPPRESSED_SENTINEL" Bundle.listD U U.heap ∧ ∀ q ∈ th_txt, ∃ sa, vk_R R_SD q.1 q.2 sa U
theorem kT_at {s U : State} (hW : s.WarmedH U.vm) (hH : ∀ q : Nat, q < s.heap.size → U.heap[q]? = s.heap[q]?) (h : kT s) : kT U := by
  obtain ⟨h1, h2, h3, h4, h5⟩ := h
  exact ⟨fun x hx => (h1 x hx).warmC hW, fun x hx => (h2 x hx).warmD hW, h3.at hW.alike hH, h4.at hW.alike hH, fun q hq => by
    obtain ⟨sa, hs⟩ := h5 q hq
    exact ⟨sa, vk_R.warm hW hs⟩⟩
def th_hot (w : Cond) : Bool := decide (w = .isRef (.static Bundle.tN "UNASSIGNED_STACK" Bundle.steD)) || decide (w = .isRef (.static Bundle.tN "SUPPRESSED_SENTINEL" Bundle.listD)) || decide (w = .laysStatic Bundle.tN "UNASSIGNED_STACK" Bundle.steD) || decide (w = .laysStatic Bundle.tN "SUPPRESSED_SENTINEL" Bundle.listD)
def th_ok (w : Cond) : Bool := (decide (w ∈ lw_tbl) && goodWord w) || th_hot w || (th_cls.any fun x => decide (w = .castable x x)) || (th_dec.any fun x => decide (w = .declares x))
theorem th_words {L : List Cond} {args : Array Value} {s : State} (hL : L.all th_ok = true) (hts : ∀ w ∈ tb, w.before args s = true) (hini : (Cond.initialized Bundle.tN).before args s = true) (hT : kT s) : ∀ w ∈ L, w.before args s = true := by
  intro w hw
  have h := List.all_eq_true.mp hL w hw
  unfold th_ok th_hot at h
  simp only [Bool.or_eq_true, Bool.and_eq_true, decide_eq_true_eq, List.any_eq_true] at h
  obtain ⟨h1, h2, h3, h4, -⟩ := hT
  rcases h with ((⟨hm, hg⟩ | (((e | e) | e) | e)) | ⟨x, hx, e⟩) | ⟨x, hx, e⟩
  · exact hts w (List.mem_filter.mpr ⟨hm, hg⟩)
  · rw [e]; exact h3.isRef hini
  · rw [e]; exact h4.isRef hini
  · rw [e]; exact h3.lays
  · rw [e]; exact h4.lays
  · rw [e]; exact (h1 x hx).use rfl
  · rw [e]; exact (h2 x hx).use rfl

theorem th_all_72 : (Bundle.ownAtoms R_SD 72 "java/lang/IllegalArgumentException" th_names).all th_ok = true := by decide +kernel
theorem th_all_82 : (Bundle.ownAtoms R_SD 82 "java/lang/UnsupportedOperationException" th_names).all th_ok = true := by decide +kernel
theorem th_all_136 : (Bundle.ownAtoms R_SD 136 "java/lang/IndexOutOfBoundsException" th_names).all th_ok = true := by decide +kernel
theorem th_all_122 : (Bundle.ownAtoms R_SD 122 "java/lang/IllegalStateException" th_names).all th_ok = true := by decide +kernel
theorem th_ini : (.initialized Bundle.tN : Cond) ∈ tb := List.mem_filter.mpr ⟨by decide +kernel, by decide +kernel⟩
