/-! Sizes and places: the class's symbols and the reference's -/
theorem gd_in {α : Type} {i N : Nat} {x : Option α} (h : i < N) (hN : N < 2 ^ 31) : gd (inb (nI i) N) x = x := gd_t (inb_nI h hN)
theorem i10 : ¬ (1 : Int32) = 0 := by decide
/-- the class's symbols: n of them, widths wd, heights ht -/
def SzS (sy : Sy) (n : Nat) (wd ht : Nat → Nat) : Prop := Sy_n sy = nI n ∧ n ≤ 40 ∧ ∀ k, k < n → (Sy_wd sy k = nI (wd k) ∧ 1 ≤ wd k ∧ wd k ≤ 16) ∧ Sy_ht sy k = nI (ht k) ∧ 1 ≤ ht k ∧ ht k ≤ 16
/-- the reference's -/
def SzM (mo : Mo) (n : Nat) (wd ht : Nat → Nat) : Prop := Mo_n mo = nI n ∧ n ≤ 40 ∧ ∀ k, k < n → (Mo_wd mo k = nI (wd k) ∧ 1 ≤ wd k ∧ wd k ≤ 16) ∧ Mo_ht mo k = nI (ht k) ∧ 1 ≤ ht k ∧ ht k ≤ 16
theorem s_comesBefore {sy : Sy} {n : Nat} {wd ht : Nat → Nat} {a b : Nat} (h : SzS sy n wd ht) (ha : a < n) (hb : b < n) : f_Symbols_comesBefore sy (nI a) (nI b) = some (if bef wd ht a b = true then 1 else 0) := by
  obtain ⟨hn, h40, hk⟩ := h
  obtain ⟨⟨wa, wa1, wa2⟩, ta, ta1, ta2⟩ := hk a ha
  obtain ⟨⟨wb, wb1, wb2⟩, tb9, tb1, tb2⟩ := hk b hb
  have ca : (nI a).toNatClampNeg = a := nI_clamp (by omega)
  have cb : (nI b).toNatClampNeg = b := nI_clamp (by omega)
  rw [f_Symbols_comesBefore]
  simp only [gd_in (show a < 40 by omega) (by decide), gd_in (show b < 40 by omega) (by decide), ca, cb, wa, wb, ta, tb9, nI_eq (show ht a < 2 ^ 31 by omega) (show ht b < 2 ^ 31 by omega), nI_eq (show wd a < 2 ^ 31 by omega) (show wd b < 2 ^ 31 by omega), nI_leI (show ht b < 2 ^ 31 by omega) (show ht a < 2 ^ 31 by omega), nI_leI (show wd b < 2 ^ 31 by omega) (show wd a < 2 ^ 31 by omega), nI_leI (show b < 2 ^ 31 by omega) (show a < 2 ^ 31 by omega), bef, decide_eq_true_eq]
  repeat' split
  all_goals first | rfl | (exfalso; omega)
theorem m_isBefore {mo : Mo} {n : Nat} {wd ht : Nat → Nat} {a b : Nat} (h : SzM mo n wd ht) (ha : a < n) (hb : b < n) : f_Model_isBefore mo (nI a) (nI b) = some (if bef wd ht a b = true then 1 else 0) := by
  obtain ⟨hn, h40, hk⟩ := h
  obtain ⟨⟨wa, wa1, wa2⟩, ta, ta1, ta2⟩ := hk a ha
  obtain ⟨⟨wb, wb1, wb2⟩, tb9, tb1, tb2⟩ := hk b hb
  have ca : (nI a).toNatClampNeg = a := nI_clamp (by omega)
  have cb : (nI b).toNatClampNeg = b := nI_clamp (by omega)
  rw [f_Model_isBefore]
  simp only [gd_in (show a < 80 by omega) (by decide), gd_in (show b < 80 by omega) (by decide), ca, cb, wa, wb, ta, tb9, nI_eq (show ht a < 2 ^ 31 by omega) (show ht b < 2 ^ 31 by omega), nI_eq (show wd a < 2 ^ 31 by omega) (show wd b < 2 ^ 31 by omega), nI_leI (show ht b < 2 ^ 31 by omega) (show ht a < 2 ^ 31 by omega), nI_leI (show wd b < 2 ^ 31 by omega) (show wd a < 2 ^ 31 by omega), nI_leI (show b < 2 ^ 31 by omega) (show a < 2 ^ 31 by omega), bef, decide_eq_true_eq]
  repeat' split
  all_goals first | rfl | (exfalso; omega)
theorem s_placeOf_l {sy : Sy} {n : Nat} {wd ht : Nat → Nat} {k : Nat} {k30 : Int32 → Option Int32} (h : SzS sy n wd ht) (hk : k < n) : ∀ (m i : Nat), i ≤ n → n - i < m → l_Symbols_placeOf_4 sy (nI k) k30 m (nI (cnt (fun j => bef wd ht j k) i)) (nI i) = k30 (nI (rank wd ht n k)) := by
  have hn := h.1
  have h40 := h.2.1
  intro m
  induction m with
  | zero => intro i _ h2; omega
  | succ m ih =>
    intro i h1 h2
    rw [l_Symbols_placeOf_4, hn]
    by_cases e : i = n
    · subst e
      rw [if_pos (nI_le (Nat.le_refl i) (by omega))]; rfl
    · rw [if_neg (nI_ge (by omega) (by omega)), s_comesBefore h (show i < n by omega) hk, bd_s]
      by_cases hb : bef wd ht i k = true
      · rw [if_pos hb, if_neg i10]
        show l_Symbols_placeOf_4 sy (nI k) k30 m (nI _ + 1) (nI i + 1) = _
        rw [nI_1, nI_1, ← ih (i + 1) (by omega) (by omega)]
        simp only [cnt, hb, if_true]
      · rw [if_neg hb, if_pos rfl]
        show l_Symbols_placeOf_4 sy (nI k) k30 m (nI _) (nI i + 1) = _
        rw [nI_1, ← ih (i + 1) (by omega) (by omega)]
        simp only [cnt, hb, if_false, Nat.add_zero]
        rfl
theorem s_placeOf {sy : Sy} {n : Nat} {wd ht : Nat → Nat} {k : Nat} (h : SzS sy n wd ht) (hk : k < n) : f_Symbols_placeOf sy (nI k) = some (nI (rank wd ht n k)) := by
  rw [f_Symbols_placeOf]
  exact s_placeOf_l h hk 100000 0 (Nat.zero_le n) (by have := h.2.1; omega)
theorem m_placeOf_l {mo : Mo} {n : Nat} {wd ht : Nat → Nat} {k : Nat} {k35 : Int32 → Option Int32} (h : SzM mo n wd ht) (hk : k < n) : ∀ (m i : Nat), i ≤ n → n - i < m → l_Model_placeOf_4 mo (nI k) k35 m (nI (cnt (fun j => bef wd ht j k) i)) (nI i) = k35 (nI (rank wd ht n k)) := by
  have hn := h.1
  have h40 := h.2.1
  intro m
  induction m with
  | zero => intro i _ h2; omega
  | succ m ih =>
    intro i h1 h2
    rw [l_Model_placeOf_4, hn]
    by_cases e : i = n
    · subst e
      rw [if_pos (nI_le (Nat.le_refl i) (by omega))]; rfl
    · rw [if_neg (nI_ge (by omega) (by omega)), m_isBefore h (show i < n by omega) hk, bd_s]
      by_cases hb : bef wd ht i k = true
      · rw [if_pos hb, if_neg i10]
        show l_Model_placeOf_4 mo (nI k) k35 m (nI _ + 1) (nI i + 1) = _
        rw [nI_1, nI_1, ← ih (i + 1) (by omega) (by omega)]
        simp only [cnt, hb, if_true]
      · rw [if_neg hb, if_pos rfl]
        show l_Model_placeOf_4 mo (nI k) k35 m (nI _ + 0) (nI i + 1) = _
        rw [nI_1, Int32.add_zero, ← ih (i + 1) (by omega) (by omega)]
        simp only [cnt, hb, if_false, Nat.add_zero]
        rfl
theorem m_placeOf {mo : Mo} {n : Nat} {wd ht : Nat → Nat} {k : Nat} (h : SzM mo n wd ht) (hk : k < n) : f_Model_placeOf mo (nI k) = some (nI (rank wd ht n k)) := by
  rw [f_Model_placeOf]
  exact m_placeOf_l h hk 100000 0 (Nat.zero_le n) (by have := h.2.1; omega)
