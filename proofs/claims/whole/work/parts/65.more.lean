/-! The calls that tell, liken, class and refine -/
theorem shf {x : Int32} (h1 : ¬ x < -4) (h2 : ¬ 4 < x) : ∃ a : Nat, a ≤ 8 ∧ x = nI a - 4 := by
  rw [Int32.lt_iff_toInt_lt] at h1 h2
  have e1 : (-4 : Int32).toInt = -4 := by decide
  have e2 : (4 : Int32).toInt = 4 := by decide
  have h : x.toInt = -4 ∨ x.toInt = -3 ∨ x.toInt = -2 ∨ x.toInt = -1 ∨ x.toInt = 0 ∨ x.toInt = 1 ∨ x.toInt = 2 ∨ x.toInt = 3 ∨ x.toInt = 4 := by omega
  rcases h with h | h | h | h | h | h | h | h | h
  · exact ⟨0, by decide, Int32.toInt_inj.mp (h.trans (by decide +kernel))⟩
  · exact ⟨1, by decide, Int32.toInt_inj.mp (h.trans (by decide +kernel))⟩
  · exact ⟨2, by decide, Int32.toInt_inj.mp (h.trans (by decide +kernel))⟩
  · exact ⟨3, by decide, Int32.toInt_inj.mp (h.trans (by decide +kernel))⟩
  · exact ⟨4, by decide, Int32.toInt_inj.mp (h.trans (by decide +kernel))⟩
  · exact ⟨5, by decide, Int32.toInt_inj.mp (h.trans (by decide +kernel))⟩
  · exact ⟨6, by decide, Int32.toInt_inj.mp (h.trans (by decide +kernel))⟩
  · exact ⟨7, by decide, Int32.toInt_inj.mp (h.trans (by decide +kernel))⟩
  · exact ⟨8, by decide, Int32.toInt_inj.mp (h.trans (by decide +kernel))⟩
theorem Dc_ref {sy : Sy} {mo : Mo} {n : Nat} {wd ht : Nat → Nat} {j : Nat} {b dx dy : Int32} (h : Dc 0 sy mo n wd ht) (hb : b = -1 ∨ ∃ b', b' < n ∧ b = nI b' ∧ bef wd ht b' j = true) (hx : ∃ a : Nat, a ≤ 8 ∧ dx = nI a - 4) (hy : ∃ a : Nat, a ≤ 8 ∧ dy = nI a - 4) : Dc 0 (Sy_s_dy (Sy_s_dx (Sy_s_bs sy (upd (Sy_bs sy) j b)) (upd (Sy_dx sy) j dx)) (upd (Sy_dy sy) j dy)) (Mo_s_dy (Mo_s_dx (Mo_s_bs mo (upd (Mo_bs mo) j b)) (upd (Mo_dx mo) j dx)) (upd (Mo_dy mo) j dy)) n wd ht := by
  refine ⟨h.1, fun k hk => ?_⟩
  obtain ⟨a1, a2, a3, a4, a5, a6, a7, a8⟩ := D0 h hk
  refine ⟨a1, a2, a3, ?_, ?_, ?_, a7, a8⟩
  · show upd (Sy_bs sy) j b k = upd (Mo_bs mo) j b k ∧ (upd (Mo_bs mo) j b k = -1 ∨ ∃ b', b' < n ∧ upd (Mo_bs mo) j b k = nI b' ∧ bef wd ht b' k = true)
    by_cases e : k = j
    · subst e; rw [pk_us, pk_us]; exact ⟨rfl, hb⟩
    · rw [pk_un e, pk_un e]; exact a4
  · show upd (Sy_dx sy) j dx k = upd (Mo_dx mo) j dx k ∧ ∃ a : Nat, a ≤ 8 ∧ upd (Mo_dx mo) j dx k = nI a - 4
    by_cases e : k = j
    · subst e; rw [pk_us, pk_us]; exact ⟨rfl, hx⟩
    · rw [pk_un e, pk_un e]; exact a5
  · show upd (Sy_dy sy) j dy k = upd (Mo_dy mo) j dy k ∧ ∃ a : Nat, a ≤ 8 ∧ upd (Mo_dy mo) j dy k = nI a - 4
    by_cases e : k = j
    · subst e; rw [pk_us, pk_us]; exact ⟨rfl, hy⟩
    · rw [pk_un e, pk_un e]; exact a6
theorem nI_m1 {a : Nat} (h : a < 2 ^ 31) : ¬ nI a = -1 := by
  intro e
  have e2 := congrArg Int32.toInt e
  rw [nI_toInt h] at e2
  have e3 : (-1 : Int32).toInt = -1 := by decide
  omega
theorem s_refine {sy : Sy} {j : Nat} (b x y : Int32) (hj : j < 40) : f_Symbols_refine sy (nI j) b x y = some (Sy_s_dy (Sy_s_dx (Sy_s_bs sy (upd (Sy_bs sy) j b)) (upd (Sy_dx sy) j x)) (upd (Sy_dy sy) j y)) := by
  have cj : (nI j).toNatClampNeg = j := nI_clamp (by omega)
  simp only [f_Symbols_refine, lt', gd_in hj (by decide : 40 < 2 ^ 31), cj]
section More
variable {kd : Int32} {sd : Sd} {cu : Sy} {w v : Br} {mo : Mo}
theorem m_ref0 {j : Nat} (x2 x3 x4 : Int32) (hj : j < 80) : j_Model_refined_93_7 mo (nI j) x2 x3 x4 0 0 = some (Mo_bs mo j, Mo_s_dy (Mo_s_dx (Mo_s_bs (Mo_s_code mo 0) (upd (Mo_bs mo) j x2)) (upd (Mo_dx mo) j x3)) (upd (Mo_dy mo) j x4)) := by
  have cj : (nI j).toNatClampNeg = j := nI_clamp (by omega)
  simp only [j_Model_refined_93_7, rf0, bd_s, lt', gd_in hj (by decide : 80 < 2 ^ 31), cj, j_Model_refined_131_17, if_true]
theorem m_ref1 {j : Nat} (x2 x3 x4 : Int32) (hj : j < 80) : j_Model_refined_93_7 mo (nI j) x2 x3 x4 1 0 = some (Mo_bs mo j, Mo_s_dy (Mo_s_dx (Mo_s_bs (Mo_s_code mo 0) (upd (Mo_bs mo) j x2)) (upd (Mo_dx mo) j 0)) (upd (Mo_dy mo) j 0)) := by
  have cj : (nI j).toNatClampNeg = j := nI_clamp (by omega)
  simp only [j_Model_refined_93_7, rf0, bd_s, lt', gd_in hj (by decide : 80 < 2 ^ 31), cj, j_Model_refined_131_17, if_true, i10, if_false]
theorem m_refN (x1 x2 x3 x4 z : Int32) {c : Int32} (hc : f_Model_refuses mo c = some (1, Mo_s_code mo c)) : j_Model_refined_93_7 mo x1 x2 x3 x4 z c = some (0, Mo_s_code mo c) := by
  rw [j_Model_refined_93_7, hc, bd_s]
  rfl
theorem Q_refined (h : RlB kd sd cu w v mo) (x1 x2 x3 x4 : Int32) : (∃ (r : Int32) (cu' : Sy) (mo' : Mo), f_SD_refined sd cu x1 x2 x3 x4 = some (r, cu') ∧ f_Model_refined mo x1 x2 x3 x4 = some (r, mo') ∧ Mo_code mo' = 0 ∧ RlB kd sd cu' w v mo') ∨ (e_SD_refined sd cu x1 x2 x3 x4 = some 3 ∧ ∃ (q : Int32) (mo' : Mo), f_Model_refined mo x1 x2 x3 x4 = some (q, mo') ∧ Mo_code mo' = 1 ∧ RlB kd sd cu w v mo') ∨ (e_SD_refined sd cu x1 x2 x3 x4 = some 1 ∧ ∃ (q : Int32) (mo' : Mo), f_Model_refined mo x1 x2 x3 x4 = some (q, mo') ∧ Mo_code mo' = 2 ∧ RlB kd sd cu w v mo') ∨ (e_SD_refined sd cu x1 x2 x3 x4 = some 2 ∧ ∃ (q : Int32) (mo' : Mo), f_Model_refined mo x1 x2 x3 x4 = some (q, mo') ∧ Mo_code mo' = 3 ∧ RlB kd sd cu w v mo') := by
  have h0 := h
  obtain ⟨hk, ⟨n, wd, ht, hn, hm, hD, hC⟩, hO, hI⟩ := h
  have h40 := hD.1
  have hno : ∀ z, j_Model_refined_38_5 mo x1 x2 x3 x4 0 z = some (0, Mo_s_code mo 1) := fun z => by
    rw [j_Model_refined_38_5, if_pos rfl, m_refN _ _ _ _ _ (rf1 mo)]
  have hno2 : j_Model_refined_26_3 mo x1 x2 x3 x4 0 = some (0, Mo_s_code mo 1) := by
    rw [j_Model_refined_26_3, hno, hno]; exact ite_self _
  rcases sym_cases (n := n) x1 h40 with hb | ⟨j, hj, rfl⟩
  · refine Or.inr (Or.inl ⟨by rw [e_SD_refined, re_no hn hb]; rfl, 0, Mo_s_code mo 1, ?_, rfl, h0⟩)
    rw [f_Model_refined, ms_no hm hb, bd_s, if_pos rfl, hno2]
  have cj : (nI j).toNatClampNeg = j := nI_clamp (by omega)
  have hbs := (D0 hD hj).2.2.2.1.1
  by_cases eb : x2 = -1
  · left
    subst eb
    refine ⟨Mo_bs mo j, Sy_s_dy (Sy_s_dx (Sy_s_bs cu (upd (Sy_bs cu) j (-1))) (upd (Sy_dx cu) j 0)) (upd (Sy_dy cu) j 0), Mo_s_dy (Mo_s_dx (Mo_s_bs (Mo_s_code mo 0) (upd (Mo_bs mo) j (-1))) (upd (Mo_dx mo) j 0)) (upd (Mo_dy mo) j 0), ?_, ?_, rfl, hk, ⟨n, wd, ht, hn, hm, Dc_ref (j := j) (b := -1) (dx := 0) (dy := 0) (show Dc 0 cu (Mo_s_code mo 0) n wd ht from hD) (Or.inl rfl) ⟨4, by decide, by decide⟩ ⟨4, by decide, by decide⟩, hC⟩, hO, hI⟩
    · rw [f_SD_refined, rs_ok hn h40 hj, bd_s, gd_in (show j < 40 by omega) (by decide), cj, hbs]
      simp only [lt', if_true, s_refine _ _ _ (show j < 40 by omega), bd_s]
    · rw [f_Model_refined, ms_ok hm h40 hj, bd_s, if_neg i10, if_pos rfl, j_Model_refined_26_3, if_pos rfl, j_Model_refined_38_5, if_neg i10, if_neg i10, if_neg i10, m_ref1 _ _ _ (show j < 80 by omega)]
  rcases sym_cases (n := n) x2 h40 with hb | ⟨b, hb, rfl⟩
  · refine Or.inr (Or.inl ⟨?_, 0, Mo_s_code mo 1, ?_, rfl, h0⟩)
    · rw [e_SD_refined, re_ok hn h40 hj, rs_ok hn h40 hj, bd_s, gd_in (show j < 40 by omega) (by decide)]
      show (if x2 = -1 then none else tc (e_SD_requireSymbol sd cu x2) _) = some 3
      rw [if_neg eb, re_no hn hb]; rfl
    · rw [f_Model_refined, ms_ok hm h40 hj, bd_s, if_neg i10, if_neg eb, ms_no hm hb, bd_s, if_pos rfl, hno2]
  have ee : e_SD_refined sd cu (nI j) (nI b) x3 x4 = (if x3 < (-4) then some 1 else if 4 < x3 then some 1 else if x4 < (-4) then some 1 else if x4 ≤ 4 then (if bef wd ht b j = true then none else some 2) else some 1) := by
    rw [e_SD_refined, re_ok hn h40 hj, rs_ok hn h40 hj, bd_s, gd_in (show j < 40 by omega) (by decide)]
    show (if nI b = -1 then none else tc (e_SD_requireSymbol sd cu (nI b)) (bd (f_SD_requireSymbol sd cu (nI b)) (fun _ => (if x3 < (-4) then some 1 else (if 4 < x3 then some 1 else (if x4 < (-4) then some 1 else (if x4 ≤ 4 then bd (f_Symbols_comesBefore cu (nI b) (nI j)) (fun r_10 => (if r_10 = 0 then some 2 else none)) else some 1))))))) = _
    rw [if_neg eb, re_ok hn h40 hb, rs_ok hn h40 hb, bd_s, s_comesBefore (Dc_S hn hD) hb hj, bd_s]
    show (if x3 < (-4) then some 1 else _) = _
    by_cases e5 : bef wd ht b j = true
    · rw [if_pos e5, if_pos e5, if_neg i10]
    · rw [if_neg e5, if_neg e5, if_pos rfl]
  have ef : f_SD_refined sd cu (nI j) (nI b) x3 x4 = (if x3 < (-4) then none else if 4 < x3 then none else if x4 < (-4) then none else if x4 ≤ 4 then (if bef wd ht b j = true then some (Mo_bs mo j, Sy_s_dy (Sy_s_dx (Sy_s_bs cu (upd (Sy_bs cu) j (nI b))) (upd (Sy_dx cu) j x3)) (upd (Sy_dy cu) j x4)) else none) else none) := by
    rw [f_SD_refined, rs_ok hn h40 hj, bd_s, gd_in (show j < 40 by omega) (by decide), cj, hbs]
    show (if nI b = -1 then _ else bd (f_SD_requireSymbol sd cu (nI b)) (fun _ => (if x3 < (-4) then none else (if 4 < x3 then none else (if x4 < (-4) then none else (if x4 ≤ 4 then bd (f_Symbols_comesBefore cu (nI b) (nI j)) (fun r_8 => (if r_8 = 0 then none else bd (f_Symbols_refine cu (nI j) (nI b) x3 x4) (fun cu_10 => some (Mo_bs mo j, cu_10)))) else none)))))) = _
    rw [if_neg eb, rs_ok hn h40 hb, bd_s, s_comesBefore (Dc_S hn hD) hb hj, bd_s, s_refine _ _ _ (show j < 40 by omega), bd_s]
    by_cases e5 : bef wd ht b j = true
    · rw [if_pos e5, if_pos e5, if_neg i10]
    · rw [if_neg e5, if_neg e5, if_pos rfl]
  have em : f_Model_refined mo (nI j) (nI b) x3 x4 = j_Model_refined_38_5 mo (nI j) (nI b) x3 x4 1 0 := by
    rw [f_Model_refined, ms_ok hm h40 hj, bd_s, if_neg i10, if_neg eb, ms_ok hm h40 hb, bd_s, if_neg i10, j_Model_refined_26_3, if_neg eb]
  have em2 : j_Model_refined_38_5 mo (nI j) (nI b) x3 x4 1 0 = (if x3 < (-4) then some (0, Mo_s_code mo 2) else if 4 < x3 then some (0, Mo_s_code mo 2) else if x4 < (-4) then some (0, Mo_s_code mo 2) else if x4 ≤ 4 then (if bef wd ht b j = true then j_Model_refined_93_7 mo (nI j) (nI b) x3 x4 0 0 else some (0, Mo_s_code mo 3)) else some (0, Mo_s_code mo 2)) := by
    rw [j_Model_refined_38_5, if_neg i10, if_pos rfl, f_Model_isShift, f_Model_isShift, m_isBefore (Dc_M hm hD) hb hj, m_refN _ _ _ _ _ (rf2 mo), m_refN _ _ _ _ _ (rf3 mo)]
    by_cases c1 : x3 < -4
    · rw [if_pos c1, if_pos c1, bd_s, if_pos rfl]
    rw [if_neg c1, if_neg c1]
    by_cases c2 : 4 < x3
    · rw [if_pos c2, if_pos c2, bd_s, if_pos rfl]
    rw [if_neg c2, if_neg c2, bd_s, if_neg i10]
    by_cases c3 : x4 < -4
    · rw [if_pos c3, if_pos c3, bd_s, if_pos rfl]
    rw [if_neg c3, if_neg c3]
    by_cases c4 : x4 ≤ 4
    · rw [if_neg (le_nlt c4), if_pos c4, bd_s, if_neg i10, if_pos rfl, bd_s]
      by_cases e5 : bef wd ht b j = true
      · rw [if_pos e5, if_pos e5, if_neg i10]
      · rw [if_neg e5, if_neg e5, if_pos rfl]
    · rw [if_pos (nle_lt c4), if_neg c4, bd_s, if_pos rfl]
  rw [ee, ef, em, em2]
  by_cases c1 : x3 < -4
  · exact Or.inr (Or.inr (Or.inl ⟨by rw [if_pos c1], 0, Mo_s_code mo 2, by rw [if_pos c1], rfl, h0⟩))
  by_cases c2 : 4 < x3
  · exact Or.inr (Or.inr (Or.inl ⟨by rw [if_neg c1, if_pos c2], 0, Mo_s_code mo 2, by rw [if_neg c1, if_pos c2], rfl, h0⟩))
  by_cases c3 : x4 < -4
  · exact Or.inr (Or.inr (Or.inl ⟨by rw [if_neg c1, if_neg c2, if_pos c3], 0, Mo_s_code mo 2, by rw [if_neg c1, if_neg c2, if_pos c3], rfl, h0⟩))
  by_cases c4 : x4 ≤ 4
  · by_cases e5 : bef wd ht b j = true
    · refine Or.inl ⟨Mo_bs mo j, Sy_s_dy (Sy_s_dx (Sy_s_bs cu (upd (Sy_bs cu) j (nI b))) (upd (Sy_dx cu) j x3)) (upd (Sy_dy cu) j x4), Mo_s_dy (Mo_s_dx (Mo_s_bs (Mo_s_code mo 0) (upd (Mo_bs mo) j (nI b))) (upd (Mo_dx mo) j x3)) (upd (Mo_dy mo) j x4), by rw [if_neg c1, if_neg c2, if_neg c3, if_pos c4, if_pos e5], by rw [if_neg c1, if_neg c2, if_neg c3, if_pos c4, if_pos e5, m_ref0 _ _ _ (show j < 80 by omega)], rfl, hk, ⟨n, wd, ht, hn, hm, Dc_ref (j := j) (b := nI b) (dx := x3) (dy := x4) (show Dc 0 cu (Mo_s_code mo 0) n wd ht from hD) (Or.inr ⟨b, hb, rfl, e5⟩) (shf c1 c2) (shf c3 (le_nlt c4)), hC⟩, hO, hI⟩
    · exact Or.inr (Or.inr (Or.inr ⟨by rw [if_neg c1, if_neg c2, if_neg c3, if_pos c4, if_neg e5], 0, Mo_s_code mo 3, by rw [if_neg c1, if_neg c2, if_neg c3, if_pos c4, if_neg e5], rfl, h0⟩))
  · exact Or.inr (Or.inr (Or.inl ⟨by rw [if_neg c1, if_neg c2, if_neg c3, if_neg c4], 0, Mo_s_code mo 2, by rw [if_neg c1, if_neg c2, if_neg c3, if_neg c4], rfl, h0⟩))
end More
/-! sums over rows -/
def bsum (r : Nat → Nat) : Nat → Nat
  | 0 => 0
  | h + 1 => bsum r h + pop (r h) 16
theorem bsum_le (r : Nat → Nat) (h : Nat) : bsum r h ≤ 16 * h := by
  induction h with
  | zero => exact Nat.le_refl 0
  | succ h ih => have := pop_le (r h) 16; rw [bsum]; omega
theorem pop_0 (k : Nat) : pop 0 k = 0 := by
  induction k with
  | zero => rfl
  | succ k ih => rw [pop, ih, Nat.zero_div]
theorem bsum_stop {r : Nat → Nat} {h : Nat} : ∀ k, (∀ y, h ≤ y → y < h + k → r y = 0) → bsum r (h + k) = bsum r h := by
  intro k
  induction k with
  | zero => intro _; rfl
  | succ k ih =>
    intro hz
    show bsum r (h + k) + pop (r (h + k)) 16 = _
    rw [ih (fun y a b => hz y a (by omega)), hz (h + k) (by omega) (by omega), pop_0]
    rfl
theorem s_black_l {sy : Sy} {j h : Nat} {r : Nat → Nat} {K : Int32 → Option Int32} (hj : j < 40) (hh : Sy_ht sy j = nI h) (h16 : h ≤ 16) (hr : ∀ y, y < h → r y < 65536 ∧ Sy_rw sy (16 * j + y) = nI (r y)) : ∀ (m y : Nat), y ≤ h → h - y < m → l_Symbols_blackOf_4 sy (nI j) K m (nI (bsum r y)) (nI y) = K (nI (bsum r h)) := by
  have cj : (nI j).toNatClampNeg = j := nI_clamp (by omega)
  intro m
  induction m with
  | zero => intro y _ h2; omega
  | succ m ih =>
    intro y h1 h2
    rw [l_Symbols_blackOf_4, gd_in hj (by decide), cj, hh]
    by_cases e : y = h
    · subst e
      rw [if_pos (nI_le (Nat.le_refl y) (by omega))]
    · obtain ⟨r1, r2⟩ := hr y (by omega)
      rw [if_neg (nI_ge (by omega) (by omega)), f_Symbols_rowOf, rix, gd_in (show 16 * j + y < 640 by omega) (by decide), bd_s, nI_clamp (show 16 * j + y < 2 ^ 31 by omega), r2, s_bitCount r1, bd_s]
      show l_Symbols_blackOf_4 sy (nI j) K m (nI (bsum r y) + nI (pop (r y) 16)) (nI y + 1) = _
      rw [nI_add, nI_1]
      exact ih (y + 1) (by omega) (by omega)
theorem m_black_l {mo : Mo} {j : Nat} {x2 : Int32} {r : Nat → Nat} {K : Int32 → Option (Int32 × Mo)} (hj : j < 40) (hr : ∀ y, y < 16 → r y < 65536 ∧ Mo_rw mo (16 * j + y) = nI (r y)) : ∀ (m y : Nat), y ≤ 16 → 16 - y < m → l_Model_told_41 mo (nI j) x2 K m (nI (bsum r y)) (nI y) = K (nI (bsum r 16)) := by
  intro m
  induction m with
  | zero => intro y _ h2; omega
  | succ m ih =>
    intro y h1 h2
    rw [l_Model_told_41]
    by_cases e : y = 16
    · subst e
      rw [if_pos (show (16 : Int32) ≤ nI 16 from nI_le (Nat.le_refl 16) (by decide))]
    · obtain ⟨r1, r2⟩ := hr y (by omega)
      rw [if_neg (show ¬ (16 : Int32) ≤ nI y from nI_ge (b := 16) (by omega) (by decide)), rixM, gd_in (show 16 * j + y < 1280 by omega) (by decide), nI_clamp (show 16 * j + y < 2 ^ 31 by omega), r2, m_ones r1, bd_s]
      show l_Model_told_41 mo (nI j) x2 K m (nI (bsum r y) + nI (pop (r y) 16)) (nI y + 1) = _
      rw [nI_add, nI_1]
      exact ih (y + 1) (by omega) (by omega)
theorem s_diff_l {sy : Sy} {i j h : Nat} {r : Nat → Nat} {K : Int32 → Option Int32} (hi : i < 40) (hj : j < 40) (hh : Sy_ht sy i = nI h) (h16 : h ≤ 16) (hr : ∀ y, y < h → r y < 65536 ∧ Sy_rw sy (16 * i + y) ^^^ Sy_rw sy (16 * j + y) = nI (r y)) : ∀ (m y : Nat), y ≤ h → h - y < m → l_Symbols_difference_37 sy (nI i) (nI j) K m (nI (bsum r y)) (nI y) = K (nI (bsum r h)) := by
  have ci : (nI i).toNatClampNeg = i := nI_clamp (by omega)
  intro m
  induction m with
  | zero => intro y _ h2; omega
  | succ m ih =>
    intro y h1 h2
    rw [l_Symbols_difference_37, gd_in hi (by decide), ci, hh]
    by_cases e : y = h
    · subst e
      rw [if_pos (nI_le (Nat.le_refl y) (by omega))]
    · obtain ⟨r1, r2⟩ := hr y (by omega)
      rw [if_neg (nI_ge (by omega) (by omega)), f_Symbols_rowOf, f_Symbols_rowOf, rix, rix, gd_in (show 16 * i + y < 640 by omega) (by decide), gd_in (show 16 * j + y < 640 by omega) (by decide), bd_s, bd_s, nI_clamp (show 16 * i + y < 2 ^ 31 by omega), nI_clamp (show 16 * j + y < 2 ^ 31 by omega), r2, s_bitCount r1, bd_s]
      show l_Symbols_difference_37 sy (nI i) (nI j) K m (nI (bsum r y) + nI (pop (r y) 16)) (nI y + 1) = _
      rw [nI_add, nI_1]
      exact ih (y + 1) (by omega) (by omega)
theorem m_diff_l {mo : Mo} {i j : Nat} {r : Nat → Nat} {K : Int32 → Option Int32} (hi : i < 40) (hj : j < 40) (hr : ∀ y, y < 16 → r y < 65536 ∧ Mo_rw mo (16 * i + y) ^^^ Mo_rw mo (16 * j + y) = nI (r y)) : ∀ (m y : Nat), y ≤ 16 → 16 - y < m → l_Model_differs_37 mo (nI i) (nI j) K m (nI (bsum r y)) (nI y) = K (nI (bsum r 16)) := by
  intro m
  induction m with
  | zero => intro y _ h2; omega
  | succ m ih =>
    intro y h1 h2
    rw [l_Model_differs_37]
    by_cases e : y = 16
    · subst e
      rw [if_pos (show (16 : Int32) ≤ nI 16 from nI_le (Nat.le_refl 16) (by decide))]
    · obtain ⟨r1, r2⟩ := hr y (by omega)
      rw [if_neg (show ¬ (16 : Int32) ≤ nI y from nI_ge (b := 16) (by omega) (by decide)), rixM, rixM, gd_in (show 16 * i + y < 1280 by omega) (by decide), gd_in (show 16 * j + y < 1280 by omega) (by decide), nI_clamp (show 16 * i + y < 2 ^ 31 by omega), nI_clamp (show 16 * j + y < 2 ^ 31 by omega), r2, m_ones r1, bd_s]
      show l_Model_differs_37 mo (nI i) (nI j) K m (nI (bsum r y) + nI (pop (r y) 16)) (nI y + 1) = _
      rw [nI_add, nI_1]
      exact ih (y + 1) (by omega) (by omega)
/-- the rows of a symbol, as numbers -/
theorem rows_of {sy : Sy} {mo : Mo} {n : Nat} {wd ht : Nat → Nat} (hD : Dc 0 sy mo n wd ht) : ∃ R : Nat → Nat → Nat, ∀ j, j < n → (∀ y, y < ht j → R j y < 65536 ∧ Sy_rw sy (16 * j + y) = nI (R j y)) ∧ (∀ y, y < 16 → R j y < 65536 ∧ Mo_rw mo (16 * j + y) = nI (R j y)) ∧ ∀ y, ht j ≤ y → R j y = 0 := by
  refine ⟨fun j y => if y < ht j then (Mo_rw mo (16 * j + y)).toNatClampNeg else 0, fun j hj => ?_⟩
  obtain ⟨⟨a1, a2, a3, a4⟩, ⟨b1, b2, b3, b4⟩, -, -, -, -, a7, a8⟩ := D0 hD hj
  refine ⟨fun y hy => ?_, fun y hy => ?_, fun y hy => ?_⟩
  · obtain ⟨c1, r, hr, c2⟩ := a7 y hy
    have c2' : Mo_rw mo (16 * j + y) = nI r := c2
    have c1' : Sy_rw sy (16 * j + y) = nI r := c1.trans c2
    have hr2 := pow16 a4 hr
    show (if y < ht j then (Mo_rw mo (16 * j + y)).toNatClampNeg else 0) < 65536 ∧ _ = nI (if y < ht j then (Mo_rw mo (16 * j + y)).toNatClampNeg else 0)
    rw [if_pos hy, c2', nI_clamp (by omega), c1']
    exact ⟨hr2, rfl⟩
  · show (if y < ht j then (Mo_rw mo (16 * j + y)).toNatClampNeg else 0) < 65536 ∧ _ = nI (if y < ht j then (Mo_rw mo (16 * j + y)).toNatClampNeg else 0)
    by_cases e : y < ht j
    · obtain ⟨c1, r, hr, c2⟩ := a7 y e
      have c2' : Mo_rw mo (16 * j + y) = nI r := c2
      have hr2 := pow16 a4 hr
      rw [if_pos e, c2', nI_clamp (by omega)]
      exact ⟨hr2, rfl⟩
    · rw [if_neg e]
      exact ⟨by decide, a8 y (by omega) hy⟩
  · exact if_neg (by omega)
/-- how many samples of two symbols differ -/
theorem diff_of {sy : Sy} {mo : Mo} {n : Nat} {wd ht : Nat → Nat} (hD : Dc 0 sy mo n wd ht) {i j : Nat} (hi : i < n) (hj : j < n) : ∃ d : Int32, (d = -1 ∨ ∃ a : Nat, a ≤ 256 ∧ d = nI a) ∧ f_Symbols_difference sy (nI i) (nI j) = some d ∧ f_Model_differs mo (nI i) (nI j) = some d := by
  obtain ⟨R, hR⟩ := rows_of hD
  have h40 := hD.1
  obtain ⟨⟨a1, a2, a3, a4⟩, ⟨b1, b2, b3, b4⟩, -⟩ := D0 hD hi
  obtain ⟨⟨c1, c2, c3, c4⟩, ⟨d1, d2, d3, d4⟩, -⟩ := D0 hD hj
  obtain ⟨p1, p2, p3⟩ := hR i hi
  obtain ⟨q1, q2, q3⟩ := hR j hj
  have ci : (nI i).toNatClampNeg = i := nI_clamp (by omega)
  have cj : (nI j).toNatClampNeg = j := nI_clamp (by omega)
  have i4 : i < 40 := by omega
  have j4 : j < 40 := by omega
  have i8 : i < 80 := by omega
  have j8 : j < 80 := by omega
  rw [f_Symbols_difference, f_Model_differs, gd_in i4 (by decide), gd_in j4 (by decide), gd_in i4 (by decide), gd_in j4 (by decide), gd_in i8 (by decide), gd_in j8 (by decide), gd_in i8 (by decide), gd_in j8 (by decide), ci, cj, a1, a2, b1, b2, c1, c2, d1, d2]
  by_cases e1 : wd i = wd j
  · by_cases e2 : ht i = ht j
    · simp only [e1, e2, if_true]
      have x64 : ∀ y, y < 16 → R i y ^^^ R j y < 65536 := fun y hy => Nat.xor_lt_two_pow (n := 16) (p2 y hy).1 (q2 y hy).1
      have s1 := s_diff_l (sy := sy) (i := i) (j := j) (h := ht i) (r := fun y => R i y ^^^ R j y) (K := fun x3_15 => some x3_15) i4 j4 b1 b4 (fun y hy => ⟨x64 y (by omega), by rw [(p1 y hy).2, (q1 y (by omega)).2, nx_xor]⟩) 100000 0 (by omega) (by omega)
      have s2 := m_diff_l (mo := mo) (i := i) (j := j) (r := fun y => R i y ^^^ R j y) (K := fun x3_14 => some x3_14) i4 j4 (fun y hy => ⟨x64 y hy, by rw [(p2 y hy).2, (q2 y hy).2, nx_xor]⟩) 100000 0 (by omega) (by omega)
      have s3 : bsum (fun y => R i y ^^^ R j y) 16 = bsum (fun y => R i y ^^^ R j y) (ht i) := by
        have := bsum_stop (r := fun y => R i y ^^^ R j y) (h := ht i) (16 - ht i) (fun y hy _ => by show R i y ^^^ R j y = 0; rw [p3 y hy, q3 y (by omega)]; rfl)
        rw [show ht i + (16 - ht i) = 16 by omega] at this
        exact this
      rw [s3] at s2
      have hle := bsum_le (fun y => R i y ^^^ R j y) (ht i)
      refine ⟨nI (bsum (fun y => R i y ^^^ R j y) (ht i)), Or.inr ⟨_, by omega, rfl⟩, ?_, ?_⟩
      · exact s1
      · exact s2
    · have ne : ¬ nI (ht i) = nI (ht j) := fun q => e2 ((nI_eq (by omega) (by omega)).mp q)
      rw [e1, if_pos rfl, if_pos rfl]
      exact ⟨-1, Or.inl rfl, by rw [if_neg ne], by rw [if_neg ne]⟩
  · have ne : ¬ nI (wd i) = nI (wd j) := fun q => e1 ((nI_eq (by omega) (by omega)).mp q)
    exact ⟨-1, Or.inl rfl, by rw [if_neg ne], by rw [if_neg ne]⟩
section Tell
variable {kd : Int32} {sd : Sd} {cu : Sy} {w v : Br} {mo : Mo}
theorem Q_likeness (h : RlB kd sd cu w v mo) (x1 x2 : Int32) : (∃ (r : Int32) (mo' : Mo), f_SD_likeness sd cu x1 x2 = some r ∧ f_Model_likeness mo x1 x2 = some (r, mo') ∧ Mo_code mo' = 0 ∧ RlB kd sd cu w v mo') ∨ (e_SD_likeness sd cu x1 x2 = some 3 ∧ ∃ (q : Int32) (mo' : Mo), f_Model_likeness mo x1 x2 = some (q, mo') ∧ Mo_code mo' = 1 ∧ RlB kd sd cu w v mo') := by
  have h0 := h
  obtain ⟨hk, ⟨n, wd, ht, hn, hm, hD, hC⟩, hO, hI⟩ := h
  have h40 := hD.1
  have hno : j_Model_likeness_22_3 mo x1 x2 1 = some (0, Mo_s_code mo 1) := by
    rw [j_Model_likeness_22_3, rf1, bd_s]
    rfl
  rcases sym_cases (n := n) x1 h40 with hb | ⟨i, hi, rfl⟩
  · exact Or.inr ⟨by rw [e_SD_likeness, re_no hn hb]; rfl, 0, Mo_s_code mo 1, by rw [f_Model_likeness, ms_no hm hb, bd_s, if_pos rfl, hno], rfl, h0⟩
  rcases sym_cases (n := n) x2 h40 with hb | ⟨j, hj, rfl⟩
  · refine Or.inr ⟨?_, 0, Mo_s_code mo 1, ?_, rfl, h0⟩
    · rw [e_SD_likeness, re_ok hn h40 hi, rs_ok hn h40 hi, bd_s, re_no hn hb]; rfl
    · rw [f_Model_likeness, ms_ok hm h40 hi, bd_s, if_neg i10, ms_no hm hb, bd_s, if_pos rfl, hno]
  obtain ⟨d, -, d1, d2⟩ := diff_of hD hi hj
  have d2' : f_Model_differs (Mo_s_code mo 0) (nI i) (nI j) = some d := by
    obtain ⟨d', -, d1', d2'⟩ := diff_of (sy := cu) (mo := Mo_s_code mo 0) (n := n) (wd := wd) (ht := ht) hD hi hj
    rw [d1] at d1'
    cases d1'
    exact d2'
  refine Or.inl ⟨d, Mo_s_code mo 0, ?_, ?_, rfl, h0⟩
  · rw [f_SD_likeness, rs_ok hn h40 hi, rs_ok hn h40 hj, bd_s, bd_s, d1, bd_s]
  · rw [f_Model_likeness, ms_ok hm h40 hi, bd_s, if_neg i10, ms_ok hm h40 hj, bd_s, if_neg i10, j_Model_likeness_22_3, rf0, bd_s]
    show (if (0 : Int32) = 0 then bd (f_Model_differs (Mo_s_code mo 0) (nI i) (nI j)) (fun r => some (r, Mo_s_code mo 0)) else _) = _
    rw [if_pos rfl, d2', bd_s]
theorem Q_told (h : RlB kd sd cu w v mo) (x1 x2 : Int32) : (∃ (r : Int32) (mo' : Mo), f_SD_told sd cu x1 x2 = some r ∧ f_Model_told mo x1 x2 = some (r, mo') ∧ Mo_code mo' = 0 ∧ RlB kd sd cu w v mo') ∨ (e_SD_told sd cu x1 x2 = some 3 ∧ ∃ (q : Int32) (mo' : Mo), f_Model_told mo x1 x2 = some (q, mo') ∧ Mo_code mo' = 1 ∧ RlB kd sd cu w v mo') ∨ (e_SD_told sd cu x1 x2 = some 1 ∧ ∃ (q : Int32) (mo' : Mo), f_Model_told mo x1 x2 = some (q, mo') ∧ Mo_code mo' = 2 ∧ RlB kd sd cu w v mo') := by
  have h0 := h
  obtain ⟨hk, ⟨n, wd, ht, hn, hm, hD, hC⟩, hO, hI⟩ := h
  have h40 := hD.1
  rcases sym_cases (n := n) x1 h40 with hb | ⟨j, hj, rfl⟩
  · refine Or.inr (Or.inl ⟨by rw [e_SD_told, re_no hn hb]; rfl, 0, Mo_s_code mo 1, ?_, rfl, h0⟩)
    rw [f_Model_told, ms_no hm hb, bd_s, if_pos rfl, j_Model_told_28_3, rf1, bd_s]
    rfl
  have j4 : j < 40 := by omega
  have j8 : j < 80 := by omega
  have cj : (nI j).toNatClampNeg = j := nI_clamp (by omega)
  obtain ⟨R, hR⟩ := rows_of hD
  obtain ⟨p1, p2, p3⟩ := hR j hj
  obtain ⟨⟨a1, a2, a3, a4⟩, ⟨b1, b2, b3, b4⟩, ⟨e1, e2⟩, ⟨g1, g2⟩, ⟨x1', x2'⟩, ⟨y1', y2'⟩, -, -⟩ := D0 hD hj
  have s1 := s_black_l (sy := cu) (K := fun x2_8 => some x2_8) j4 b1 b4 p1 100000 0 (by omega) (by omega)
  have s3 : bsum (R j) 16 = bsum (R j) (ht j) := by
    have := bsum_stop (r := R j) (h := ht j) (16 - ht j) (fun y hy _ => p3 y hy)
    rw [show ht j + (16 - ht j) = 16 by omega] at this
    exact this
  have es : f_SD_told sd cu (nI j) x2 = (if x2 = 0 then some (nI (wd j)) else if x2 = 1 then some (nI (ht j)) else if x2 = 2 then some (nI (bsum (R j) (ht j))) else if x2 = 3 then (if Mo_ex mo j = 0 then some 0 else some 1) else if x2 = 4 then some (Mo_bs mo j) else if x2 = 5 then some (Mo_dx mo j) else if x2 = 6 then some (Mo_dy mo j) else if x2 = 7 then some (nI (rank wd ht n j)) else none) := by
    rw [f_SD_told, rs_ok hn h40 hj, bd_s, f_Symbols_blackOf, s_placeOf (Dc_S hn hD) hj, bd_s]
    simp only [gd_in j4 (by decide : 40 < 2 ^ 31), cj, a1, b1, e1, g1, x1', y1']
    rw [show l_Symbols_blackOf_4 cu (nI j) (fun x2_8 => some x2_8) 100000 0 0 = some (nI (bsum (R j) (ht j))) from s1, bd_s]
  have ee : e_SD_told sd cu (nI j) x2 = (if x2 = 0 then none else if x2 = 1 then none else if x2 = 2 then none else if x2 = 3 then none else if x2 = 4 then none else if x2 = 5 then none else if x2 = 6 then none else if x2 = 7 then none else some 1) := by
    rw [e_SD_told, re_ok hn h40 hj, rs_ok hn h40 hj, bd_s]; rfl
  have em0 : j_Model_told_28_3 mo (nI j) x2 0 = (if x2 = 0 then some (nI (wd j), Mo_s_code mo 0) else if x2 = 1 then some (nI (ht j), Mo_s_code mo 0) else if x2 = 2 then some (nI (bsum (R j) (ht j)), Mo_s_code mo 0) else if x2 = 3 then (if Mo_ex mo j = 0 then some (0, Mo_s_code mo 0) else some (1, Mo_s_code mo 0)) else if x2 = 4 then some (Mo_bs mo j, Mo_s_code mo 0) else if x2 = 5 then some (Mo_dx mo j, Mo_s_code mo 0) else if x2 = 6 then some (Mo_dy mo j, Mo_s_code mo 0) else some (nI (rank wd ht n j), Mo_s_code mo 0)) := by
    rw [j_Model_told_28_3, rf0, bd_s]
    have m1 := m_black_l (mo := Mo_s_code mo 0) (j := j) (x2 := x2) (r := R j) (K := fun x3_13 => (if x2 = 0 then gd (inb (nI j) 80) <| some (Mo_wd mo (nI j).toNatClampNeg, Mo_s_code mo 0) else if x2 = 1 then gd (inb (nI j) 80) <| some (Mo_ht mo (nI j).toNatClampNeg, Mo_s_code mo 0) else if x2 = 2 then some (x3_13, Mo_s_code mo 0) else if x2 = 3 then gd (inb (nI j) 80) <| (if (Mo_ex mo (nI j).toNatClampNeg) = 0 then some (0, Mo_s_code mo 0) else some (1, Mo_s_code mo 0)) else if x2 = 4 then gd (inb (nI j) 80) <| some (Mo_bs mo (nI j).toNatClampNeg, Mo_s_code mo 0) else if x2 = 5 then gd (inb (nI j) 80) <| some (Mo_dx mo (nI j).toNatClampNeg, Mo_s_code mo 0) else if x2 = 6 then gd (inb (nI j) 80) <| some (Mo_dy mo (nI j).toNatClampNeg, Mo_s_code mo 0) else bd (f_Model_placeOf (Mo_s_code mo 0) (nI j)) <| fun r_21 => some (r_21, Mo_s_code mo 0))) j4 p2 100000 0 (by omega) (by omega)
    refine Eq.trans (if_pos rfl) (Eq.trans m1 ?_)
    rw [s3, m_placeOf (Dc_M (sy := cu) (mo := Mo_s_code mo 0) hm hD) hj, bd_s]
    simp only [gd_in j8 (by decide : 80 < 2 ^ 31), cj, a2, b2]
  have em : f_Model_told mo (nI j) x2 = (if x2 < 0 then some (0, Mo_s_code mo 2) else if x2 ≤ 7 then j_Model_told_28_3 mo (nI j) x2 0 else some (0, Mo_s_code mo 2)) := by
    have hno : j_Model_told_28_3 mo (nI j) x2 2 = some (0, Mo_s_code mo 2) := by
      rw [j_Model_told_28_3, rf2, bd_s]
      rfl
    rw [f_Model_told, ms_ok hm h40 hj, bd_s, if_neg i10, hno]
  rw [es, ee, em]
  by_cases c0 : x2 = 0
  · left; subst c0; exact ⟨nI (wd j), Mo_s_code mo 0, rfl, by rw [em0]; rfl, rfl, h0⟩
  by_cases c1 : x2 = 1
  · left; subst c1; exact ⟨nI (ht j), Mo_s_code mo 0, rfl, by rw [em0]; rfl, rfl, h0⟩
  by_cases c2 : x2 = 2
  · left; subst c2; exact ⟨nI (bsum (R j) (ht j)), Mo_s_code mo 0, rfl, by rw [em0]; rfl, rfl, h0⟩
  by_cases c3 : x2 = 3
  · left; subst c3
    by_cases e5 : Mo_ex mo j = 0
    · exact ⟨0, Mo_s_code mo 0, if_pos e5, by rw [em0]; exact if_pos e5, rfl, h0⟩
    · exact ⟨1, Mo_s_code mo 0, if_neg e5, by rw [em0]; exact if_neg e5, rfl, h0⟩
  by_cases c4 : x2 = 4
  · left; subst c4; exact ⟨Mo_bs mo j, Mo_s_code mo 0, rfl, by rw [em0]; rfl, rfl, h0⟩
  by_cases c5 : x2 = 5
  · left; subst c5; exact ⟨Mo_dx mo j, Mo_s_code mo 0, rfl, by rw [em0]; rfl, rfl, h0⟩
  by_cases c6 : x2 = 6
  · left; subst c6; exact ⟨Mo_dy mo j, Mo_s_code mo 0, rfl, by rw [em0]; rfl, rfl, h0⟩
  by_cases c7 : x2 = 7
  · left; subst c7; exact ⟨nI (rank wd ht n j), Mo_s_code mo 0, rfl, by rw [em0]; rfl, rfl, h0⟩
  refine Or.inr (Or.inr ⟨by rw [if_neg c0, if_neg c1, if_neg c2, if_neg c3, if_neg c4, if_neg c5, if_neg c6, if_neg c7], 0, Mo_s_code mo 2, ?_, rfl, h0⟩)
  by_cases c8 : x2 < 0
  · rw [if_pos c8]
  · rw [if_neg c8]
    by_cases c9 : x2 ≤ 7
    · exfalso
      obtain ⟨a, ha, rfl⟩ := nI_of2 (M := 7) (n := 7) (by decide) c8 c9
      have hh : a = 0 ∨ a = 1 ∨ a = 2 ∨ a = 3 ∨ a = 4 ∨ a = 5 ∨ a = 6 ∨ a = 7 := by omega
      rcases hh with h | h | h | h | h | h | h | h
      · subst h; exact c0 rfl
      · subst h; exact c1 rfl
      · subst h; exact c2 rfl
      · subst h; exact c3 rfl
      · subst h; exact c4 rfl
      · subst h; exact c5 rfl
      · subst h; exact c6 rfl
      · subst h; exact c7 rfl
    · rw [if_neg c9]
end Tell
