/-! The calls that neither write nor read -/
theorem nb0 : vp_nar .boolean 0 = 0 := by rfl
theorem nb1 : vp_nar .boolean 1 = 1 := by rfl
theorem nb01 (x : Int32) : vp_nar .boolean x = 0 ∨ vp_nar .boolean x = 1 := by
  have e : vp_nar .boolean x = nI (x.toBitVec.toNat % 2 ^ 1) := pk_and x 1 rfl
  rw [e]
  have h : x.toBitVec.toNat % 2 ^ 1 = 0 ∨ x.toBitVec.toNat % 2 ^ 1 = 1 := by omega
  rcases h with h | h
  · exact Or.inl (by rw [h]; rfl)
  · exact Or.inr (by rw [h]; rfl)
section Keep
variable {n n' : Nat} {wd ht wd' ht' : Nat → Nat} {k : Nat} {w1 w2 h1 h2 e1 e2 b1 b2 x1 x2 y1 y2 : Int32} {r1 r2 r1' r2' : Nat → Int32}
theorem Sv_rows (h : Sv n wd ht k w1 w2 h1 h2 e1 e2 b1 b2 x1 x2 y1 y2 r1 r2) (q1 : ∀ y, y < 16 → r1' y = r1 y) (q2 : ∀ y, y < 16 → r2' y = r2 y) : Sv n wd ht k w1 w2 h1 h2 e1 e2 b1 b2 x1 x2 y1 y2 r1' r2' := by
  obtain ⟨a1, a2, a3, a4, a5, a6, a7, a8⟩ := h
  have hh := a2.2.2.2
  refine ⟨a1, a2, a3, a4, a5, a6, fun y hy => ?_, fun y hy hy2 => ?_⟩
  · rw [q1 y (by omega), q2 y (by omega)]; exact a7 y hy
  · rw [q2 y hy2]; exact a8 y hy hy2
theorem Sv_mono (h : Sv n wd ht k w1 w2 h1 h2 e1 e2 b1 b2 x1 x2 y1 y2 r1 r2) (hn : n ≤ n') (hk : k < n) (hw : ∀ j, j < n → wd' j = wd j ∧ ht' j = ht j) : Sv n' wd' ht' k w1 w2 h1 h2 e1 e2 b1 b2 x1 x2 y1 y2 r1 r2 := by
  obtain ⟨a1, a2, a3, ⟨a4, a4'⟩, a5, a6, a7, a8⟩ := h
  obtain ⟨q1, q2⟩ := hw k hk
  unfold Sv
  rw [q1, q2]
  refine ⟨a1, a2, a3, ⟨a4, ?_⟩, a5, a6, a7, a8⟩
  rcases a4' with a | ⟨b, hb, eb, hf⟩
  · exact Or.inl a
  · refine Or.inr ⟨b, by omega, eb, ?_⟩
    obtain ⟨q3, q4⟩ := hw b hb
    unfold bef at hf ⊢
    rw [q1, q2, q3, q4]
    exact hf
end Keep
/-- the class's fields are the same below n -/
def Fs (sy sy' : Sy) (n : Nat) : Prop := ∀ k, k < n → Sy_wd sy' k = Sy_wd sy k ∧ Sy_ht sy' k = Sy_ht sy k ∧ Sy_ex sy' k = Sy_ex sy k ∧ Sy_bs sy' k = Sy_bs sy k ∧ Sy_dx sy' k = Sy_dx sy k ∧ Sy_dy sy' k = Sy_dy sy k ∧ ∀ y, y < 16 → Sy_rw sy' (16 * k + y) = Sy_rw sy (16 * k + y)
/-- the reference's, from o -/
def Fm (o : Nat) (mo mo' : Mo) (n : Nat) : Prop := ∀ k, k < n → Mo_wd mo' (k + o) = Mo_wd mo (k + o) ∧ Mo_ht mo' (k + o) = Mo_ht mo (k + o) ∧ Mo_ex mo' (k + o) = Mo_ex mo (k + o) ∧ Mo_bs mo' (k + o) = Mo_bs mo (k + o) ∧ Mo_dx mo' (k + o) = Mo_dx mo (k + o) ∧ Mo_dy mo' (k + o) = Mo_dy mo (k + o) ∧ ∀ y, y < 16 → Mo_rw mo' (16 * (k + o) + y) = Mo_rw mo (16 * (k + o) + y)
theorem Dc_keep {o n : Nat} {sy sy' : Sy} {mo mo' : Mo} {wd ht : Nat → Nat} (h : Dc o sy mo n wd ht) (hs : Fs sy sy' n) (hm : Fm o mo mo' n) : Dc o sy' mo' n wd ht := by
  refine ⟨h.1, fun k hk => ?_⟩
  have q := h.2 k hk
  obtain ⟨s1, s2, s3, s4, s5, s6, s7⟩ := hs k hk
  obtain ⟨m1, m2, m3, m4, m5, m6, m7⟩ := hm k hk
  rw [s1, s2, s3, s4, s5, s6, m1, m2, m3, m4, m5, m6]
  exact Sv_rows q s7 m7
theorem Dc_succ {o n : Nat} {sy : Sy} {mo : Mo} {wd ht wd' ht' : Nat → Nat} (h : Dc o sy mo n wd ht) (h40 : n < 40) (hw : ∀ j, j < n → wd' j = wd j ∧ ht' j = ht j) (hS : Sv (n + 1) wd' ht' n (Sy_wd sy n) (Mo_wd mo (n + o)) (Sy_ht sy n) (Mo_ht mo (n + o)) (Sy_ex sy n) (Mo_ex mo (n + o)) (Sy_bs sy n) (Mo_bs mo (n + o)) (Sy_dx sy n) (Mo_dx mo (n + o)) (Sy_dy sy n) (Mo_dy mo (n + o)) (fun y => Sy_rw sy (16 * n + y)) (fun y => Mo_rw mo (16 * (n + o) + y))) : Dc o sy mo (n + 1) wd' ht' := by
  refine ⟨by omega, fun k hk => ?_⟩
  by_cases e : k = n
  · subst e; exact hS
  · exact Sv_mono (h.2 k (by omega)) (by omega) (by omega) hw
theorem Dc_row {sy : Sy} {mo : Mo} {n : Nat} {wd ht : Nat → Nat} {j y v : Nat} (h : Dc 0 sy mo n wd ht) (hj : j < n) (hy : y < ht j) (hv : v < 2 ^ wd j) : Dc 0 (Sy_s_rw sy (upd (Sy_rw sy) (16 * j + y) (nI v))) (Mo_s_rw mo (upd (Mo_rw mo) (16 * j + y) (nI v))) n wd ht := by
  refine ⟨h.1, fun k hk => ?_⟩
  have hj16 := (D0 h hj).2.1.2.2.2
  obtain ⟨a1, a2, a3, a4, a5, a6, a7, a8⟩ := D0 h hk
  have hk16 := a2.2.2.2
  refine ⟨a1, a2, a3, a4, a5, a6, fun z hz => ?_, fun z hz hz2 => ?_⟩
  · show upd (Sy_rw sy) (16 * j + y) (nI v) (16 * k + z) = upd (Mo_rw mo) (16 * j + y) (nI v) (16 * k + z) ∧ ∃ r, r < 2 ^ wd k ∧ upd (Mo_rw mo) (16 * j + y) (nI v) (16 * k + z) = nI r
    by_cases e : 16 * k + z = 16 * j + y
    · have e2 : k = j := by omega
      subst e2
      rw [e, pk_us, pk_us]
      exact ⟨rfl, v, hv, rfl⟩
    · rw [pk_un e, pk_un e]
      exact a7 z hz
  · show upd (Mo_rw mo) (16 * j + y) (nI v) (16 * k + z) = 0
    by_cases e : 16 * k + z = 16 * j + y
    · exfalso
      have e2 : k = j := by omega
      subst e2
      omega
    · rw [pk_un e]
      exact a8 z hz hz2
theorem n40 {a : Nat} (h : a < 40) : ¬ nI a = 40 := by
  intro h2
  have := (nI_eq (a := a) (b := 40) (by omega) (by decide)).mp h2
  omega
theorem Sv_new {n a b : Nat} {wd ht : Nat → Nat} {r1 r2 : Nat → Int32} (q1 : wd n = a) (q2 : ht n = b) (ha1 : 1 ≤ a) (ha2 : a ≤ 16) (hb1 : 1 ≤ b) (hb2 : b ≤ 16) (h1 : ∀ y, y < b → r1 y = r2 y ∧ ∃ r, r < 2 ^ a ∧ r2 y = nI r) (h2 : ∀ y, b ≤ y → y < 16 → r2 y = 0) : Sv (n + 1) wd ht n (nI a) (nI a) (nI b) (nI b) 0 0 (-1) (-1) 0 0 0 0 r1 r2 := by
  unfold Sv
  rw [q1, q2]
  exact ⟨⟨rfl, rfl, ha1, ha2⟩, ⟨rfl, rfl, hb1, hb2⟩, ⟨rfl, Or.inl rfl⟩, ⟨rfl, Or.inl rfl⟩, ⟨rfl, 4, by decide, by decide⟩, ⟨rfl, 4, by decide, by decide⟩, h1, h2⟩
section Ops
variable {kd : Int32} {sd : Sd} {cu : Sy} {w v : Br} {mo : Mo}
theorem Q_symbol (h : RlB kd sd cu w v mo) (x1 x2 : Int32) : (∃ (r : Int32) (cu' : Sy) (mo' : Mo), f_SD_symbol sd cu x1 x2 = some (r, cu') ∧ f_Model_symbol mo x1 x2 = some (r, mo') ∧ Mo_code mo' = 0 ∧ RlB kd sd cu' w v mo') ∨ (e_SD_symbol sd cu x1 x2 = some 1 ∧ ∃ (q : Int32) (mo' : Mo), f_Model_symbol mo x1 x2 = some (q, mo') ∧ Mo_code mo' = 1 ∧ RlB kd sd cu w v mo') ∨ (e_SD_symbol sd cu x1 x2 = some 4 ∧ ∃ (q : Int32) (mo' : Mo), f_Model_symbol mo x1 x2 = some (q, mo') ∧ Mo_code mo' = 2 ∧ RlB kd sd cu w v mo') := by
  have hno : j_Model_symbol_25_2 mo x1 x2 0 = some (0, Mo_s_code mo 1) := by
    rw [j_Model_symbol_25_2, if_pos rfl, j_Model_symbol_49_4, rf1, bd_s]
    rfl
  by_cases a1 : x1 < 1
  · exact Or.inr (Or.inl ⟨by rw [e_SD_symbol, if_pos a1], 0, Mo_s_code mo 1, by rw [f_Model_symbol, if_pos (i_lt1.mp a1), hno], rfl, h⟩)
  by_cases a2 : 16 < x1
  · exact Or.inr (Or.inl ⟨by rw [e_SD_symbol, if_neg a1, if_pos a2], 0, Mo_s_code mo 1, by rw [f_Model_symbol, if_neg (fun q => a1 (i_lt1.mpr q)), if_pos a2, hno], rfl, h⟩)
  by_cases a3 : x2 < 1
  · exact Or.inr (Or.inl ⟨by rw [e_SD_symbol, if_neg a1, if_neg a2, if_pos a3], 0, Mo_s_code mo 1, by rw [f_Model_symbol, if_neg (fun q => a1 (i_lt1.mpr q)), if_neg a2, if_pos (i_lt1.mp a3), hno], rfl, h⟩)
  by_cases a4 : 16 < x2
  · exact Or.inr (Or.inl ⟨by rw [e_SD_symbol, if_neg a1, if_neg a2, if_neg a3, if_neg (lt_nle a4)], 0, Mo_s_code mo 1, by rw [f_Model_symbol, if_neg (fun q => a1 (i_lt1.mpr q)), if_neg a2, if_neg (fun q => a3 (i_lt1.mpr q)), if_pos a4, hno], rfl, h⟩)
  have hyes : f_Model_symbol mo x1 x2 = j_Model_symbol_25_2 mo x1 x2 1 := by
    rw [f_Model_symbol, if_neg (fun q => a1 (i_lt1.mpr q)), if_neg a2, if_neg (fun q => a3 (i_lt1.mpr q)), if_neg a4]
  have h0 := h
  obtain ⟨hk, ⟨n, wd, ht, hn, hm, hD, hC⟩, hO, hI⟩ := h
  have h40 := hD.1
  by_cases a5 : n < 40
  · obtain ⟨a, ha1, ha2, rfl⟩ := in116 a1 a2
    obtain ⟨b, hb1, hb2, rfl⟩ := in116 a3 a4
    obtain ⟨f, e1, e2, e3⟩ := s_add (sy := cu) hn a5 ha2 hb2
    obtain ⟨g, g1, g2, g3⟩ := m_symbol (mo := mo) (w := a) (h := b) hm a5
    refine Or.inl ⟨nI n, (upd (Sy_wd cu) n (nI a), upd (Sy_ht cu) n (nI b), upd (Sy_ex cu) n (vp_nar .boolean 0), upd (Sy_bs cu) n (-1), upd (Sy_dx cu) n 0, upd (Sy_dy cu) n 0, upd (Sy_co cu) n (-1), nI (n + 1), f, Sy_fc cu), Mo_s_n (Mo_s_dy (Mo_s_dx (Mo_s_bs (Mo_s_ex (Mo_s_rw (Mo_s_ht (Mo_s_wd (Mo_s_code mo 0) (upd (Mo_wd mo) n (nI a))) (upd (Mo_ht mo) n (nI b))) g) (upd (Mo_ex mo) n (vp_nar .boolean 0))) (upd (Mo_bs mo) n (-1))) (upd (Mo_dx mo) n 0)) (upd (Mo_dy mo) n 0)) (nI (n + 1)), ?_, ?_, rfl, hk, ⟨n + 1, fun j => if j = n then a else wd j, fun j => if j = n then b else ht j, rfl, rfl, ?_, ?_⟩, hO, hI⟩
    · rw [f_SD_symbol, if_neg a1, if_neg a2, if_neg a3, if_pos (nlt_le a4), hn, if_pos (show nI n < 40 from nI_lt a5 (by decide)), e1, bd_s]
    · rw [hyes, j_Model_symbol_25_2, if_neg i10, hm, if_neg (n40 a5), g1]
    · refine Dc_succ (Dc_keep hD ?_ ?_) a5 ?_ ?_
      · intro k hk
        exact ⟨pk_un (by omega), pk_un (by omega), pk_un (by omega), pk_un (by omega), pk_un (by omega), pk_un (by omega), fun y hy => e3 _ (by omega)⟩
      · intro k hk
        exact ⟨pk_un (by omega), pk_un (by omega), pk_un (by omega), pk_un (by omega), pk_un (by omega), pk_un (by omega), fun y hy => g3 _ (by omega)⟩
      · intro j hj
        exact ⟨if_neg (by omega), if_neg (by omega)⟩
      · have q1 : (if n = n then a else wd n) = a := if_pos rfl
        have q2 : (if n = n then b else ht n) = b := if_pos rfl
        show Sv _ _ _ n (upd (Sy_wd cu) n (nI a) n) (upd (Mo_wd mo) n (nI a) n) (upd (Sy_ht cu) n (nI b) n) (upd (Mo_ht mo) n (nI b) n) (upd (Sy_ex cu) n (vp_nar .boolean 0) n) (upd (Mo_ex mo) n (vp_nar .boolean 0) n) (upd (Sy_bs cu) n (-1) n) (upd (Mo_bs mo) n (-1) n) (upd (Sy_dx cu) n 0 n) (upd (Mo_dx mo) n 0 n) (upd (Sy_dy cu) n 0 n) (upd (Mo_dy mo) n 0 n) (fun y => f (16 * n + y)) (fun y => g (16 * n + y))
        simp only [pk_us, nb0]
        exact Sv_new q1 q2 ha1 ha2 hb1 hb2 (fun y hy => ⟨by rw [e2 y hy, g2 y (by omega)], 0, Nat.two_pow_pos a, g2 y (by omega)⟩) (fun y _ hy => g2 y hy)
    · obtain ⟨cl, c1, c2, c3⟩ := hC
      refine ⟨cl, by omega, c2, fun k hk => ?_⟩
      show upd (Sy_co cu) n (-1) k = if k < cl then Mo_co mo k else -1
      by_cases e : k = n
      · subst e
        rw [pk_us, if_neg (by omega)]
      · rw [pk_un e]
        exact c3 k (by omega)
  · have e40 : n = 40 := by omega
    subst e40
    refine Or.inr (Or.inr ⟨?_, 0, Mo_s_code mo 2, ?_, rfl, h0⟩)
    · rw [e_SD_symbol, if_neg a1, if_neg a2, if_neg a3, if_pos (nlt_le a4), hn, if_neg (show ¬ nI 40 < 40 from nI_nlt (Nat.le_refl 40) (by decide))]
    · rw [hyes, j_Model_symbol_25_2, if_neg i10, hm, if_pos (show nI 40 = 40 from rfl), j_Model_symbol_49_4, rf2, bd_s]
      rfl
/-- a symbol of either side, or none -/
theorem sym_cases {n : Nat} (x : Int32) (h40 : n ≤ 40) : (x < 0 ∨ nI n ≤ x) ∨ ∃ j : Nat, j < n ∧ x = nI j := by
  rcases pk_ix x (n := n) (by omega) with h | h | h
  · exact Or.inl (Or.inl h)
  · exact Or.inl (Or.inr h)
  · exact Or.inr h
theorem rq_ok {n : Nat} {wd ht : Nat → Nat} {j x y : Nat} (hn : Sy_n cu = nI n) (hD : Dc 0 cu mo n wd ht) (hj : j < n) (hx : x < wd j) (hy : y < ht j) : f_SD_requireSample sd cu (nI j) (nI x) (nI y) = some () ∧ e_SD_requireSample sd cu (nI j) (nI x) (nI y) = none := by
  obtain ⟨⟨a1, a2, a3, a4⟩, ⟨b1, b2, b3, b4⟩, -⟩ := D0 hD hj
  have h40 := hD.1
  have cj : (nI j).toNatClampNeg = j := nI_clamp (by omega)
  constructor
  · rw [f_SD_requireSample, rs_ok hn h40 hj, bd_s, if_neg (nI_pos (by omega)), gd_in (show j < 40 by omega) (by decide), cj, a1, if_neg (nI_ge hx (by omega)), if_neg (nI_pos (by omega)), gd_in (show j < 40 by omega) (by decide), b1, if_pos (nI_lt hy (by omega))]
  · rw [e_SD_requireSample, re_ok hn h40 hj, rs_ok hn h40 hj, bd_s, if_neg (nI_pos (by omega)), gd_in (show j < 40 by omega) (by decide), cj, a1, if_neg (nI_ge hx (by omega)), if_neg (nI_pos (by omega)), gd_in (show j < 40 by omega) (by decide), b1, if_pos (nI_lt hy (by omega))]
    rfl
theorem mq_ok {n : Nat} {wd ht : Nat → Nat} {j x y : Nat} (hm : Mo_n mo = nI n) (hD : Dc 0 cu mo n wd ht) (hj : j < n) (hx : x < wd j) (hy : y < ht j) : f_Model_isSample mo (nI j) (nI x) (nI y) = some 1 := by
  obtain ⟨⟨a1, a2, a3, a4⟩, ⟨b1, b2, b3, b4⟩, -⟩ := D0 hD hj
  have h40 := hD.1
  have cj : (nI j).toNatClampNeg = j := nI_clamp (by omega)
  rw [f_Model_isSample, ms_ok hm h40 hj, bd_s, if_neg i10, if_neg (nI_pos (by omega)), if_neg (nI_pos (by omega)), gd_in (show j < 80 by omega) (by decide), cj, a2, if_neg (nI_ge hx (by omega)), gd_in (show j < 80 by omega) (by decide), b2, if_neg (nI_ge hy (by omega))]
/-- a sample, or none -/
theorem smp_cases {n : Nat} {wd ht : Nat → Nat} (x1 x2 x3 : Int32) (hn : Sy_n cu = nI n) (hm : Mo_n mo = nI n) (hD : Dc 0 cu mo n wd ht) : (e_SD_requireSample sd cu x1 x2 x3 = some 3 ∧ f_Model_isSample mo x1 x2 x3 = some 0) ∨ ∃ j x y : Nat, j < n ∧ x < wd j ∧ y < ht j ∧ x1 = nI j ∧ x2 = nI x ∧ x3 = nI y := by
  have h40 := hD.1
  rcases sym_cases (n := n) x1 h40 with hb | ⟨j, hj, rfl⟩
  · left
    exact ⟨by rw [e_SD_requireSample, re_no hn hb]; rfl, by rw [f_Model_isSample, ms_no hm hb, bd_s, if_pos rfl]⟩
  obtain ⟨⟨a1, a2, a3, a4⟩, ⟨b1, b2, b3, b4⟩, -⟩ := D0 hD hj
  have cj : (nI j).toNatClampNeg = j := nI_clamp (by omega)
  have z1 : e_SD_requireSample sd cu (nI j) x2 x3 = (if x2 < 0 then some 3 else if nI (wd j) ≤ x2 then some 3 else if x3 < 0 then some 3 else if x3 < nI (ht j) then none else some 3) := by
    rw [e_SD_requireSample, re_ok hn h40 hj, rs_ok hn h40 hj, bd_s, gd_in (show j < 40 by omega) (by decide), gd_in (show j < 40 by omega) (by decide), cj, a1, b1]
    rfl
  have z2 : f_Model_isSample mo (nI j) x2 x3 = (if x2 < 0 then some 0 else if x3 < 0 then some 0 else if nI (wd j) ≤ x2 then some 0 else if nI (ht j) ≤ x3 then some 0 else some 1) := by
    rw [f_Model_isSample, ms_ok hm h40 hj, bd_s, if_neg i10, gd_in (show j < 80 by omega) (by decide), gd_in (show j < 80 by omega) (by decide), cj, a2, b2]
  rcases pk_ix x2 (n := wd j) (by omega) with h | h | ⟨x, hx, rfl⟩
  · left; exact ⟨by rw [z1, if_pos h], by rw [z2, if_pos h]⟩
  · left
    have h2 : ¬ x2 < 0 := by
      rw [Int32.le_iff_toInt_le, nI_toInt (by omega)] at h
      rw [Int32.lt_iff_toInt_lt, Int32.toInt_zero]; omega
    refine ⟨by rw [z1, if_neg h2, if_pos h], ?_⟩
    rw [z2, if_neg h2]
    by_cases h3 : x3 < 0
    · rw [if_pos h3]
    · rw [if_neg h3, if_pos h]
  · rcases pk_ix x3 (n := ht j) (by omega) with h | h | ⟨y, hy, rfl⟩
    · left
      exact ⟨by rw [z1, if_neg (nI_pos (by omega)), if_neg (nI_ge hx (by omega)), if_pos h], by rw [z2, if_neg (nI_pos (by omega)), if_pos h]⟩
    · left
      have h2 : ¬ x3 < 0 := by
        rw [Int32.le_iff_toInt_le, nI_toInt (by omega)] at h
        rw [Int32.lt_iff_toInt_lt, Int32.toInt_zero]; omega
      exact ⟨by rw [z1, if_neg (nI_pos (by omega)), if_neg (nI_ge hx (by omega)), if_neg h2, if_neg (le_nlt h)], by rw [z2, if_neg (nI_pos (by omega)), if_neg h2, if_neg (nI_ge hx (by omega)), if_pos h]⟩
    · right
      exact ⟨j, x, y, hj, hx, hy, rfl, rfl, rfl⟩
/-- a sample's colour, of either side -/
theorem smp {n : Nat} {wd ht : Nat → Nat} {j x y : Nat} (hD : Dc 0 cu mo n wd ht) (hj : j < n) (hx : x < wd j) (hy : y < ht j) : ∃ r : Nat, r < 2 ^ wd j ∧ Sy_rw cu (16 * j + y) = nI r ∧ Mo_rw mo (16 * j + y) = nI r ∧ f_Symbols_isBlack cu (nI j) (nI x) (nI y) = some (nI (r / 2 ^ x % 2)) ∧ f_Model_sample mo (nI j) (nI x) (nI y) = some (nI (r / 2 ^ x % 2)) := by
  obtain ⟨⟨a1, a2, a3, a4⟩, ⟨b1, b2, b3, b4⟩, -, -, -, -, a7, -⟩ := D0 hD hj
  obtain ⟨c1, r, hr, c2⟩ := a7 y hy
  have h40 := hD.1
  have hr2 := pow16 a4 hr
  have cj : (nI j).toNatClampNeg = j := nI_clamp (by omega)
  have cr : (nI (16 * j + y)).toNatClampNeg = 16 * j + y := nI_clamp (by omega)
  have c1' : Sy_rw cu (16 * j + y) = nI r := c1.trans c2
  have c2' : Mo_rw mo (16 * j + y) = nI r := c2
  refine ⟨r, hr, c1', c2', ?_, ?_⟩
  · rw [f_Symbols_isBlack, f_Symbols_rowOf, rix, gd_in (show 16 * j + y < 640 by omega) (by decide), bd_s, cr, c1', n_bit (by omega) (by omega)]
    have h01 : r / 2 ^ x % 2 = 0 ∨ r / 2 ^ x % 2 = 1 := by omega
    rcases h01 with h | h
    · rw [h]; rfl
    · rw [h]; rfl
  · rw [f_Model_sample, if_neg (nI_pos (by omega)), if_neg (nI_pos (by omega)), gd_in (show j < 80 by omega) (by decide), cj, a2, if_neg (nI_ge hx (by omega)), gd_in (show j < 80 by omega) (by decide), b2, if_neg (nI_ge hy (by omega)), j_Model_sample_33_2, if_neg i10, rixM, gd_in (show 16 * j + y < 1280 by omega) (by decide), cr, c2', n_bit (by omega) (by omega)]
theorem Q_put (h : RlB kd sd cu w v mo) (x1 x2 x3 x4 : Int32) : (∃ (r : Int32) (cu' : Sy) (mo' : Mo), f_SD_put sd cu x1 x2 x3 x4 = some (r, cu') ∧ f_Model_put mo x1 x2 x3 x4 = some (r, mo') ∧ Mo_code mo' = 0 ∧ RlB kd sd cu' w v mo') ∨ (e_SD_put sd cu x1 x2 x3 x4 = some 3 ∧ ∃ (q : Int32) (mo' : Mo), f_Model_put mo x1 x2 x3 x4 = some (q, mo') ∧ Mo_code mo' = 1 ∧ RlB kd sd cu w v mo') := by
  have h0 := h
  obtain ⟨hk, ⟨n, wd, ht, hn, hm, hD, hC⟩, hO, hI⟩ := h
  have h40 := hD.1
  rcases smp_cases (sd := sd) x1 x2 x3 hn hm hD with ⟨e1, e2⟩ | ⟨j, x, y, hj, hx, hy, rfl, rfl, rfl⟩
  · refine Or.inr ⟨by rw [e_SD_put, e1]; rfl, 0, Mo_s_code mo 1, ?_, rfl, h0⟩
    rw [f_Model_put, e2, bd_s, if_pos rfl, j_Model_put_16_3, rf1, bd_s]
    rfl
  · left
    obtain ⟨r, hr, c1, c2, e1, e2⟩ := smp hD hj hx hy
    have hwd16 := (D0 hD hj).1.2.2.2
    have hht16 := (D0 hD hj).2.1.2.2.2
    have cr : (nI (16 * j + y)).toNatClampNeg = 16 * j + y := nI_clamp (by omega)
    have e2' : f_Model_sample (Mo_s_code mo 0) (nI j) (nI x) (nI y) = some (nI (r / 2 ^ x % 2)) := e2
    have e01 : (if nI (r / 2 ^ x % 2) = 1 then j_Model_put_40_9 (nI j) (nI x) (nI y) x4 (Mo_s_code mo 0) 1 else j_Model_put_40_9 (nI j) (nI x) (nI y) x4 (Mo_s_code mo 0) 0) = j_Model_put_40_9 (nI j) (nI x) (nI y) x4 (Mo_s_code mo 0) (nI (r / 2 ^ x % 2)) := by
      have h01 : r / 2 ^ x % 2 = 0 ∨ r / 2 ^ x % 2 = 1 := by omega
      rcases h01 with h | h
      · rw [h]; rfl
      · rw [h]; rfl
    have em : f_Model_put mo (nI j) (nI x) (nI y) x4 = j_Model_put_40_9 (nI j) (nI x) (nI y) x4 (Mo_s_code mo 0) (nI (r / 2 ^ x % 2)) := by
      rw [f_Model_put, mq_ok hm hD hj hx hy, bd_s, if_neg i10, j_Model_put_16_3, rf0, bd_s]
      show (if (0 : Int32) = 0 then bd (f_Model_sample (Mo_s_code mo 0) (nI j) (nI x) (nI y)) _ else _) = _
      rw [if_pos rfl, e2', bd_s]
      exact e01
    by_cases e : nI (r / 2 ^ x % 2) = x4
    · refine ⟨0, cu, Mo_s_code mo 0, ?_, ?_, rfl, h0⟩
      · rw [f_SD_put, (rq_ok hn hD hj hx hy).1, bd_s, e1, bd_s, if_pos e]
      · rw [em, j_Model_put_40_9, if_pos e, j_Model_put_66_11, if_pos e]
    · have p1 : (1 : Int32) <<< (nI x &&& 31) = nI (2 ^ x) := by
        have hp : 2 ^ x < 2 ^ 16 := Nat.pow_lt_pow_right (by decide) (by omega)
        have := n_shl (x := 1) (i := x) (by omega) (by omega)
        rw [Nat.one_mul] at this
        exact this
      have p2 : r ^^^ 2 ^ x < 2 ^ wd j := Nat.xor_lt_two_pow hr (Nat.pow_lt_pow_right (by decide) hx)
      refine ⟨1, Sy_s_rw cu (upd (Sy_rw cu) (16 * j + y) (nI (r ^^^ 2 ^ x))), Mo_s_rw (Mo_s_code mo 0) (upd (Mo_rw mo) (16 * j + y) (nI (r ^^^ 2 ^ x))), ?_, ?_, rfl, hk, ⟨n, wd, ht, hn, hm, Dc_row hD hj hy p2, hC⟩, hO, hI⟩
      · rw [f_SD_put, (rq_ok hn hD hj hx hy).1, bd_s, e1, bd_s, if_neg e, f_Symbols_turn, rix, gd_in (show 16 * j + y < 640 by omega) (by decide), gd_in (show 16 * j + y < 640 by omega) (by decide), cr, c1, p1, nx_xor]
        rfl
      · rw [em, j_Model_put_40_9, if_neg e, rixM, gd_in (show 16 * j + y < 1280 by omega) (by decide), gd_in (show 16 * j + y < 1280 by omega) (by decide), cr]
        show j_Model_put_66_11 x4 (nI (r / 2 ^ x % 2)) (Mo_s_rw (Mo_s_code mo 0) (upd (Mo_rw mo) (16 * j + y) (Mo_rw mo (16 * j + y) ^^^ ((1 : Int32) <<< (nI x &&& 31))))) = _
        rw [c2, p1, nx_xor, j_Model_put_66_11, if_neg e]
theorem Q_at (h : RlB kd sd cu w v mo) (x1 x2 x3 : Int32) : (∃ (r : Int32) (mo' : Mo), f_SD_at sd cu x1 x2 x3 = some r ∧ f_Model_at mo x1 x2 x3 = some (r, mo') ∧ Mo_code mo' = 0 ∧ RlB kd sd cu w v mo') ∨ (e_SD_at sd cu x1 x2 x3 = some 3 ∧ ∃ (q : Int32) (mo' : Mo), f_Model_at mo x1 x2 x3 = some (q, mo') ∧ Mo_code mo' = 1 ∧ RlB kd sd cu w v mo') := by
  have h0 := h
  obtain ⟨hk, ⟨n, wd, ht, hn, hm, hD, hC⟩, hO, hI⟩ := h
  rcases smp_cases (sd := sd) x1 x2 x3 hn hm hD with ⟨e1, e2⟩ | ⟨j, x, y, hj, hx, hy, rfl, rfl, rfl⟩
  · refine Or.inr ⟨by rw [e_SD_at, e1]; rfl, 0, Mo_s_code mo 1, ?_, rfl, h0⟩
    rw [f_Model_at, e2, bd_s, if_pos rfl, j_Model_at_16_3, rf1, bd_s]
    rfl
  · left
    obtain ⟨r, hr, c1, c2, e1, e2⟩ := smp hD hj hx hy
    have e2' : f_Model_sample (Mo_s_code mo 0) (nI j) (nI x) (nI y) = some (nI (r / 2 ^ x % 2)) := e2
    have h01 : r / 2 ^ x % 2 = 0 ∨ r / 2 ^ x % 2 = 1 := by omega
    refine ⟨nI (r / 2 ^ x % 2), Mo_s_code mo 0, ?_, ?_, rfl, h0⟩
    · rw [f_SD_at, (rq_ok hn hD hj hx hy).1, bd_s, e1, bd_s]
      rcases h01 with h | h
      · rw [h]; rfl
      · rw [h]; rfl
    · rw [f_Model_at, mq_ok hm hD hj hx hy, bd_s, if_neg i10, j_Model_at_16_3, rf0, bd_s]
      show (if (0 : Int32) = 0 then bd (f_Model_sample (Mo_s_code mo 0) (nI j) (nI x) (nI y)) _ else _) = _
      rw [if_pos rfl, e2', bd_s]
      rcases h01 with h | h
      · rw [h]; rfl
      · rw [h]; rfl
theorem Q_row (h : RlB kd sd cu w v mo) (x1 x2 x3 : Int32) : (∃ (r : Int32) (cu' : Sy) (mo' : Mo), f_SD_row sd cu x1 x2 x3 = some (r, cu') ∧ f_Model_row mo x1 x2 x3 = some (r, mo') ∧ Mo_code mo' = 0 ∧ RlB kd sd cu' w v mo') ∨ (e_SD_row sd cu x1 x2 x3 = some 3 ∧ ∃ (q : Int32) (mo' : Mo), f_Model_row mo x1 x2 x3 = some (q, mo') ∧ Mo_code mo' = 1 ∧ RlB kd sd cu w v mo') := by
  have h0 := h
  obtain ⟨hk, ⟨n, wd, ht, hn, hm, hD, hC⟩, hO, hI⟩ := h
  have h40 := hD.1
  have hno : j_Model_row_28_3 mo x1 x2 x3 1 = some (0, Mo_s_code mo 1) := by
    rw [j_Model_row_28_3, rf1, bd_s]
    rfl
  rcases smp_cases (sd := sd) x1 0 x2 hn hm hD with ⟨e1, e2⟩ | ⟨j, x, y, hj, hx, hy, rfl, hx0, rfl⟩
  · refine Or.inr ⟨by rw [e_SD_row, e1]; rfl, 0, Mo_s_code mo 1, ?_, rfl, h0⟩
    rcases sym_cases (n := n) x1 h40 with hb | ⟨j, hj, rfl⟩
    · rw [f_Model_row, ms_no hm hb, bd_s, if_pos rfl, hno]
    · obtain ⟨⟨a1, a2, a3, a4⟩, ⟨b1, b2, b3, b4⟩, -⟩ := D0 hD hj
      have cj : (nI j).toNatClampNeg = j := nI_clamp (by omega)
      rw [f_Model_row, ms_ok hm h40 hj, bd_s, if_neg i10, gd_in (show j < 80 by omega) (by decide), cj, b2]
      by_cases h2 : x2 < 0
      · rw [if_pos h2, hno]
      · rw [if_neg h2]
        by_cases h3 : nI (ht j) ≤ x2
        · rw [if_pos h3, hno]
        · exfalso
          rcases pk_ix x2 (n := ht j) (by omega) with h | h | ⟨y, hy, rfl⟩
          · exact h2 h
          · exact h3 h
          · have := (rq_ok (sd := sd) (x := 0) hn hD hj (by omega) hy).2
            rw [show nI 0 = 0 from rfl] at this
            rw [this] at e1
            cases e1
  · left
    obtain ⟨⟨a1, a2, a3, a4⟩, ⟨b1, b2, b3, b4⟩, -⟩ := D0 hD hj
    have cj : (nI j).toNatClampNeg = j := nI_clamp (by omega)
    have cr : (nI (16 * j + y)).toNatClampNeg = 16 * j + y := nI_clamp (by omega)
    have hq := (rq_ok (sd := sd) (x := 0) hn hD hj (by omega) hy).1
    rw [show nI 0 = 0 from rfl] at hq
    refine ⟨nI (pop (x3.toBitVec.toNat % 2 ^ wd j) 16), Sy_s_rw cu (upd (Sy_rw cu) (16 * j + y) (nI (x3.toBitVec.toNat % 2 ^ wd j))), Mo_s_rw (Mo_s_code mo 0) (upd (Mo_rw mo) (16 * j + y) (nI (x3.toBitVec.toNat % 2 ^ wd j))), ?_, ?_, rfl, hk, ⟨n, wd, ht, hn, hm, Dc_row hD hj hy (Nat.mod_lt _ (Nat.two_pow_pos _)), hC⟩, hO, hI⟩
    · rw [f_SD_row, hq, bd_s, s_setRow x3 a1 a4 (by omega) (by omega), bd_s]
    · rw [f_Model_row, ms_ok hm h40 hj, bd_s, if_neg i10, if_neg (nI_pos (by omega)), gd_in (show j < 80 by omega) (by decide), cj, b2, if_neg (nI_ge hy (by omega)), j_Model_row_28_3, rf0, bd_s]
      show (if (0 : Int32) = 0 then gd (inb (nI j) 80) (gd (inb ((16 * nI j) + nI y) 1280) (gd (inb ((16 * nI j) + nI y) 1280) (bd (f_Model_ones (upd (Mo_rw mo) ((16 * nI j) + nI y).toNatClampNeg (x3 &&& (((1 : Int32) <<< ((Mo_wd mo (nI j).toNatClampNeg) &&& 31)) - 1)) ((16 * nI j) + nI y).toNatClampNeg)) (fun r => some (r, Mo_s_rw (Mo_s_code mo 0) (upd (Mo_rw mo) ((16 * nI j) + nI y).toNatClampNeg (x3 &&& (((1 : Int32) <<< ((Mo_wd mo (nI j).toNatClampNeg) &&& 31)) - 1)))))))) else _) = _
      rw [if_pos rfl, gd_in (show j < 80 by omega) (by decide), rixM, gd_in (show 16 * j + y < 1280 by omega) (by decide), gd_in (show 16 * j + y < 1280 by omega) (by decide), cr, cj, a2, mask x3 a4, pk_us, m_ones (mod_lt16 _ a4), bd_s]
theorem Q_export (h : RlB kd sd cu w v mo) (x1 x2 : Int32) : (∃ (r : Int32) (cu' : Sy) (mo' : Mo), f_SD_export sd cu x1 x2 = some (r, cu') ∧ f_Model_export mo x1 x2 = some (r, mo') ∧ Mo_code mo' = 0 ∧ RlB kd sd cu' w v mo') ∨ (e_SD_export sd cu x1 x2 = some 3 ∧ ∃ (q : Int32) (mo' : Mo), f_Model_export mo x1 x2 = some (q, mo') ∧ Mo_code mo' = 1 ∧ RlB kd sd cu w v mo') := by
  have h0 := h
  obtain ⟨hk, ⟨n, wd, ht, hn, hm, hD, hC⟩, hO, hI⟩ := h
  have h40 := hD.1
  rcases sym_cases (n := n) x1 h40 with hb | ⟨j, hj, rfl⟩
  · refine Or.inr ⟨by rw [e_SD_export, re_no hn hb]; rfl, 0, Mo_s_code mo 1, ?_, rfl, h0⟩
    rw [f_Model_export, ms_no hm hb, bd_s, if_pos rfl, j_Model_export_14_3, rf1, bd_s]
    rfl
  · left
    have cj : (nI j).toNatClampNeg = j := nI_clamp (by omega)
    have e3 := (D0 hD hj).2.2.1.1
    have hD' : Dc 0 (Sy_s_ex cu (upd (Sy_ex cu) j (vp_nar .boolean x2))) (Mo_s_ex mo (upd (Mo_ex mo) j (vp_nar .boolean x2))) n wd ht := by
      refine ⟨h40, fun k hk => ?_⟩
      obtain ⟨a1, a2, a3, a4, a5, a6, a7, a8⟩ := D0 hD hk
      refine ⟨a1, a2, ?_, a4, a5, a6, a7, a8⟩
      show upd (Sy_ex cu) j (vp_nar .boolean x2) k = upd (Mo_ex mo) j (vp_nar .boolean x2) k ∧ (upd (Mo_ex mo) j (vp_nar .boolean x2) k = 0 ∨ upd (Mo_ex mo) j (vp_nar .boolean x2) k = 1)
      by_cases e : k = j
      · subst e
        rw [pk_us, pk_us]
        exact ⟨rfl, nb01 x2⟩
      · rw [pk_un e, pk_un e]
        exact a3
    have em : f_Model_export mo (nI j) x2 = (if Mo_ex mo j = x2 then some (0, Mo_s_ex (Mo_s_code mo 0) (upd (Mo_ex mo) j (vp_nar .boolean x2))) else some (1, Mo_s_ex (Mo_s_code mo 0) (upd (Mo_ex mo) j (vp_nar .boolean x2)))) := by
      rw [f_Model_export, ms_ok hm h40 hj, bd_s, if_neg i10, j_Model_export_14_3, rf0, bd_s]
      show (if (0 : Int32) = 0 then gd (inb (nI j) 80) (if Mo_ex mo (nI j).toNatClampNeg = x2 then gd (inb (nI j) 80) (some (0, Mo_s_ex (Mo_s_code mo 0) (upd (Mo_ex mo) (nI j).toNatClampNeg (vp_nar .boolean x2)))) else gd (inb (nI j) 80) (some (1, Mo_s_ex (Mo_s_code mo 0) (upd (Mo_ex mo) (nI j).toNatClampNeg (vp_nar .boolean x2))))) else _) = _
      rw [if_pos rfl, gd_in (show j < 80 by omega) (by decide), gd_in (show j < 80 by omega) (by decide), gd_in (show j < 80 by omega) (by decide), cj]
    have es : f_SD_export sd cu (nI j) x2 = (if Mo_ex mo j = x2 then some (0, Sy_s_ex cu (upd (Sy_ex cu) j (vp_nar .boolean x2))) else some (1, Sy_s_ex cu (upd (Sy_ex cu) j (vp_nar .boolean x2)))) := by
      rw [f_SD_export, rs_ok hn h40 hj, bd_s, gd_in (show j < 40 by omega) (by decide), gd_in (show j < 40 by omega) (by decide), gd_in (show j < 40 by omega) (by decide), cj, e3]
      rfl
    by_cases e : Mo_ex mo j = x2
    · exact ⟨0, Sy_s_ex cu (upd (Sy_ex cu) j (vp_nar .boolean x2)), Mo_s_ex (Mo_s_code mo 0) (upd (Mo_ex mo) j (vp_nar .boolean x2)), by rw [es, if_pos e], by rw [em, if_pos e], rfl, hk, ⟨n, wd, ht, hn, hm, hD', hC⟩, hO, hI⟩
    · exact ⟨1, Sy_s_ex cu (upd (Sy_ex cu) j (vp_nar .boolean x2)), Mo_s_ex (Mo_s_code mo 0) (upd (Mo_ex mo) j (vp_nar .boolean x2)), by rw [es, if_neg e], by rw [em, if_neg e], rfl, hk, ⟨n, wd, ht, hn, hm, hD', hC⟩, hO, hI⟩
theorem Q_cls (h : RlB kd sd cu w v mo) (x1 : Int32) : (∃ (r : Int32) (mo' : Mo), f_SD_cls sd cu x1 = some r ∧ f_Model_cls mo x1 = some (r, mo') ∧ Mo_code mo' = 0 ∧ RlB kd sd cu w v mo') ∨ (e_SD_cls sd cu x1 = some 3 ∧ ∃ (q : Int32) (mo' : Mo), f_Model_cls mo x1 = some (q, mo') ∧ Mo_code mo' = 1 ∧ RlB kd sd cu w v mo') := by
  have h0 := h
  obtain ⟨hk, ⟨n, wd, ht, hn, hm, hD, hC⟩, hO, hI⟩ := h
  have h40 := hD.1
  rcases sym_cases (n := n) x1 h40 with hb | ⟨j, hj, rfl⟩
  · refine Or.inr ⟨by rw [e_SD_cls, re_no hn hb]; rfl, 0, Mo_s_code mo 1, ?_, rfl, h0⟩
    rw [f_Model_cls, ms_no hm hb, bd_s, if_pos rfl, j_Model_cls_14_3, rf1, bd_s]
    rfl
  · left
    have cj : (nI j).toNatClampNeg = j := nI_clamp (by omega)
    obtain ⟨cl, c1, c2, c3⟩ := hC
    have em : f_Model_cls mo (nI j) = some (if j < cl then Mo_co mo j else -1, Mo_s_code mo 0) := by
      rw [f_Model_cls, ms_ok hm h40 hj, bd_s, if_neg i10, j_Model_cls_14_3, rf0, bd_s]
      show (if (0 : Int32) = 0 then (if Mo_cl mo ≤ nI j then some ((-1), Mo_s_code mo 0) else gd (inb (nI j) 40) (some (Mo_co mo (nI j).toNatClampNeg, Mo_s_code mo 0))) else _) = _
      rw [if_pos rfl, c2, gd_in (show j < 40 by omega) (by decide), cj]
      by_cases e : j < cl
      · rw [if_neg (nI_ge e (by omega)), if_pos e]
      · rw [if_pos (nI_le (by omega) (by omega)), if_neg e]
    refine ⟨_, _, ?_, em, rfl, h0⟩
    rw [f_SD_cls, rs_ok hn h40 hj, bd_s, gd_in (show j < 40 by omega) (by decide), cj, c3 j hj]
theorem Q_count (h : RlB kd sd cu w v mo) (x1 : Int32) : ∃ (r : Int32) (mo' : Mo), f_SD_count sd cu w v x1 = some r ∧ f_Model_count mo x1 = some (r, mo') ∧ RlB kd sd cu w v mo' := by
  have h0 := h
  obtain ⟨hk, ⟨n, wd, ht, hn, hm, hD, hC⟩, ⟨m1, -, -, -, o1, o2, -⟩, ⟨m2, -, -, i1, i2, -⟩⟩ := h
  have em : f_Model_count mo x1 = (if x1 = 0 then some (Mo_n mo, Mo_s_code mo 0) else if x1 = 1 then some (Mo_on mo, Mo_s_code mo 0) else if x1 = 2 then some (Mo_inn mo, Mo_s_code mo 0) else if x1 = 3 then some (Mo_kind mo, Mo_s_code mo 0) else some ((-1), Mo_s_code mo 0)) := rfl
  rw [em, f_SD_count, hn, hm, o1, o2, i1, i2, hk.1, hk.2]
  by_cases a0 : x1 = 0
  · simp only [a0, if_true]; exact ⟨_, _, rfl, rfl, h0⟩
  by_cases a1 : x1 = 1
  · simp only [if_neg a0, if_pos a1]; exact ⟨_, _, rfl, rfl, h0⟩
  by_cases a2 : x1 = 2
  · simp only [if_neg a0, if_neg a1, if_pos a2]; exact ⟨_, _, rfl, rfl, h0⟩
  by_cases a3 : x1 = 3
  · simp only [if_neg a0, if_neg a1, if_neg a2, if_pos a3]; exact ⟨_, _, rfl, rfl, h0⟩
  simp only [if_neg a0, if_neg a1, if_neg a2, if_neg a3]; exact ⟨_, _, rfl, rfl, h0⟩
theorem Q_clear (h : RlB kd sd cu w v mo) : ∃ (cu' : Sy) (w' v' : Br) (mo' : Mo), f_SD_clear sd cu w v = some (cu', w', v') ∧ f_Model_clear mo = some mo' ∧ Br_byL w' = Br_byL w ∧ Br_byL v' = Br_byL v ∧ RlB kd sd cu' w' v' mo' := by
  obtain ⟨hk, -, ⟨m1, q1, q2, q3, o1, o2, -⟩, ⟨m2, p1, p2, i1, i2, -⟩⟩ := h
  refine ⟨_, _, _, _, rfl, rfl, rfl, rfl, hk, ⟨0, fun _ => 0, fun _ => 0, rfl, rfl, ⟨by omega, fun k hk => by omega⟩, ⟨0, by omega, rfl, fun k hk => by omega⟩⟩, ⟨0, by omega, by omega, q3, rfl, rfl, fun i hi => by omega⟩, ⟨0, by omega, p2, rfl, rfl, fun i hi => by omega⟩⟩
theorem Q_byteAt (h : RlB kd sd cu w v mo) (x1 : Int32) : (∃ (r : Int32) (mo' : Mo), f_SD_byteAt sd w x1 = some r ∧ f_Model_byteAt mo x1 = some (r, mo') ∧ Mo_code mo' = 0 ∧ RlB kd sd cu w v mo') ∨ (e_SD_byteAt sd w x1 = some 3 ∧ ∃ (q : Int32) (mo' : Mo), f_Model_byteAt mo x1 = some (q, mo') ∧ Mo_code mo' = 1 ∧ RlB kd sd cu w v mo') := by
  have h0 := h
  obtain ⟨hk, -, ⟨m, q1, q2, q3, o1, o2, o3⟩, -⟩ := h
  have hno : j_Model_byteAt_18_2 mo x1 1 = some (0, Mo_s_code mo 1) := by
    rw [j_Model_byteAt_18_2, rf1, bd_s]
    rfl
  rcases pk_ix x1 (n := m) (by omega) with h1 | h1 | ⟨j, hj, rfl⟩
  · exact Or.inr ⟨by rw [e_SD_byteAt, if_pos h1], 0, Mo_s_code mo 1, by rw [f_Model_byteAt, if_pos h1, hno], rfl, h0⟩
  · refine Or.inr ⟨?_, 0, Mo_s_code mo 1, ?_, rfl, h0⟩
    · rw [e_SD_byteAt, o1]
      by_cases h2 : x1 < 0
      · rw [if_pos h2]
      · rw [if_neg h2, if_neg (le_nlt h1)]
    · rw [f_Model_byteAt, o2]
      by_cases h2 : x1 < 0
      · rw [if_pos h2, hno]
      · rw [if_neg h2, if_pos h1, hno]
  · left
    have cj : (nI j).toNatClampNeg = j := nI_clamp (by omega)
    refine ⟨Mo_out mo j, Mo_s_code mo 0, ?_, ?_, rfl, h0⟩
    · rw [f_SD_byteAt, if_neg (nI_pos (by omega)), o1, if_pos (nI_lt hj (by omega)), gd_in (show j < Br_byL w by omega) (by omega), cj, o3 j hj]
    · rw [f_Model_byteAt, if_neg (nI_pos (by omega)), o2, if_neg (nI_ge hj (by omega)), j_Model_byteAt_18_2, rf0, bd_s]
      show (if (0 : Int32) = 0 then gd (inb (nI j) 16000) (some (Mo_out mo (nI j).toNatClampNeg, Mo_s_code mo 0)) else _) = _
      rw [if_pos rfl, gd_in (show j < 16000 by omega) (by decide), cj]
/-- a byte behind the others, where there is room -/
theorem s_add1 {b : Br} {m : Nat} (x : Int32) (h : m < Br_byL b) (hL : Br_byL b ≤ 40000) (hn : Br_n b = nI m) : f_ByteRow_add b x = some (Br_byL b, upd (Br_by b) m x, nI (m + 1), Br_tk b) := by
  have hlt : Br_n b < Int32.ofNat (Br_byL b) := by rw [hn]; exact nI_lt h (by omega)
  rw [f_ByteRow_add, if_pos hlt, bd_s, hn, gd_in h (by omega), nI_clamp (show m < 2 ^ 31 by omega)]
  show some (Br_byL b, upd (Br_by b) m x, Br_n b + 1, Br_tk b) = _
  rw [hn, nI_1]
theorem in255 {x : Int32} (h1 : ¬ x < 0) (h2 : x ≤ 255) : ∃ a : Nat, a ≤ 255 ∧ x = nI a := nI_of2 (M := 255) (n := 255) (by decide) h1 h2
theorem n3000 {a : Nat} (h : a < 3000) : ¬ nI a = 3000 := by
  intro h2
  have := (nI_eq (a := a) (b := 3000) (by omega) (by decide)).mp h2
  omega
theorem Q_feed (h : RlB kd sd cu w v mo) (x1 : Int32) : (∃ (r : Int32) (v' : Br) (mo' : Mo), f_SD_feed sd v x1 = some (r, v') ∧ f_Model_feed mo x1 = some (r, mo') ∧ Mo_code mo' = 0 ∧ RlB kd sd cu w v' mo') ∨ (e_SD_feed sd v x1 = some 1 ∧ ∃ (q : Int32) (mo' : Mo), f_Model_feed mo x1 = some (q, mo') ∧ Mo_code mo' = 1 ∧ RlB kd sd cu w v mo') ∨ (e_SD_feed sd v x1 = some 4 ∧ ∃ (q : Int32) (mo' : Mo), f_Model_feed mo x1 = some (q, mo') ∧ Mo_code mo' = 2 ∧ RlB kd sd cu w v mo') := by
  have h0 := h
  obtain ⟨hk, hd, hO, ⟨m, q1, q2, o1, o2, o3⟩⟩ := h
  have hno : j_Model_feed_31_2 mo x1 1 = some (0, Mo_s_code mo 1) := by
    rw [j_Model_feed_31_2, rf1, bd_s]
    rfl
  by_cases a1 : x1 < 0
  · exact Or.inr (Or.inl ⟨by rw [e_SD_feed, if_pos a1], 0, Mo_s_code mo 1, by rw [f_Model_feed, if_pos a1, hno], rfl, h0⟩)
  by_cases a2 : x1 ≤ 255
  · by_cases a3 : m < 3000
    · left
      refine ⟨nI (m + 1), (Br_byL v, upd (Br_by v) m x1, nI (m + 1), Br_tk v), Mo_s_inn (Mo_s_inp (Mo_s_code mo 0) (upd (Mo_inp mo) m x1)) (nI (m + 1)), ?_, ?_, rfl, hk, hd, hO, ⟨m + 1, by omega, q2, rfl, rfl, fun i hi => ?_⟩⟩
      · rw [f_SD_feed, if_neg a1, if_pos a2, o1, if_pos (show nI m < 3000 from nI_lt a3 (by decide)), s_add1 x1 (by omega) (by omega) o1, bd_s]
      · rw [f_Model_feed, if_neg a1, if_pos a2, o2, if_neg (n3000 a3), j_Model_feed_31_2, rf0, bd_s]
        show (if (0 : Int32) = 0 then gd (inb (Mo_inn mo) 3000) (some (Mo_inn mo + 1, Mo_s_inn (Mo_s_inp (Mo_s_code mo 0) (upd (Mo_inp mo) (Mo_inn mo).toNatClampNeg x1)) (Mo_inn mo + 1))) else _) = _
        rw [if_pos rfl, o2, gd_in a3 (by decide), nI_clamp (show m < 2 ^ 31 by omega), nI_1]
      · show upd (Br_by v) m x1 i = upd (Mo_inp mo) m x1 i
        by_cases e : i = m
        · subst e; rw [pk_us, pk_us]
        · rw [pk_un e, pk_un e]; exact o3 i (by omega)
    · have e : m = 3000 := by omega
      subst e
      refine Or.inr (Or.inr ⟨?_, 0, Mo_s_code mo 2, ?_, rfl, h0⟩)
      · rw [e_SD_feed, if_neg a1, if_pos a2, o1, if_neg (show ¬ nI 3000 < 3000 from nI_nlt (Nat.le_refl 3000) (by decide))]
      · rw [f_Model_feed, if_neg a1, if_pos a2, o2, if_pos (show nI 3000 = 3000 from rfl), j_Model_feed_31_2, rf2, bd_s]
        rfl
  · exact Or.inr (Or.inl ⟨by rw [e_SD_feed, if_neg a1, if_neg a2], 0, Mo_s_code mo 1, by rw [f_Model_feed, if_neg a1, if_neg a2, hno], rfl, h0⟩)
theorem s_addAll_l {ot : Br} {mo_ : Nat} {K : Br → Option Br} (hot : Br_n ot = nI mo_) (hoL : mo_ ≤ Br_byL ot) (hoL2 : Br_byL ot ≤ 40000) : ∀ (m i a : Nat) (b : Br), Br_n b = nI (a + i) → Br_byL b = 3000 → a + mo_ ≤ 3000 → i ≤ mo_ → mo_ - i < m → ∃ f : Nat → Int32, l_ByteRow_addAll_2 ot K m b (nI i) = K (3000, f, nI (a + mo_), Br_tk b) ∧ (∀ j, j < a + i → f j = Br_by b j) ∧ ∀ j, i ≤ j → j < mo_ → f (a + j) = Br_by ot j := by
  intro m
  induction m with
  | zero => intro i a b _ _ _ _ h2; omega
  | succ m ih =>
    intro i a b hb hL h3 h1 h2
    rw [l_ByteRow_addAll_2, hot]
    by_cases e : i = mo_
    · subst e
      rw [if_pos (nI_le (Nat.le_refl i) (by omega))]
      refine ⟨Br_by b, ?_, fun j _ => rfl, fun j p q => by omega⟩
      rw [← hb, ← hL]
    · rw [if_neg (nI_ge (by omega) (by omega)), gd_in (show i < Br_byL ot by omega) (by omega), nI_clamp (show i < 2 ^ 31 by omega), s_add1 (m := a + i) _ (by omega) (by omega) hb, bd_s]
      obtain ⟨f, e1, e2, e3⟩ := ih (i + 1) a (Br_byL b, upd (Br_by b) (a + i) (Br_by ot i), nI (a + i + 1), Br_tk b) rfl hL h3 (by omega) (by omega)
      rw [← nI_1 i] at e1
      refine ⟨f, e1, fun j hj => ?_, fun j p q => ?_⟩
      · rw [e2 j (by omega)]
        exact pk_un (by omega)
      · by_cases e5 : j = i
        · subst e5
          rw [e2 (a + j) (by omega)]
          exact pk_us
        · exact e3 j (by omega) q
theorem pz1 (mo : Mo) (f : Nat → Int32) (z : Int32) : Mo_inp (Mo_s_inn (Mo_s_inp mo f) z) = f := by
  obtain ⟨m1, m2, m3, m4, m5, m6, m7, m8, m9, m10, m11, m12, m13, m14, m15, m16, m17, m18, m19, m20, m21, m22, m23, m24, m25, m26, m27⟩ := mo
  exact Eq.trans (b := f) rfl rfl
theorem pz2 (mo : Mo) (f : Nat → Int32) (z : Int32) : Mo_out (Mo_s_inn (Mo_s_inp mo f) z) = Mo_out mo := by
  obtain ⟨m1, m2, m3, m4, m5, m6, m7, m8, m9, m10, m11, m12, m13, m14, m15, m16, m17, m18, m19, m20, m21, m22, m23, m24, m25, m26, m27⟩ := mo
  exact Eq.trans (b := m18) rfl rfl
theorem pz3 (mo : Mo) (f : Nat → Int32) (z : Int32) : Mo_on (Mo_s_inn (Mo_s_inp mo f) z) = Mo_on mo := by
  obtain ⟨m1, m2, m3, m4, m5, m6, m7, m8, m9, m10, m11, m12, m13, m14, m15, m16, m17, m18, m19, m20, m21, m22, m23, m24, m25, m26, m27⟩ := mo
  exact Eq.trans (b := m16) rfl rfl
theorem pz4 (mo : Mo) (f : Nat → Int32) (z : Int32) : Mo_inn (Mo_s_inn (Mo_s_inp mo f) z) = z := by
  obtain ⟨m1, m2, m3, m4, m5, m6, m7, m8, m9, m10, m11, m12, m13, m14, m15, m16, m17, m18, m19, m20, m21, m22, m23, m24, m25, m26, m27⟩ := mo
  exact Eq.trans (b := z) rfl rfl
theorem pz5 (mo : Mo) (f g : Nat → Int32) (z y : Int32) : Mo_s_inn (Mo_s_inp (Mo_s_inn (Mo_s_inp mo f) z) g) y = Mo_s_inn (Mo_s_inp mo g) y := by
  obtain ⟨m1, m2, m3, m4, m5, m6, m7, m8, m9, m10, m11, m12, m13, m14, m15, m16, m17, m18, m19, m20, m21, m22, m23, m24, m25, m26, m27⟩ := mo
  exact Eq.trans (b := (m1, m2, m3, m4, m5, m6, m7, m8, m9, m10, m11, m12, m13, m14, m15, m16, m17, m18, y, m20, g, m22, m23, m24, m25, m26, m27)) rfl rfl
theorem pz6 (mo : Mo) (f : Nat → Int32) : Mo_inn (Mo_s_inp mo f) = Mo_inn mo := rfl
def Ps (mo mo' : Mo) : Prop := ∃ (f : Nat → Int32) (z : Int32), mo' = Mo_s_inn (Mo_s_inp mo f) z
theorem Ps.refl (mo : Mo) : Ps mo mo := ⟨Mo_inp mo, Mo_inn mo, rfl⟩
theorem Ps.trans {a b c : Mo} (h1 : Ps a b) (h2 : Ps b c) : Ps a c := by
  obtain ⟨f, z, e1⟩ := h1
  obtain ⟨g, y, e2⟩ := h2
  subst e1
  exact ⟨g, y, e2.trans (pz5 a f g z y)⟩
theorem m_pass_1 {K : Mo → Option (Int32 × Mo)} {c m i a : Nat} {mo : Mo} (hc : c ≤ 16000) (ho : Mo_on mo = nI c) (hi : Mo_inn mo = nI (a + i)) (h3 : a + c ≤ 3000) (h1 : i < c) : l_Model_pass_31 K (m + 1) mo (nI i) = l_Model_pass_31 K m (Mo_s_inn (Mo_s_inp mo (upd (Mo_inp mo) (a + i) (Mo_out mo i))) (nI (a + i) + 1)) (nI i + 1) := by
  rw [l_Model_pass_31, ho, if_neg (nI_ge (by omega) (by omega)), gd_in (show i < 16000 by omega) (by decide), hi, gd_in (show a + i < 3000 by omega) (by decide), nI_clamp (show i < 2 ^ 31 by omega), nI_clamp (show a + i < 2 ^ 31 by omega), lt', lt', lt', pz6, hi]
theorem m_pass_l {K : Mo → Option (Int32 × Mo)} {c : Nat} (hc : c ≤ 16000) : ∀ (m i a : Nat) (mo : Mo), Mo_on mo = nI c → Mo_inn mo = nI (a + i) → a + c ≤ 3000 → i ≤ c → c - i < m → ∃ mo' : Mo, l_Model_pass_31 K m mo (nI i) = K mo' ∧ Ps mo mo' ∧ Mo_inn mo' = nI (a + c) ∧ (∀ j, j < a + i → Mo_inp mo' j = Mo_inp mo j) ∧ ∀ j, i ≤ j → j < c → Mo_inp mo' (a + j) = Mo_out mo j := by
  intro m
  induction m with
  | zero => intro i a mo _ _ _ _ h2; omega
  | succ m ih =>
    intro i a mo ho hi h3 h1 h2
    by_cases e : i = c
    · subst e
      refine ⟨mo, ?_, Ps.refl mo, hi, fun j _ => rfl, fun j p q => by omega⟩
      rw [l_Model_pass_31, ho, if_pos (nI_le (Nat.le_refl i) (by omega))]
    · rw [m_pass_1 hc ho hi h3 (by omega)]
      obtain ⟨mo1, hmo1⟩ : ∃ z, z = Mo_s_inn (Mo_s_inp mo (upd (Mo_inp mo) (a + i) (Mo_out mo i))) (nI (a + i) + 1) := ⟨_, rfl⟩
      have g1 : Mo_inp mo1 = upd (Mo_inp mo) (a + i) (Mo_out mo i) := by subst hmo1; exact pz1 mo _ _
      have g2 : Mo_out mo1 = Mo_out mo := by subst hmo1; exact pz2 mo _ _
      have g3 : Mo_on mo1 = Mo_on mo := by subst hmo1; exact pz3 mo _ _
      have g4 : Mo_inn mo1 = nI (a + i) + 1 := by subst hmo1; exact pz4 mo _ _
      have g5 : Ps mo mo1 := ⟨_, _, hmo1⟩
      rw [← hmo1]
      obtain ⟨mo', e1, e4, e5, e2, e3⟩ := ih (i + 1) a mo1 (g3.trans ho) (g4.trans (nI_1 (a + i))) h3 (by omega) (by omega)
      rw [← nI_1 i] at e1
      rw [g1] at e2
      rw [g2] at e3
      refine ⟨mo', e1, Ps.trans g5 e4, e5, fun j hj => ?_, fun j p q => ?_⟩
      · rw [e2 j (by omega)]
        exact pk_un (by omega)
      · by_cases e6 : j = i
        · subst e6
          rw [e2 (a + j) (by omega)]
          exact pk_us
        · exact e3 j (by omega) q
theorem Q_pass (h : RlB kd sd cu w v mo) : (∃ (r : Int32) (v' : Br) (mo' : Mo), f_SD_pass sd w v = some (r, v') ∧ f_Model_pass mo = some (r, mo') ∧ Mo_code mo' = 0 ∧ RlB kd sd cu w v' mo') ∨ (e_SD_pass sd w v = some 4 ∧ ∃ (q : Int32) (mo' : Mo), f_Model_pass mo = some (q, mo') ∧ Mo_code mo' = 1 ∧ RlB kd sd cu w v mo') := by
  have h0 := h
  obtain ⟨hk, hd, hO, ⟨a, q1, q2, i1, i2, i3⟩⟩ := h
  obtain ⟨c, p1, p2, p3, o1, o2, o3⟩ := id hO
  by_cases e : a + c ≤ 3000
  · left
    have hle : nI a + nI c ≤ 3000 := by rw [nI_add]; exact nI_le e (by decide)
    obtain ⟨f, e1, e2, e3⟩ := s_addAll_l (K := fun br_7 => some br_7) o1 p2 p3 100000 0 a v i1 q2 e (Nat.zero_le _) (by omega)
    obtain ⟨mo', g1, ⟨g, z, g4⟩, g5, g2, g3⟩ := m_pass_l (K := fun mo_15 => some (Mo_inn mo_15, mo_15)) p1 100000 0 a (Mo_s_code mo 0) o2 i2 e (Nat.zero_le _) (by omega)
    have g6 : z = nI (a + c) := by rw [g4, pz4] at g5; exact g5
    have g7 : Mo_inp mo' = g := by rw [g4, pz1]
    subst g6
    rw [g7] at g2 g3
    refine ⟨nI (a + c), (3000, f, nI (a + c), Br_tk v), Mo_s_inn (Mo_s_inp (Mo_s_code mo 0) g) (nI (a + c)), ?_, ?_, rfl, hk, hd, hO, ⟨a + c, e, rfl, rfl, rfl, fun i hi => ?_⟩⟩
    · rw [f_SD_pass, i1, o1, if_pos hle, f_ByteRow_addAll]
      refine Eq.trans (congrArg (fun z => bd z _) e1) ?_
      rfl
    · rw [f_Model_pass, i2, o2, if_pos hle, j_Model_pass_21_2, rf0, bd_s]
      show (if (0 : Int32) = 0 then l_Model_pass_31 (fun mo_15 => some (Mo_inn mo_15, mo_15)) 100000 (Mo_s_code mo 0) 0 else _) = _
      rw [if_pos rfl]
      refine Eq.trans g1 ?_
      show some (Mo_inn mo', mo') = _
      rw [g5, g4]
    · show f i = g i
      by_cases e5 : i < a
      · rw [e2 i (by omega), g2 i (by omega)]
        exact i3 i e5
      · have e6 := e3 (i - a) (Nat.zero_le _) (by omega)
        have g6 := g3 (i - a) (Nat.zero_le _) (by omega)
        rw [show a + (i - a) = i by omega] at e6 g6
        rw [e6, g6]
        exact o3 _ (by omega)
  · have hnle : ¬ nI a + nI c ≤ 3000 := by rw [nI_add]; exact nI_ge (a := 3000) (by omega) (by omega)
    refine Or.inr ⟨by rw [e_SD_pass, i1, o1, if_neg hnle], 0, Mo_s_code mo 1, ?_, rfl, h0⟩
    rw [f_Model_pass, i2, o2, if_neg hnle, j_Model_pass_21_2, rf1, bd_s]
    rfl
end Ops
