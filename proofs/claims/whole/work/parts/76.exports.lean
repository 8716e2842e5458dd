/-! Reading the exports -/
theorem ex_ex (mo : Mo) (f g : Nat → Int32) : Mo_s_ex (Mo_s_ex mo f) g = Mo_s_ex mo g := by
  obtain ⟨m1, m2, m3, m4, m5, m6, m7, m8, m9, m10, m11, m12, m13, m14, m15, m16, m17, m18, m19, m20, m21, m22, m23, m24, m25, m26, m27⟩ := mo
  exact Eq.trans (b := (m1, m2, m3, m4, m5, m6, g, m8, m9, m10, m11, m12, m13, m14, m15, m16, m17, m18, m19, m20, m21, m22, m23, m24, m25, m26, m27)) rfl rfl
theorem Tm_ex {mo mo1 mo2 : Mo} {f : Nat → Int32} (h1 : Tm mo mo1) (h2 : Tm (Mo_s_ex mo1 f) mo2) : Tm (Mo_s_ex mo f) mo2 := by
  obtain ⟨a, b, c, d, e, rfl⟩ := h1
  obtain ⟨a', b', c', d', e', rfl⟩ := h2
  refine ⟨a', b', c', d', e', ?_⟩
  obtain ⟨m1, m2, m3, m4, m5, m6, m7, m8, m9, m10, m11, m12, m13, m14, m15, m16, m17, m18, m19, m20, m21, m22, m23, m24, m25, m26, m27⟩ := mo
  exact Eq.trans (b := (m1, m2, m3, m4, m5, m6, f, m8, m9, m10, m11, m12, m13, m14, m15, m16, m17, m18, m19, a', m21, b', c', d', e', m26, m27)) rfl rfl
theorem xz1 (mo : Mo) (f : Nat → Int32) : Mo_ex (Mo_s_ex mo f) = f := rfl
theorem xz2 (mo : Mo) (f : Nat → Int32) : Mo_why (Mo_s_ex mo f) = Mo_why mo := rfl
theorem m_ex_l {n at_ l : Nat} {x3 : Int32} {K : Mo → Option Mo} (h40 : at_ + l ≤ 40) : ∀ (d i m : Nat) (mo : Mo), i + d = at_ + l → d < m → ∃ f : Nat → Int32, l_Model_readExports_60 (nI n) (nI at_) x3 (nI l) K m mo (nI i) = K (Mo_s_ex mo f) ∧ (∀ j, i ≤ j → j < at_ + l → f (j + 40) = vp_nar .boolean x3) ∧ ∀ j, (j < i + 40 ∨ at_ + l + 40 ≤ j) → f j = Mo_ex mo j := by
  intro d
  induction d with
  | zero =>
    intro i m mo hi hm
    obtain ⟨f, rfl⟩ : ∃ f, m = f + 1 := ⟨m - 1, by omega⟩
    have e : i = at_ + l := by omega
    subst e
    refine ⟨Mo_ex mo, ?_, fun j a b => by omega, fun j _ => rfl⟩
    rw [l_Model_readExports_60, nI_add, if_pos (nI_le (Nat.le_refl _) (by omega))]
  | succ d ih =>
    intro i m mo hi hm
    obtain ⟨f, rfl⟩ : ∃ f, m = f + 1 := ⟨m - 1, by omega⟩
    obtain ⟨g, g1, g2, g3⟩ := ih (i + 1) f (Mo_s_ex mo (upd (Mo_ex mo) (i + 40) (vp_nar .boolean x3))) (by omega) (by omega)
    rw [← nI_1 i, ex_ex] at g1
    rw [xz1] at g3
    have e40 : (40 : Int32) + nI i = nI (i + 40) := by rw [show (40 : Int32) = nI 40 from rfl, nI_add, Nat.add_comm]
    refine ⟨g, ?_, fun j a b => ?_, fun j hj => ?_⟩
    · rw [l_Model_readExports_60, nI_add, if_neg (nI_ge (by omega) (by omega)), e40, gd_in (show i + 40 < 80 by omega) (by decide), nI_clamp (show i + 40 < 2 ^ 31 by omega), lt', lt']
      exact g1
    · by_cases e : j = i
      · subst e; rw [g3 _ (by omega)]; exact pk_us
      · exact g2 j (by omega) b
    · rw [g3 j (by omega)]; exact pk_un (by omega)
theorem Fp_ex {mo mo1 mo2 : Mo} {f : Nat → Int32} (h1 : Tm mo mo1) (h2 : Fp (Mo_s_ex mo1 f) mo2) : Fp (Mo_s_ex mo f) mo2 := by
  obtain ⟨a, b, c, d, e, rfl⟩ := h1
  obtain ⟨a', b', c', d', e', f', g', rfl⟩ := h2
  refine ⟨a', b', c', d', e', f', g', ?_⟩
  obtain ⟨m1, m2, m3, m4, m5, m6, m7, m8, m9, m10, m11, m12, m13, m14, m15, m16, m17, m18, m19, m20, m21, m22, m23, m24, m25, m26, m27⟩ := mo
  exact Eq.trans (b := (m1, m2, m3, m4, m5, m6, f, m8, m9, m10, m11, m12, m13, m14, m15, m16, m17, m18, m19, c', m21, d', e', f', g', a', b')) rfl rfl
theorem ex_self (mo : Mo) : Mo_s_ex mo (Mo_ex mo) = mo := rfl
theorem Tm_w {mo mo' : Mo} (h : Tm mo mo') : Mo_why mo' = Mo_why mo ∧ Mo_ex mo' = Mo_ex mo := by
  obtain ⟨a, b, c, d, e, rfl⟩ := h
  exact ⟨rfl, rfl⟩
theorem s_ex_l_P {rd : Rd} {b : Pb} {v : Br} {x2 x4 : Int32} {pl l : Nat} (h40 : pl + l ≤ 40) : ∀ (d i m : Nat) (sy : Sy), i + d = l → d < m → ∃ f : Nat → Int32, (∀ K, l_P_Reader_takeExports_77 rd b v x2 (nI pl) x4 (nI l) K m sy (nI i) = K (Sy_s_ex sy f)) ∧ (∀ j, pl + i ≤ j → j < pl + l → f j = vp_nar .boolean x2) ∧ ∀ j, (j < pl + i ∨ pl + l ≤ j) → f j = Sy_ex sy j := by
  intro d
  induction d with
  | zero =>
    intro i m sy hi hm
    obtain ⟨f, rfl⟩ : ∃ f, m = f + 1 := ⟨m - 1, by omega⟩
    have e : i = l := by omega
    subst e
    refine ⟨Sy_ex sy, fun K => ?_, fun j a b => by omega, fun j _ => rfl⟩
    rw [l_P_Reader_takeExports_77, if_pos (nI_le (Nat.le_refl _) (by omega))]
  | succ d ih =>
    intro i m sy hi hm
    obtain ⟨f, rfl⟩ : ∃ f, m = f + 1 := ⟨m - 1, by omega⟩
    obtain ⟨g, g1, g2, g3⟩ := ih (i + 1) f (Sy_s_ex sy (upd (Sy_ex sy) (pl + i) (vp_nar .boolean x2))) (by omega) (by omega)
    refine ⟨g, fun K => ?_, fun j a b => ?_, fun j hj => ?_⟩
    · have g1' := g1 K
      rw [← nI_1 i] at g1'
      rw [l_P_Reader_takeExports_77, if_neg (nI_ge (by omega) (by omega)), nI_add, gd_in (show pl + i < 40 by omega) (by decide), nI_clamp (show pl + i < 2 ^ 31 by omega), lt', lt']
      exact g1'
    · by_cases e : j = pl + i
      · subst e; rw [g3 _ (by omega)]; exact pk_us
      · exact g2 j (by omega) b
    · rw [g3 j (by omega)]; exact pk_un (by omega)
theorem s_ex_l_C {rd : Rd} {b : Cb} {v : Br} {x2 x4 : Int32} {pl l : Nat} (h40 : pl + l ≤ 40) : ∀ (d i m : Nat) (sy : Sy), i + d = l → d < m → ∃ f : Nat → Int32, (∀ K, l_C_Reader_takeExports_77 rd b v x2 (nI pl) x4 (nI l) K m sy (nI i) = K (Sy_s_ex sy f)) ∧ (∀ j, pl + i ≤ j → j < pl + l → f j = vp_nar .boolean x2) ∧ ∀ j, (j < pl + i ∨ pl + l ≤ j) → f j = Sy_ex sy j := by
  intro d
  induction d with
  | zero =>
    intro i m sy hi hm
    obtain ⟨f, rfl⟩ : ∃ f, m = f + 1 := ⟨m - 1, by omega⟩
    have e : i = l := by omega
    subst e
    refine ⟨Sy_ex sy, fun K => ?_, fun j a b => by omega, fun j _ => rfl⟩
    rw [l_C_Reader_takeExports_77, if_pos (nI_le (Nat.le_refl _) (by omega))]
  | succ d ih =>
    intro i m sy hi hm
    obtain ⟨f, rfl⟩ : ∃ f, m = f + 1 := ⟨m - 1, by omega⟩
    obtain ⟨g, g1, g2, g3⟩ := ih (i + 1) f (Sy_s_ex sy (upd (Sy_ex sy) (pl + i) (vp_nar .boolean x2))) (by omega) (by omega)
    refine ⟨g, fun K => ?_, fun j a b => ?_, fun j hj => ?_⟩
    · have g1' := g1 K
      rw [← nI_1 i] at g1'
      rw [l_C_Reader_takeExports_77, if_neg (nI_ge (by omega) (by omega)), nI_add, gd_in (show pl + i < 40 by omega) (by decide), nI_clamp (show pl + i < 2 ^ 31 by omega), lt', lt']
      exact g1'
    · by_cases e : j = pl + i
      · subst e; rw [g3 _ (by omega)]; exact pk_us
      · exact g2 j (by omega) b
    · rw [g3 j (by omega)]; exact pk_un (by omega)
theorem exps_P {rd : Rd} {n m a0 : Nat} {k39 k67 k121 : Pb → Br → Sy → Option (Int32 × Rd × Pb × Br × Sy)} {j56 j104 : Mo → Option Mo} (h40 : n ≤ 40) (ha0 : a0 + 4000 < 2 ^ 30) : ∀ (f place on turn a : Nat) (b : Pb) (v : Br) (sy : Sy) (mo : Mo), 42 - turn ≤ f → turn ≤ place + 1 → place ≤ n → on < 2 → (turn = 0 → on = 0 ∧ place = 0) → (0 < turn → on = 1 ∨ 0 < place) → RcP b v mo m a → a ≤ a0 + 72 * turn → Sy_n sy = nI n → Mo_why mo = -1 → (∀ j, j < place → Sy_ex sy j = Mo_ex mo (j + 40) ∧ (Mo_ex mo (j + 40) = 0 ∨ Mo_ex mo (j + 40) = 1)) →
    (∃ (b' : Pb) (v' : Br) (sy' : Sy) (mo' : Mo) (g : Nat → Int32), Br_byL v' = Br_byL v ∧ (∀ j, j < 40 → g j = Mo_ex mo j) ∧ Fp (Mo_s_ex mo g) mo' ∧ ((l_P_Reader_takeExports_7 rd k39 k67 k121 f b v sy (nI on) (nI place) (nI turn) = k39 b' v' sy' ∧ l_Model_readExports_4 (nI n) j56 j104 f mo (nI place) (nI on) = j56 mo' ∧ Mo_why mo' = 7) ∨ (l_P_Reader_takeExports_7 rd k39 k67 k121 f b v sy (nI on) (nI place) (nI turn) = k67 b' v' sy' ∧ l_Model_readExports_4 (nI n) j56 j104 f mo (nI place) (nI on) = j56 mo' ∧ Mo_why mo' = 6))) ∨
    ∃ (b' : Pb) (v' : Br) (h g : Nat → Int32) (mo' : Mo), l_P_Reader_takeExports_7 rd k39 k67 k121 f b v sy (nI on) (nI place) (nI turn) = k121 b' v' (Sy_s_ex sy h) ∧ l_Model_readExports_4 (nI n) j56 j104 f mo (nI place) (nI on) = j104 mo' ∧ (∀ j, j < n → h j = g (j + 40) ∧ (g (j + 40) = 0 ∨ g (j + 40) = 1)) ∧ (∀ j, j < 40 → g j = Mo_ex mo j) ∧ Tm (Mo_s_ex mo g) mo' ∧ Br_byL v' = Br_byL v := by
  intro f
  induction f with
  | zero => intro place on turn a b v sy mo hf h1 h2; omega
  | succ f ih =>
    intro place on turn a b v sy mo hf h1 h2 hon h3 h4 hR ha hn hwy hE
    have hnt : ¬ nI n < nI turn ∨ place = n := by
      by_cases e : place = n
      · exact Or.inr e
      · exact Or.inl (nI_nlt (by omega) (by omega))
    by_cases e : place = n
    · right
      refine ⟨b, v, Sy_ex sy, Mo_ex mo, mo, ?_, ?_, fun j hj => hE j (by omega), fun j _ => rfl, Tm.refl mo, rfl⟩
      · rw [l_P_Reader_takeExports_7, hn, e, if_pos (nI_le (Nat.le_refl _) (by omega))]
        exact ite_self _
      · rw [l_Model_readExports_4, e, if_pos (nI_le (Nat.le_refl _) (by omega))]
    · have hnt' : ¬ nI n < nI turn := nI_nlt (by omega) (by omega)
      have hnle : ¬ nI n ≤ nI place := nI_ge (by omega) (by omega)
      obtain ⟨a1, b1, v1, mo1, t1, t2, t3, t4, t5, t6⟩ := takeNum_P hR (by omega)
      obtain ⟨w1, w2⟩ := Tm_w t4
      have hwy1 : Mo_why mo1 = -1 := w1.trans hwy
      rcases t6 with ⟨u1, u2⟩ | ⟨x, hx, u1, u2, u3⟩
      · left
        refine ⟨b1, v1, sy, Mo_s_why mo1 7, Mo_ex mo, t5, fun j _ => rfl, Fp.trans (Fp.of t4) (Fp_w mo1 7), Or.inl ⟨?_, ?_, rfl⟩⟩
        · rw [l_P_Reader_takeExports_7, hn, if_neg hnt', if_neg hnle, u1, bd_s]
          rfl
        · rw [l_Model_readExports_4, if_neg hnle, u2, bd_s]
          have hwhy : (0 : Int32) ≤ Mo_why (Mo_s_why mo1 7) := by rw [wz]; decide
          refine Eq.trans (if_pos hwhy) ?_
          rw [j_Model_readExports_49_7, wz, if_neg (show ¬ (7 : Int32) < 0 by decide)]
      · have hw0 : ¬ (0 : Int32) ≤ Mo_why mo1 := by rw [hwy1]; decide
        have hw1 : Mo_why mo1 < 0 := by rw [hwy1]; decide
        have hC : l_P_Reader_takeExports_7 rd k39 k67 k121 (f + 1) b v sy (nI on) (nI place) (nI turn) = (if nI (n - place) < nI x then k67 b1 v1 sy else if nI x = 0 then (if nI turn ≤ 0 then j_P_Reader_takeExports_74_17 rd sy (nI on) (nI place) (nI turn) (l_P_Reader_takeExports_7 rd k39 k67 k121 f) (nI x) b1 v1 else k67 b1 v1 sy) else j_P_Reader_takeExports_74_17 rd sy (nI on) (nI place) (nI turn) (l_P_Reader_takeExports_7 rd k39 k67 k121 f) (nI x) b1 v1) := by
          rw [l_P_Reader_takeExports_7, hn, if_neg hnt', if_neg hnle, u1, bd_s, ← pk_sub (show place ≤ n by omega)]
          exact if_neg (nI_m1 (by omega))
        have hM : l_Model_readExports_4 (nI n) j56 j104 (f + 1) mo (nI place) (nI on) = (if nI (n - place) < nI x then j_Model_readExports_49_7 (nI n) (nI place) (nI on) (l_Model_readExports_4 (nI n) j56 j104 f) j56 (nI x) (Mo_s_why mo1 6) else if nI x = 0 then (if nI on = 0 then (if nI place ≤ 0 then j_Model_readExports_49_7 (nI n) (nI place) (nI on) (l_Model_readExports_4 (nI n) j56 j104 f) j56 (nI x) mo1 else j_Model_readExports_49_7 (nI n) (nI place) (nI on) (l_Model_readExports_4 (nI n) j56 j104 f) j56 (nI x) (Mo_s_why mo1 6)) else j_Model_readExports_49_7 (nI n) (nI place) (nI on) (l_Model_readExports_4 (nI n) j56 j104 f) j56 (nI x) (Mo_s_why mo1 6)) else j_Model_readExports_49_7 (nI n) (nI place) (nI on) (l_Model_readExports_4 (nI n) j56 j104 f) j56 (nI x) mo1) := by
          rw [l_Model_readExports_4, if_neg hnle, u2, bd_s, ← pk_sub (show place ≤ n by omega)]
          exact if_neg hw0
        have h6 : j_Model_readExports_49_7 (nI n) (nI place) (nI on) (l_Model_readExports_4 (nI n) j56 j104 f) j56 (nI x) (Mo_s_why mo1 6) = j56 (Mo_s_why mo1 6) := by
          rw [j_Model_readExports_49_7, wz, if_neg (show ¬ (6 : Int32) < 0 by decide)]
        rw [h6] at hM
        rw [hC, hM]
        have hno : (∃ (b' : Pb) (v' : Br) (sy' : Sy) (mo' : Mo) (g : Nat → Int32), Br_byL v' = Br_byL v ∧ (∀ j, j < 40 → g j = Mo_ex mo j) ∧ Fp (Mo_s_ex mo g) mo' ∧ ((k67 b1 v1 sy = k39 b' v' sy' ∧ j56 (Mo_s_why mo1 6) = j56 mo' ∧ Mo_why mo' = 7) ∨ (k67 b1 v1 sy = k67 b' v' sy' ∧ j56 (Mo_s_why mo1 6) = j56 mo' ∧ Mo_why mo' = 6))) := ⟨b1, v1, sy, Mo_s_why mo1 6, Mo_ex mo, t5, fun j _ => rfl, Fp.trans (Fp.of t4) (Fp_w mo1 6), Or.inr ⟨rfl, rfl, rfl⟩⟩
        by_cases e2 : n - place < x
        · left
          rw [if_pos (nI_lt e2 (by omega)), if_pos (nI_lt e2 (by omega))]
          exact hno
        rw [if_neg (nI_nlt (by omega) (by omega)), if_neg (nI_nlt (by omega) (by omega))]
        by_cases e3 : x = 0 ∧ 0 < turn
        · obtain ⟨e3, e4⟩ := e3
          subst e3
          left
          rw [if_pos (show nI 0 = 0 from rfl), if_pos (show nI 0 = 0 from rfl), if_neg (nI_nle e4 (by omega))]
          rcases h4 e4 with e5 | e5
          · subst e5
            rw [if_neg (show ¬ nI 1 = 0 by decide)]
            exact hno
          · rw [if_neg (nI_nle e5 (by omega)), ite_self]
            exact hno
        · have hgo : (if nI x = 0 then (if nI turn ≤ 0 then j_P_Reader_takeExports_74_17 rd sy (nI on) (nI place) (nI turn) (l_P_Reader_takeExports_7 rd k39 k67 k121 f) (nI x) b1 v1 else k67 b1 v1 sy) else j_P_Reader_takeExports_74_17 rd sy (nI on) (nI place) (nI turn) (l_P_Reader_takeExports_7 rd k39 k67 k121 f) (nI x) b1 v1) = j_P_Reader_takeExports_74_17 rd sy (nI on) (nI place) (nI turn) (l_P_Reader_takeExports_7 rd k39 k67 k121 f) (nI x) b1 v1 := by
            by_cases e5 : x = 0
            · have e6 : turn = 0 := by omega
              subst e6; subst e5
              rw [if_pos (show nI 0 = 0 from rfl), if_pos (show nI 0 ≤ 0 by decide)]
            · rw [if_neg (nI_ne0 (by omega) (by omega))]
          have hgm : (if nI x = 0 then (if nI on = 0 then (if nI place ≤ 0 then j_Model_readExports_49_7 (nI n) (nI place) (nI on) (l_Model_readExports_4 (nI n) j56 j104 f) j56 (nI x) mo1 else j56 (Mo_s_why mo1 6)) else j56 (Mo_s_why mo1 6)) else j_Model_readExports_49_7 (nI n) (nI place) (nI on) (l_Model_readExports_4 (nI n) j56 j104 f) j56 (nI x) mo1) = j_Model_readExports_49_7 (nI n) (nI place) (nI on) (l_Model_readExports_4 (nI n) j56 j104 f) j56 (nI x) mo1 := by
            by_cases e5 : x = 0
            · obtain ⟨e7, e8⟩ := h3 (by omega)
              subst e7; subst e8; subst e5
              rw [if_pos (show nI 0 = 0 from rfl), if_pos (show nI 0 = 0 from rfl), if_pos (show nI 0 ≤ 0 by decide)]
            · rw [if_neg (nI_ne0 (by omega) (by omega))]
          rw [hgo, hgm]
          obtain ⟨gs, p1, p2, p3⟩ := s_ex_l_P (rd := rd) (b := b1) (v := v1) (x2 := nI on) (x4 := nI turn) (pl := place) (l := x) (by omega) x 0 100000 sy (by omega) (by omega)
          obtain ⟨gm, q1, q2, q3⟩ := m_ex_l (n := n) (at_ := place) (l := x) (x3 := nI on) (K := fun mo_15 => lt' (nI place + nI x) <| fun x2_16 => (if nI on = 0 then (l_Model_readExports_4 (nI n) j56 j104 f) mo_15 x2_16 1 else (l_Model_readExports_4 (nI n) j56 j104 f) mo_15 x2_16 0)) (by omega) x place 100000 mo1 (by omega) (by omega)
          have hon2 : on = 0 ∨ on = 1 := by omega
          have hcs : j_P_Reader_takeExports_74_17 rd sy (nI on) (nI place) (nI turn) (l_P_Reader_takeExports_7 rd k39 k67 k121 f) (nI x) b1 v1 = l_P_Reader_takeExports_7 rd k39 k67 k121 f b1 v1 (Sy_s_ex sy gs) (nI (1 - on)) (nI (place + x)) (nI (turn + 1)) := by
            rw [j_P_Reader_takeExports_74_17]
            refine Eq.trans (p1 _) ?_
            rw [lt', nI_add]
            rcases hon2 with rfl | rfl
            · rw [if_pos (show nI 0 = 0 from rfl), lt', nI_1]; rfl
            · rw [if_neg (show ¬ nI 1 = 0 by decide), lt', nI_1]; rfl
          have hms : j_Model_readExports_49_7 (nI n) (nI place) (nI on) (l_Model_readExports_4 (nI n) j56 j104 f) j56 (nI x) mo1 = l_Model_readExports_4 (nI n) j56 j104 f (Mo_s_ex mo1 gm) (nI (place + x)) (nI (1 - on)) := by
            rw [j_Model_readExports_49_7, if_pos hw1]
            refine Eq.trans q1 ?_
            rw [lt', nI_add]
            rcases hon2 with rfl | rfl
            · rw [if_pos (show nI 0 = 0 from rfl)]; rfl
            · rw [if_neg (show ¬ nI 1 = 0 by decide)]; rfl
          rw [hcs, hms]
          have hR2 : RcP b1 v1 (Mo_s_ex mo1 gm) m a1 := t1
          have hE2 : ∀ j, j < place + x → gs j = gm (j + 40) ∧ (gm (j + 40) = 0 ∨ gm (j + 40) = 1) := by
            intro j hj
            by_cases e5 : j < place
            · rw [p3 j (by omega), q3 (j + 40) (by omega), w2]
              exact hE j e5
            · rw [p2 j (by omega) hj, q2 j (by omega) hj]
              exact ⟨rfl, nb01 _⟩
          have hlow : ∀ j, j < 40 → gm j = Mo_ex mo j := fun j hj => by rw [q3 j (by omega), w2]
          rcases ih (place + x) (1 - on) (turn + 1) a1 b1 v1 (Sy_s_ex sy gs) (Mo_s_ex mo1 gm) (by omega) (by omega) (by omega) (by omega) (by omega) (by omega) hR2 (by omega) hn hwy1 hE2 with ⟨b', v', sy', mo', g, z1, z2, z3, z4⟩ | ⟨b', v', h9, g, mo', z1, z2, z3, z4, z5, z6⟩
          · left
            rw [xz1] at z2
            rw [ex_ex] at z3
            exact ⟨b', v', sy', mo', g, z1.trans t5, fun j hj => (z2 j hj).trans (hlow j hj), Fp_ex t4 z3, z4⟩
          · right
            rw [xz1] at z4
            rw [ex_ex] at z5
            exact ⟨b', v', h9, g, mo', z1, z2, z3, fun j hj => (z4 j hj).trans (hlow j hj), Tm_ex t4 z5, z6.trans t5⟩
theorem exps_C {rd : Rd} {n m a0 : Nat} {k39 k67 k121 : Cb → Br → Sy → Option (Int32 × Rd × Cb × Br × Sy)} {j56 j104 : Mo → Option Mo} (h40 : n ≤ 40) (ha0 : a0 + 4000 < 2 ^ 30) : ∀ (f place on turn a : Nat) (b : Cb) (v : Br) (sy : Sy) (mo : Mo), 42 - turn ≤ f → turn ≤ place + 1 → place ≤ n → on < 2 → (turn = 0 → on = 0 ∧ place = 0) → (0 < turn → on = 1 ∨ 0 < place) → RcC b v mo m a → a ≤ a0 + 72 * turn → Sy_n sy = nI n → Mo_why mo = -1 → (∀ j, j < place → Sy_ex sy j = Mo_ex mo (j + 40) ∧ (Mo_ex mo (j + 40) = 0 ∨ Mo_ex mo (j + 40) = 1)) →
    (∃ (b' : Cb) (v' : Br) (sy' : Sy) (mo' : Mo) (g : Nat → Int32), Br_byL v' = Br_byL v ∧ (∀ j, j < 40 → g j = Mo_ex mo j) ∧ Fp (Mo_s_ex mo g) mo' ∧ ((l_C_Reader_takeExports_7 rd k39 k67 k121 f b v sy (nI on) (nI place) (nI turn) = k39 b' v' sy' ∧ l_Model_readExports_4 (nI n) j56 j104 f mo (nI place) (nI on) = j56 mo' ∧ Mo_why mo' = 7) ∨ (l_C_Reader_takeExports_7 rd k39 k67 k121 f b v sy (nI on) (nI place) (nI turn) = k67 b' v' sy' ∧ l_Model_readExports_4 (nI n) j56 j104 f mo (nI place) (nI on) = j56 mo' ∧ Mo_why mo' = 6))) ∨
    ∃ (b' : Cb) (v' : Br) (h g : Nat → Int32) (mo' : Mo), l_C_Reader_takeExports_7 rd k39 k67 k121 f b v sy (nI on) (nI place) (nI turn) = k121 b' v' (Sy_s_ex sy h) ∧ l_Model_readExports_4 (nI n) j56 j104 f mo (nI place) (nI on) = j104 mo' ∧ (∀ j, j < n → h j = g (j + 40) ∧ (g (j + 40) = 0 ∨ g (j + 40) = 1)) ∧ (∀ j, j < 40 → g j = Mo_ex mo j) ∧ Tm (Mo_s_ex mo g) mo' ∧ Br_byL v' = Br_byL v := by
  intro f
  induction f with
  | zero => intro place on turn a b v sy mo hf h1 h2; omega
  | succ f ih =>
    intro place on turn a b v sy mo hf h1 h2 hon h3 h4 hR ha hn hwy hE
    have hnt : ¬ nI n < nI turn ∨ place = n := by
      by_cases e : place = n
      · exact Or.inr e
      · exact Or.inl (nI_nlt (by omega) (by omega))
    by_cases e : place = n
    · right
      refine ⟨b, v, Sy_ex sy, Mo_ex mo, mo, ?_, ?_, fun j hj => hE j (by omega), fun j _ => rfl, Tm.refl mo, rfl⟩
      · rw [l_C_Reader_takeExports_7, hn, e, if_pos (nI_le (Nat.le_refl _) (by omega))]
        exact ite_self _
      · rw [l_Model_readExports_4, e, if_pos (nI_le (Nat.le_refl _) (by omega))]
    · have hnt' : ¬ nI n < nI turn := nI_nlt (by omega) (by omega)
      have hnle : ¬ nI n ≤ nI place := nI_ge (by omega) (by omega)
      obtain ⟨a1, b1, v1, mo1, t1, t2, t3, t4, t5, t6⟩ := takeNum_C hR (by omega)
      obtain ⟨w1, w2⟩ := Tm_w t4
      have hwy1 : Mo_why mo1 = -1 := w1.trans hwy
      rcases t6 with ⟨u1, u2⟩ | ⟨x, hx, u1, u2, u3⟩
      · left
        refine ⟨b1, v1, sy, Mo_s_why mo1 7, Mo_ex mo, t5, fun j _ => rfl, Fp.trans (Fp.of t4) (Fp_w mo1 7), Or.inl ⟨?_, ?_, rfl⟩⟩
        · rw [l_C_Reader_takeExports_7, hn, if_neg hnt', if_neg hnle, u1, bd_s]
          rfl
        · rw [l_Model_readExports_4, if_neg hnle, u2, bd_s]
          have hwhy : (0 : Int32) ≤ Mo_why (Mo_s_why mo1 7) := by rw [wz]; decide
          refine Eq.trans (if_pos hwhy) ?_
          rw [j_Model_readExports_49_7, wz, if_neg (show ¬ (7 : Int32) < 0 by decide)]
      · have hw0 : ¬ (0 : Int32) ≤ Mo_why mo1 := by rw [hwy1]; decide
        have hw1 : Mo_why mo1 < 0 := by rw [hwy1]; decide
        have hC : l_C_Reader_takeExports_7 rd k39 k67 k121 (f + 1) b v sy (nI on) (nI place) (nI turn) = (if nI (n - place) < nI x then k67 b1 v1 sy else if nI x = 0 then (if nI turn ≤ 0 then j_C_Reader_takeExports_74_17 rd sy (nI on) (nI place) (nI turn) (l_C_Reader_takeExports_7 rd k39 k67 k121 f) (nI x) b1 v1 else k67 b1 v1 sy) else j_C_Reader_takeExports_74_17 rd sy (nI on) (nI place) (nI turn) (l_C_Reader_takeExports_7 rd k39 k67 k121 f) (nI x) b1 v1) := by
          rw [l_C_Reader_takeExports_7, hn, if_neg hnt', if_neg hnle, u1, bd_s, ← pk_sub (show place ≤ n by omega)]
          exact if_neg (nI_m1 (by omega))
        have hM : l_Model_readExports_4 (nI n) j56 j104 (f + 1) mo (nI place) (nI on) = (if nI (n - place) < nI x then j_Model_readExports_49_7 (nI n) (nI place) (nI on) (l_Model_readExports_4 (nI n) j56 j104 f) j56 (nI x) (Mo_s_why mo1 6) else if nI x = 0 then (if nI on = 0 then (if nI place ≤ 0 then j_Model_readExports_49_7 (nI n) (nI place) (nI on) (l_Model_readExports_4 (nI n) j56 j104 f) j56 (nI x) mo1 else j_Model_readExports_49_7 (nI n) (nI place) (nI on) (l_Model_readExports_4 (nI n) j56 j104 f) j56 (nI x) (Mo_s_why mo1 6)) else j_Model_readExports_49_7 (nI n) (nI place) (nI on) (l_Model_readExports_4 (nI n) j56 j104 f) j56 (nI x) (Mo_s_why mo1 6)) else j_Model_readExports_49_7 (nI n) (nI place) (nI on) (l_Model_readExports_4 (nI n) j56 j104 f) j56 (nI x) mo1) := by
          rw [l_Model_readExports_4, if_neg hnle, u2, bd_s, ← pk_sub (show place ≤ n by omega)]
          exact if_neg hw0
        have h6 : j_Model_readExports_49_7 (nI n) (nI place) (nI on) (l_Model_readExports_4 (nI n) j56 j104 f) j56 (nI x) (Mo_s_why mo1 6) = j56 (Mo_s_why mo1 6) := by
          rw [j_Model_readExports_49_7, wz, if_neg (show ¬ (6 : Int32) < 0 by decide)]
        rw [h6] at hM
        rw [hC, hM]
        have hno : (∃ (b' : Cb) (v' : Br) (sy' : Sy) (mo' : Mo) (g : Nat → Int32), Br_byL v' = Br_byL v ∧ (∀ j, j < 40 → g j = Mo_ex mo j) ∧ Fp (Mo_s_ex mo g) mo' ∧ ((k67 b1 v1 sy = k39 b' v' sy' ∧ j56 (Mo_s_why mo1 6) = j56 mo' ∧ Mo_why mo' = 7) ∨ (k67 b1 v1 sy = k67 b' v' sy' ∧ j56 (Mo_s_why mo1 6) = j56 mo' ∧ Mo_why mo' = 6))) := ⟨b1, v1, sy, Mo_s_why mo1 6, Mo_ex mo, t5, fun j _ => rfl, Fp.trans (Fp.of t4) (Fp_w mo1 6), Or.inr ⟨rfl, rfl, rfl⟩⟩
        by_cases e2 : n - place < x
        · left
          rw [if_pos (nI_lt e2 (by omega)), if_pos (nI_lt e2 (by omega))]
          exact hno
        rw [if_neg (nI_nlt (by omega) (by omega)), if_neg (nI_nlt (by omega) (by omega))]
        by_cases e3 : x = 0 ∧ 0 < turn
        · obtain ⟨e3, e4⟩ := e3
          subst e3
          left
          rw [if_pos (show nI 0 = 0 from rfl), if_pos (show nI 0 = 0 from rfl), if_neg (nI_nle e4 (by omega))]
          rcases h4 e4 with e5 | e5
          · subst e5
            rw [if_neg (show ¬ nI 1 = 0 by decide)]
            exact hno
          · rw [if_neg (nI_nle e5 (by omega)), ite_self]
            exact hno
        · have hgo : (if nI x = 0 then (if nI turn ≤ 0 then j_C_Reader_takeExports_74_17 rd sy (nI on) (nI place) (nI turn) (l_C_Reader_takeExports_7 rd k39 k67 k121 f) (nI x) b1 v1 else k67 b1 v1 sy) else j_C_Reader_takeExports_74_17 rd sy (nI on) (nI place) (nI turn) (l_C_Reader_takeExports_7 rd k39 k67 k121 f) (nI x) b1 v1) = j_C_Reader_takeExports_74_17 rd sy (nI on) (nI place) (nI turn) (l_C_Reader_takeExports_7 rd k39 k67 k121 f) (nI x) b1 v1 := by
            by_cases e5 : x = 0
            · have e6 : turn = 0 := by omega
              subst e6; subst e5
              rw [if_pos (show nI 0 = 0 from rfl), if_pos (show nI 0 ≤ 0 by decide)]
            · rw [if_neg (nI_ne0 (by omega) (by omega))]
          have hgm : (if nI x = 0 then (if nI on = 0 then (if nI place ≤ 0 then j_Model_readExports_49_7 (nI n) (nI place) (nI on) (l_Model_readExports_4 (nI n) j56 j104 f) j56 (nI x) mo1 else j56 (Mo_s_why mo1 6)) else j56 (Mo_s_why mo1 6)) else j_Model_readExports_49_7 (nI n) (nI place) (nI on) (l_Model_readExports_4 (nI n) j56 j104 f) j56 (nI x) mo1) = j_Model_readExports_49_7 (nI n) (nI place) (nI on) (l_Model_readExports_4 (nI n) j56 j104 f) j56 (nI x) mo1 := by
            by_cases e5 : x = 0
            · obtain ⟨e7, e8⟩ := h3 (by omega)
              subst e7; subst e8; subst e5
              rw [if_pos (show nI 0 = 0 from rfl), if_pos (show nI 0 = 0 from rfl), if_pos (show nI 0 ≤ 0 by decide)]
            · rw [if_neg (nI_ne0 (by omega) (by omega))]
          rw [hgo, hgm]
          obtain ⟨gs, p1, p2, p3⟩ := s_ex_l_C (rd := rd) (b := b1) (v := v1) (x2 := nI on) (x4 := nI turn) (pl := place) (l := x) (by omega) x 0 100000 sy (by omega) (by omega)
          obtain ⟨gm, q1, q2, q3⟩ := m_ex_l (n := n) (at_ := place) (l := x) (x3 := nI on) (K := fun mo_15 => lt' (nI place + nI x) <| fun x2_16 => (if nI on = 0 then (l_Model_readExports_4 (nI n) j56 j104 f) mo_15 x2_16 1 else (l_Model_readExports_4 (nI n) j56 j104 f) mo_15 x2_16 0)) (by omega) x place 100000 mo1 (by omega) (by omega)
          have hon2 : on = 0 ∨ on = 1 := by omega
          have hcs : j_C_Reader_takeExports_74_17 rd sy (nI on) (nI place) (nI turn) (l_C_Reader_takeExports_7 rd k39 k67 k121 f) (nI x) b1 v1 = l_C_Reader_takeExports_7 rd k39 k67 k121 f b1 v1 (Sy_s_ex sy gs) (nI (1 - on)) (nI (place + x)) (nI (turn + 1)) := by
            rw [j_C_Reader_takeExports_74_17]
            refine Eq.trans (p1 _) ?_
            rw [lt', nI_add]
            rcases hon2 with rfl | rfl
            · rw [if_pos (show nI 0 = 0 from rfl), lt', nI_1]; rfl
            · rw [if_neg (show ¬ nI 1 = 0 by decide), lt', nI_1]; rfl
          have hms : j_Model_readExports_49_7 (nI n) (nI place) (nI on) (l_Model_readExports_4 (nI n) j56 j104 f) j56 (nI x) mo1 = l_Model_readExports_4 (nI n) j56 j104 f (Mo_s_ex mo1 gm) (nI (place + x)) (nI (1 - on)) := by
            rw [j_Model_readExports_49_7, if_pos hw1]
            refine Eq.trans q1 ?_
            rw [lt', nI_add]
            rcases hon2 with rfl | rfl
            · rw [if_pos (show nI 0 = 0 from rfl)]; rfl
            · rw [if_neg (show ¬ nI 1 = 0 by decide)]; rfl
          rw [hcs, hms]
          have hR2 : RcC b1 v1 (Mo_s_ex mo1 gm) m a1 := t1
          have hE2 : ∀ j, j < place + x → gs j = gm (j + 40) ∧ (gm (j + 40) = 0 ∨ gm (j + 40) = 1) := by
            intro j hj
            by_cases e5 : j < place
            · rw [p3 j (by omega), q3 (j + 40) (by omega), w2]
              exact hE j e5
            · rw [p2 j (by omega) hj, q2 j (by omega) hj]
              exact ⟨rfl, nb01 _⟩
          have hlow : ∀ j, j < 40 → gm j = Mo_ex mo j := fun j hj => by rw [q3 j (by omega), w2]
          rcases ih (place + x) (1 - on) (turn + 1) a1 b1 v1 (Sy_s_ex sy gs) (Mo_s_ex mo1 gm) (by omega) (by omega) (by omega) (by omega) (by omega) (by omega) hR2 (by omega) hn hwy1 hE2 with ⟨b', v', sy', mo', g, z1, z2, z3, z4⟩ | ⟨b', v', h9, g, mo', z1, z2, z3, z4, z5, z6⟩
          · left
            rw [xz1] at z2
            rw [ex_ex] at z3
            exact ⟨b', v', sy', mo', g, z1.trans t5, fun j hj => (z2 j hj).trans (hlow j hj), Fp_ex t4 z3, z4⟩
          · right
            rw [xz1] at z4
            rw [ex_ex] at z5
            exact ⟨b', v', h9, g, mo', z1, z2, z3, fun j hj => (z4 j hj).trans (hlow j hj), Tm_ex t4 z5, z6.trans t5⟩
