/-! Classes by likeness -/
def Mo_c (mo : Mo) (z_co : (Nat → Int32)) (z_fc : (Nat → Int32)) : Mo := (Mo_code mo, Mo_kind mo, Mo_n mo, Mo_wd mo, Mo_ht mo, Mo_rw mo, Mo_ex mo, Mo_bs mo, Mo_dx mo, Mo_dy mo, Mo_pc mo, Mo_od mo, Mo_cl mo, z_co, z_fc, Mo_on mo, Mo_ob mo, Mo_out mo, Mo_inn mo, Mo_ia mo, Mo_inp mo, Mo_ch mo, Mo_lo mo, Mo_hi mo, Mo_tk mo, Mo_pl mo, Mo_why mo)
def Cs (mo mo' : Mo) : Prop := ∃ (z_co : (Nat → Int32)) (z_fc : (Nat → Int32)), mo' = Mo_c mo z_co z_fc
theorem Cs.refl (mo : Mo) : Cs mo mo := ⟨Mo_co mo, Mo_fc mo, rfl⟩
theorem Cs_2 (mo : Mo) (a_co b_co : (Nat → Int32)) (a_fc b_fc : (Nat → Int32)) : Mo_c (Mo_c mo a_co a_fc) b_co b_fc = Mo_c mo b_co b_fc := by
  obtain ⟨m1, m2, m3, m4, m5, m6, m7, m8, m9, m10, m11, m12, m13, m14, m15, m16, m17, m18, m19, m20, m21, m22, m23, m24, m25, m26, m27⟩ := mo
  exact Eq.trans (b := (m1, m2, m3, m4, m5, m6, m7, m8, m9, m10, m11, m12, m13, b_co, b_fc, m16, m17, m18, m19, m20, m21, m22, m23, m24, m25, m26, m27)) rfl rfl
theorem Cs.trans {a b c : Mo} (h1 : Cs a b) (h2 : Cs b c) : Cs a c := by
  obtain ⟨a_co, a_fc, rfl⟩ := h1
  obtain ⟨b_co, b_fc, rfl⟩ := h2
  exact ⟨b_co, b_fc, Cs_2 a a_co b_co a_fc b_fc⟩
theorem Cs_1 (mo : Mo) (y_co : (Nat → Int32)) (y_fc : (Nat → Int32)) : Cs mo (Mo_s_fc (Mo_s_co mo y_co) y_fc) := by
  refine ⟨y_co, y_fc, ?_⟩
  obtain ⟨m1, m2, m3, m4, m5, m6, m7, m8, m9, m10, m11, m12, m13, m14, m15, m16, m17, m18, m19, m20, m21, m22, m23, m24, m25, m26, m27⟩ := mo
  exact Eq.trans (b := (m1, m2, m3, m4, m5, m6, m7, m8, m9, m10, m11, m12, m13, y_co, y_fc, m16, m17, m18, m19, m20, m21, m22, m23, m24, m25, m26, m27)) rfl rfl
theorem Cs_o (mo : Mo) (y_co : (Nat → Int32)) : Cs mo (Mo_s_co mo y_co) := by
  refine ⟨y_co, Mo_fc mo, ?_⟩
  obtain ⟨m1, m2, m3, m4, m5, m6, m7, m8, m9, m10, m11, m12, m13, m14, m15, m16, m17, m18, m19, m20, m21, m22, m23, m24, m25, m26, m27⟩ := mo
  exact Eq.trans (b := (m1, m2, m3, m4, m5, m6, m7, m8, m9, m10, m11, m12, m13, y_co, m15, m16, m17, m18, m19, m20, m21, m22, m23, m24, m25, m26, m27)) rfl rfl
def Sy_c (sy : Sy) (z_co z_fc : Nat → Int32) : Sy := (Sy_wd sy, Sy_ht sy, Sy_ex sy, Sy_bs sy, Sy_dx sy, Sy_dy sy, z_co, Sy_n sy, Sy_rw sy, z_fc)
def Ct (sy sy' : Sy) : Prop := ∃ (z_co z_fc : Nat → Int32), sy' = Sy_c sy z_co z_fc
theorem Ct.refl (sy : Sy) : Ct sy sy := ⟨Sy_co sy, Sy_fc sy, rfl⟩
theorem Ct_2 (sy : Sy) (a b c d : Nat → Int32) : Sy_c (Sy_c sy a b) c d = Sy_c sy c d := by
  obtain ⟨s1, s2, s3, s4, s5, s6, s7, s8, s9, s10⟩ := sy
  exact Eq.trans (b := (s1, s2, s3, s4, s5, s6, c, s8, s9, d)) rfl rfl
theorem Ct.trans {a b c : Sy} (h1 : Ct a b) (h2 : Ct b c) : Ct a c := by
  obtain ⟨p, q, rfl⟩ := h1
  obtain ⟨r, s, rfl⟩ := h2
  exact ⟨r, s, Ct_2 a p q r s⟩
theorem Ct_1 (sy : Sy) (f g : Nat → Int32) : Ct sy (Sy_s_co (Sy_s_fc sy f) g) := by
  refine ⟨g, f, ?_⟩
  obtain ⟨s1, s2, s3, s4, s5, s6, s7, s8, s9, s10⟩ := sy
  exact Eq.trans (b := (s1, s2, s3, s4, s5, s6, g, s8, s9, f)) rfl rfl
theorem Ct_0 (sy : Sy) (g : Nat → Int32) : Ct sy (Sy_s_co sy g) := by
  refine ⟨g, Sy_fc sy, ?_⟩
  obtain ⟨s1, s2, s3, s4, s5, s6, s7, s8, s9, s10⟩ := sy
  exact Eq.trans (b := (s1, s2, s3, s4, s5, s6, g, s8, s9, s10)) rfl rfl
theorem Dc_C {sy sy' : Sy} {mo mo' : Mo} {n : Nat} {wd ht : Nat → Nat} (h : Dc 0 sy mo n wd ht) (h1 : Ct sy sy') (h2 : Cs mo mo') : Dc 0 sy' mo' n wd ht := by
  obtain ⟨a, b, rfl⟩ := h1
  obtain ⟨c, d, rfl⟩ := h2
  exact h
theorem Cs_n {mo mo' : Mo} (h : Cs mo mo') : Mo_n mo' = Mo_n mo := by obtain ⟨a, b, rfl⟩ := h; rfl
theorem Ct_n {sy sy' : Sy} (h : Ct sy sy') : Sy_n sy' = Sy_n sy := by obtain ⟨a, b, rfl⟩ := h; rfl
theorem cz1 (mo : Mo) (f g : Nat → Int32) : Mo_co (Mo_s_fc (Mo_s_co mo f) g) = f := rfl
theorem cz2 (mo : Mo) (f g : Nat → Int32) : Mo_fc (Mo_s_fc (Mo_s_co mo f) g) = g := rfl
theorem cz3 (mo : Mo) (f : Nat → Int32) : Mo_co (Mo_s_co mo f) = f := rfl
theorem cz4 (mo : Mo) (f : Nat → Int32) : Mo_fc (Mo_s_co mo f) = Mo_fc mo := rfl
theorem fit {sy : Sy} {mo : Mo} {n : Nat} {wd ht : Nat → Nat} {k made : Nat} {x1 : Int32} {g : Nat → Nat} {K : Int32 → Option (Int32 × Mo)} (hD : Dc 0 sy mo n wd ht) (hk : k < n) (hm : made ≤ 40) (hg : ∀ c, c < made → g c < n ∧ Sy_fc sy c = nI (g c) ∧ Mo_fc mo c = nI (g c)) : ∀ (m i : Nat), i ≤ made → made - i < m → ∃ c : Nat, c ≤ made ∧ l_Symbols_firstFitting_3 sy (nI k) x1 (nI made) (fun x4_9 => some x4_9) (fun _ => some (nI made)) m (nI i) = some (nI c) ∧ l_Model_classes_33 mo x1 (nI made) (nI k) K m (nI i) = K (nI c) := by
  have h40 := hD.1
  intro m
  induction m with
  | zero => intro i _ h2; omega
  | succ m ih =>
    intro i h1 h2
    rw [l_Symbols_firstFitting_3, l_Model_classes_33]
    by_cases e : i = made
    · subst e
      rw [if_pos (nI_le (Nat.le_refl i) (by omega)), if_pos (nI_le (Nat.le_refl i) (by omega))]
      exact ⟨i, Nat.le_refl i, rfl, rfl⟩
    · have ci : (nI i).toNatClampNeg = i := nI_clamp (by omega)
      have hnle : ¬ nI made ≤ nI i := nI_ge (by omega) (by omega)
      have i4 : i < 40 := by omega
      obtain ⟨g1, g2, g3⟩ := hg i (by omega)
      obtain ⟨d, hd, d1, d2⟩ := diff_of hD g1 hk
      obtain ⟨c, c1, c2, c3⟩ := ih (i + 1) (by omega) (by omega)
      rw [← nI_1 i] at c2 c3
      rw [if_neg hnle, if_neg hnle, gd_in i4 (by decide), gd_in i4 (by decide), gd_in i4 (by decide), ci, g2, g3, d1, d2, bd_s, bd_s, bd_s]
      rcases hd with hd | ⟨a, ha, hd⟩
      · subst hd
        refine ⟨c, c1, ?_, ?_⟩
        · rw [if_pos rfl]; exact c2
        · rw [if_pos (show (-1 : Int32) < 0 by decide)]; exact c3
      · subst hd
        have n1 : ¬ nI a = -1 := nI_m1 (by omega)
        have n2 : ¬ nI a < 0 := nI_pos (by omega)
        rw [if_neg n1, if_neg n2]
        by_cases e5 : x1 < nI a
        · refine ⟨c, c1, ?_, ?_⟩
          · rw [if_pos e5]; exact c2
          · rw [if_neg (lt_nle e5)]; exact c3
        · exact ⟨i, by omega, by rw [if_neg e5], by rw [if_pos (nlt_le e5)]⟩
theorem cls_l {n : Nat} {wd ht : Nat → Nat} {x1 : Int32} {K1 : Sy → Int32 → Option (Int32 × Sy)} {K2 : Mo → Int32 → Option (Int32 × Mo)} : ∀ (m k made : Nat) (sy : Sy) (mo : Mo) (g : Nat → Nat), Dc 0 sy mo n wd ht → Sy_n sy = nI n → Mo_n mo = nI n → made ≤ k → k ≤ n → n - k < m → (∀ c, c < made → g c < n ∧ Sy_fc sy c = nI (g c) ∧ Mo_fc mo c = nI (g c)) → (∀ j, j < k → Sy_co sy j = Mo_co mo j) →
    ∃ (r : Nat) (sy' : Sy) (mo' : Mo), l_Symbols_classify_4 x1 K1 m sy (nI made) (nI k) = K1 sy' (nI r) ∧ l_Model_classes_22 x1 K2 m mo (nI made) (nI k) = K2 mo' (nI r) ∧ Ct sy sy' ∧ Cs mo mo' ∧ ∀ j, j < n → Sy_co sy' j = Mo_co mo' j := by
  intro m
  induction m with
  | zero => intro k made sy mo g _ _ _ _ _ h2; omega
  | succ m ih =>
    intro k made sy mo g hD hn hm h1 h2 h3 hg hco
    have h40 := hD.1
    rw [l_Symbols_classify_4, l_Model_classes_22, hn, hm]
    by_cases e : k = n
    · subst e
      rw [if_pos (nI_le (Nat.le_refl k) (by omega)), if_pos (nI_le (Nat.le_refl k) (by omega))]
      exact ⟨made, sy, mo, rfl, rfl, Ct.refl sy, Cs.refl mo, hco⟩
    · have hnle : ¬ nI n ≤ nI k := nI_ge (by omega) (by omega)
      have k4 : k < 40 := by omega
      have ck : (nI k).toNatClampNeg = k := nI_clamp (by omega)
      have cm : (nI made).toNatClampNeg = made := nI_clamp (by omega)
      rw [if_neg hnle, if_neg hnle]
      obtain ⟨c, c1, c2, c3⟩ := fit (x1 := x1) (K := fun x4_19 => gd (inb (nI k) 40) <| lt' (Mo_s_co mo (upd (Mo_co mo) (nI k).toNatClampNeg x4_19)) <| fun mo_21 => (if x4_19 = nI made then gd (inb x4_19 40) <| lt' (Mo_s_fc mo_21 (upd (Mo_fc mo_21) x4_19.toNatClampNeg (nI k))) <| fun mo_26 => lt' (nI made + 1) <| fun x2_28 => lt' (nI k + 1) <| fun x3_29 => (l_Model_classes_22 x1 K2 m) mo_26 x2_28 x3_29 else lt' (nI k + 1) <| fun x3_24 => (l_Model_classes_22 x1 K2 m) mo_21 (nI made) x3_24)) hD (show k < n by omega) (show made ≤ 40 by omega) hg 100000 0 (Nat.zero_le _) (by omega)
      rw [show nI 0 = 0 from rfl] at c2 c3
      rw [f_Symbols_firstFitting, c2, bd_s, c3]
      have cc : (nI c).toNatClampNeg = c := nI_clamp (by omega)
      have hcok : ∀ j, j < k + 1 → upd (Sy_co sy) k (nI c) j = upd (Mo_co mo) k (nI c) j := fun j hj => by
        by_cases e6 : j = k
        · subst e6; rw [pk_us, pk_us]
        · rw [pk_un e6, pk_un e6]; exact hco j (by omega)
      by_cases e5 : c = made
      · subst e5
        have hnew : ∀ c', c' < c + 1 → (if c' = c then k else g c') < n ∧ upd (Sy_fc sy) c (nI k) c' = nI (if c' = c then k else g c') ∧ upd (Mo_fc mo) c (nI k) c' = nI (if c' = c then k else g c') := by
          intro c' hc'
          by_cases e6 : c' = c
          · subst e6
            rw [pk_us, pk_us, if_pos rfl]
            exact ⟨by omega, rfl, rfl⟩
          · rw [pk_un e6, pk_un e6, if_neg e6]
            exact hg c' (by omega)
        obtain ⟨sy1, hs1⟩ : ∃ z, z = Sy_s_co (Sy_s_fc sy (upd (Sy_fc sy) c (nI k))) (upd (Sy_co sy) k (nI c)) := ⟨_, rfl⟩
        obtain ⟨mo1, hm1⟩ : ∃ z, z = Mo_s_fc (Mo_s_co mo (upd (Mo_co mo) k (nI c))) (upd (Mo_fc mo) c (nI k)) := ⟨_, rfl⟩
        have hct : Ct sy sy1 := by rw [hs1]; exact Ct_1 sy _ _
        have hcs : Cs mo mo1 := by rw [hm1]; exact Cs_1 mo _ _
        have f1 : Mo_co mo1 = upd (Mo_co mo) k (nI c) := by subst hm1; exact cz1 mo _ _
        have f2 : Mo_fc mo1 = upd (Mo_fc mo) c (nI k) := by subst hm1; exact cz2 mo _ _
        have f3 : Sy_co sy1 = upd (Sy_co sy) k (nI c) := by rw [hs1]
        have f4 : Sy_fc sy1 = upd (Sy_fc sy) c (nI k) := by rw [hs1]
        obtain ⟨r, sy', mo', r1, r2, r3, r4, r5⟩ := ih (k + 1) (c + 1) sy1 mo1 (fun z => if z = c then k else g z) (Dc_C hD hct hcs) ((Ct_n hct).trans hn) ((Cs_n hcs).trans hm) (by omega) (by omega) (by omega) (by rw [f2, f4]; exact hnew) (by rw [f1, f3]; exact hcok)
        rw [← nI_1 k, ← nI_1 c] at r1 r2
        refine ⟨r, sy', mo', ?_, ?_, Ct.trans hct r3, Cs.trans hcs r4, r5⟩
        · rw [if_pos rfl]
          simp only [lt', gd_in k4 (by decide : 40 < 2 ^ 31), gd_in (show c < 40 by omega) (by decide : 40 < 2 ^ 31), ck, cc]
          rw [hs1] at r1
          exact r1
        · rw [gd_in k4 (by decide), ck, lt', if_pos rfl, gd_in (show c < 40 by omega) (by decide), cc, lt', lt', lt', cz4, ← hm1]
          exact r2
      · have ne : ¬ nI c = nI made := fun q => e5 ((nI_eq (by omega) (by omega)).mp q)
        obtain ⟨sy1, hs1⟩ : ∃ z, z = Sy_s_co sy (upd (Sy_co sy) k (nI c)) := ⟨_, rfl⟩
        obtain ⟨mo1, hm1⟩ : ∃ z, z = Mo_s_co mo (upd (Mo_co mo) k (nI c)) := ⟨_, rfl⟩
        have hct : Ct sy sy1 := by rw [hs1]; exact Ct_0 sy _
        have hcs : Cs mo mo1 := by rw [hm1]; exact Cs_o mo _
        have f1 : Mo_co mo1 = upd (Mo_co mo) k (nI c) := by subst hm1; exact cz3 mo _
        have f2 : Mo_fc mo1 = Mo_fc mo := by subst hm1; exact cz4 mo _
        have f3 : Sy_co sy1 = upd (Sy_co sy) k (nI c) := by rw [hs1]
        have f4 : Sy_fc sy1 = Sy_fc sy := by rw [hs1]
        obtain ⟨r, sy', mo', r1, r2, r3, r4, r5⟩ := ih (k + 1) made sy1 mo1 g (Dc_C hD hct hcs) ((Ct_n hct).trans hn) ((Cs_n hcs).trans hm) (by omega) (by omega) (by omega) (by rw [f2, f4]; exact hg) (by rw [f1, f3]; exact hcok)
        rw [← nI_1 k] at r1 r2
        refine ⟨r, sy', mo', ?_, ?_, Ct.trans hct r3, Cs.trans hcs r4, r5⟩
        · rw [if_neg ne]
          simp only [lt', gd_in k4 (by decide : 40 < 2 ^ 31), ck]
          rw [hs1] at r1
          exact r1
        · rw [gd_in k4 (by decide), ck, lt', if_neg ne, lt', ← hm1]
          exact r2
theorem Q_classes {kd : Int32} {sd : Sd} {cu : Sy} {w v : Br} {mo : Mo} (h : RlB kd sd cu w v mo) (x1 : Int32) : (∃ (r : Int32) (cu' : Sy) (mo' : Mo), f_SD_classes sd cu x1 = some (r, cu') ∧ f_Model_classes mo x1 = some (r, mo') ∧ Mo_code mo' = 0 ∧ RlB kd sd cu' w v mo') ∨ (e_SD_classes sd cu x1 = some 1 ∧ ∃ (q : Int32) (mo' : Mo), f_Model_classes mo x1 = some (q, mo') ∧ Mo_code mo' = 1 ∧ RlB kd sd cu w v mo') := by
  have h0 := h
  obtain ⟨hk, ⟨n, wd, ht, hn, hm, hD, hC⟩, hO, hI⟩ := h
  have h40 := hD.1
  by_cases e : 0 ≤ x1
  · left
    obtain ⟨r, sy', mo', r1, r2, r3, ⟨f, g, r4⟩, r5⟩ := cls_l (x1 := x1) (K1 := fun sy_18 x2_19 => some (x2_19, sy_18)) (K2 := fun mo_30 x2_31 => lt' (Mo_s_cl mo_30 (Mo_n mo_30)) <| fun mo_32 => some (x2_31, mo_32)) 100000 0 0 cu (Mo_s_code mo 0) (fun _ => 0) hD hn hm (Nat.le_refl 0) (Nat.zero_le n) (by omega) (fun c hc => by omega) (fun j hj => by omega)
    have hN : Mo_n mo' = nI n := by rw [r4]; exact hm
    have hk' : Mo_kind mo' = kd := by rw [r4]; exact hk.2
    have hO' : Ow w mo' := by rw [r4]; exact hO
    have hI' : Iv v mo' := by rw [r4]; exact hI
    have hc' : Mo_code mo' = 0 := by rw [r4]; rfl
    have hD' : Dc 0 sy' mo' n wd ht := Dc_C (mo := Mo_s_code mo 0) hD r3 ⟨f, g, r4⟩
    refine ⟨nI r, sy', Mo_s_cl mo' (Mo_n mo'), ?_, ?_, hc', ⟨hk.1, hk'⟩, ⟨n, wd, ht, (Ct_n r3).trans hn, hN, hD', ⟨n, Nat.le_refl n, hN, fun k hk => ?_⟩⟩, hO', hI'⟩
    · rw [f_SD_classes, if_pos e, f_Symbols_classify]
      refine Eq.trans (congrArg (fun z => bd z _) r1) ?_
      rfl
    · rw [f_Model_classes, if_pos e, j_Model_classes_10_2, rf0, bd_s]
      refine Eq.trans (b := l_Model_classes_22 x1 (fun mo_30 x2_31 => lt' (Mo_s_cl mo_30 (Mo_n mo_30)) <| fun mo_32 => some (x2_31, mo_32)) 100000 (Mo_s_code mo 0) 0 0) rfl ?_
      refine Eq.trans r2 ?_
      rfl
    · show Sy_co sy' k = if k < n then Mo_co mo' k else -1
      rw [if_pos hk, r5 k hk]
  · refine Or.inr ⟨by rw [e_SD_classes, if_neg e], 0, Mo_s_code mo 1, ?_, rfl, h0⟩
    rw [f_Model_classes, if_neg e, j_Model_classes_10_2, rf1, bd_s]
    rfl
