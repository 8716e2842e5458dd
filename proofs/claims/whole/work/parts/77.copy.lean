/-! What was read takes the place of what was -/
def Mo_k (mo : Mo) (z_wd : (Nat → Int32)) (z_ht : (Nat → Int32)) (z_rw : (Nat → Int32)) (z_ex : (Nat → Int32)) (z_bs : (Nat → Int32)) (z_dx : (Nat → Int32)) (z_dy : (Nat → Int32)) : Mo := (Mo_code mo, Mo_kind mo, Mo_n mo, z_wd, z_ht, z_rw, z_ex, z_bs, z_dx, z_dy, Mo_pc mo, Mo_od mo, Mo_cl mo, Mo_co mo, Mo_fc mo, Mo_on mo, Mo_ob mo, Mo_out mo, Mo_inn mo, Mo_ia mo, Mo_inp mo, Mo_ch mo, Mo_lo mo, Mo_hi mo, Mo_tk mo, Mo_pl mo, Mo_why mo)
def Cp (mo mo' : Mo) : Prop := ∃ (z_wd : (Nat → Int32)) (z_ht : (Nat → Int32)) (z_rw : (Nat → Int32)) (z_ex : (Nat → Int32)) (z_bs : (Nat → Int32)) (z_dx : (Nat → Int32)) (z_dy : (Nat → Int32)), mo' = Mo_k mo z_wd z_ht z_rw z_ex z_bs z_dx z_dy
theorem Cp.refl (mo : Mo) : Cp mo mo := ⟨Mo_wd mo, Mo_ht mo, Mo_rw mo, Mo_ex mo, Mo_bs mo, Mo_dx mo, Mo_dy mo, rfl⟩
theorem Cp_2 (mo : Mo) (a_wd b_wd : (Nat → Int32)) (a_ht b_ht : (Nat → Int32)) (a_rw b_rw : (Nat → Int32)) (a_ex b_ex : (Nat → Int32)) (a_bs b_bs : (Nat → Int32)) (a_dx b_dx : (Nat → Int32)) (a_dy b_dy : (Nat → Int32)) : Mo_k (Mo_k mo a_wd a_ht a_rw a_ex a_bs a_dx a_dy) b_wd b_ht b_rw b_ex b_bs b_dx b_dy = Mo_k mo b_wd b_ht b_rw b_ex b_bs b_dx b_dy := by
  obtain ⟨m1, m2, m3, m4, m5, m6, m7, m8, m9, m10, m11, m12, m13, m14, m15, m16, m17, m18, m19, m20, m21, m22, m23, m24, m25, m26, m27⟩ := mo
  exact Eq.trans (b := (m1, m2, m3, b_wd, b_ht, b_rw, b_ex, b_bs, b_dx, b_dy, m11, m12, m13, m14, m15, m16, m17, m18, m19, m20, m21, m22, m23, m24, m25, m26, m27)) rfl rfl
theorem Cp.trans {a b c : Mo} (h1 : Cp a b) (h2 : Cp b c) : Cp a c := by
  obtain ⟨a_wd, a_ht, a_rw, a_ex, a_bs, a_dx, a_dy, rfl⟩ := h1
  obtain ⟨b_wd, b_ht, b_rw, b_ex, b_bs, b_dx, b_dy, rfl⟩ := h2
  exact ⟨b_wd, b_ht, b_rw, b_ex, b_bs, b_dx, b_dy, Cp_2 a a_wd b_wd a_ht b_ht a_rw b_rw a_ex b_ex a_bs b_bs a_dx b_dx a_dy b_dy⟩
theorem Cp_7 (mo : Mo) (y_wd : (Nat → Int32)) (y_ht : (Nat → Int32)) (y_ex : (Nat → Int32)) (y_bs : (Nat → Int32)) (y_dx : (Nat → Int32)) (y_dy : (Nat → Int32)) (y_rw : (Nat → Int32)) : Cp mo (Mo_s_rw (Mo_s_dy (Mo_s_dx (Mo_s_bs (Mo_s_ex (Mo_s_ht (Mo_s_wd mo y_wd) y_ht) y_ex) y_bs) y_dx) y_dy) y_rw) := by
  refine ⟨y_wd, y_ht, y_rw, y_ex, y_bs, y_dx, y_dy, ?_⟩
  obtain ⟨m1, m2, m3, m4, m5, m6, m7, m8, m9, m10, m11, m12, m13, m14, m15, m16, m17, m18, m19, m20, m21, m22, m23, m24, m25, m26, m27⟩ := mo
  exact Eq.trans (b := (m1, m2, m3, y_wd, y_ht, y_rw, y_ex, y_bs, y_dx, y_dy, m11, m12, m13, m14, m15, m16, m17, m18, m19, m20, m21, m22, m23, m24, m25, m26, m27)) rfl rfl
theorem cz_wd (mo : Mo) (y_wd : (Nat → Int32)) (y_ht : (Nat → Int32)) (y_ex : (Nat → Int32)) (y_bs : (Nat → Int32)) (y_dx : (Nat → Int32)) (y_dy : (Nat → Int32)) (y_rw : (Nat → Int32)) : Mo_wd (Mo_s_rw (Mo_s_dy (Mo_s_dx (Mo_s_bs (Mo_s_ex (Mo_s_ht (Mo_s_wd mo y_wd) y_ht) y_ex) y_bs) y_dx) y_dy) y_rw) = y_wd := rfl
theorem cz_ht (mo : Mo) (y_wd : (Nat → Int32)) (y_ht : (Nat → Int32)) (y_ex : (Nat → Int32)) (y_bs : (Nat → Int32)) (y_dx : (Nat → Int32)) (y_dy : (Nat → Int32)) (y_rw : (Nat → Int32)) : Mo_ht (Mo_s_rw (Mo_s_dy (Mo_s_dx (Mo_s_bs (Mo_s_ex (Mo_s_ht (Mo_s_wd mo y_wd) y_ht) y_ex) y_bs) y_dx) y_dy) y_rw) = y_ht := rfl
theorem cz_ex (mo : Mo) (y_wd : (Nat → Int32)) (y_ht : (Nat → Int32)) (y_ex : (Nat → Int32)) (y_bs : (Nat → Int32)) (y_dx : (Nat → Int32)) (y_dy : (Nat → Int32)) (y_rw : (Nat → Int32)) : Mo_ex (Mo_s_rw (Mo_s_dy (Mo_s_dx (Mo_s_bs (Mo_s_ex (Mo_s_ht (Mo_s_wd mo y_wd) y_ht) y_ex) y_bs) y_dx) y_dy) y_rw) = y_ex := rfl
theorem cz_bs (mo : Mo) (y_wd : (Nat → Int32)) (y_ht : (Nat → Int32)) (y_ex : (Nat → Int32)) (y_bs : (Nat → Int32)) (y_dx : (Nat → Int32)) (y_dy : (Nat → Int32)) (y_rw : (Nat → Int32)) : Mo_bs (Mo_s_rw (Mo_s_dy (Mo_s_dx (Mo_s_bs (Mo_s_ex (Mo_s_ht (Mo_s_wd mo y_wd) y_ht) y_ex) y_bs) y_dx) y_dy) y_rw) = y_bs := rfl
theorem cz_dx (mo : Mo) (y_wd : (Nat → Int32)) (y_ht : (Nat → Int32)) (y_ex : (Nat → Int32)) (y_bs : (Nat → Int32)) (y_dx : (Nat → Int32)) (y_dy : (Nat → Int32)) (y_rw : (Nat → Int32)) : Mo_dx (Mo_s_rw (Mo_s_dy (Mo_s_dx (Mo_s_bs (Mo_s_ex (Mo_s_ht (Mo_s_wd mo y_wd) y_ht) y_ex) y_bs) y_dx) y_dy) y_rw) = y_dx := rfl
theorem cz_dy (mo : Mo) (y_wd : (Nat → Int32)) (y_ht : (Nat → Int32)) (y_ex : (Nat → Int32)) (y_bs : (Nat → Int32)) (y_dx : (Nat → Int32)) (y_dy : (Nat → Int32)) (y_rw : (Nat → Int32)) : Mo_dy (Mo_s_rw (Mo_s_dy (Mo_s_dx (Mo_s_bs (Mo_s_ex (Mo_s_ht (Mo_s_wd mo y_wd) y_ht) y_ex) y_bs) y_dx) y_dy) y_rw) = y_dy := rfl
theorem cz_rw (mo : Mo) (y_wd : (Nat → Int32)) (y_ht : (Nat → Int32)) (y_ex : (Nat → Int32)) (y_bs : (Nat → Int32)) (y_dx : (Nat → Int32)) (y_dy : (Nat → Int32)) (y_rw : (Nat → Int32)) : Mo_rw (Mo_s_rw (Mo_s_dy (Mo_s_dx (Mo_s_bs (Mo_s_ex (Mo_s_ht (Mo_s_wd mo y_wd) y_ht) y_ex) y_bs) y_dx) y_dy) y_rw) = y_rw := rfl
theorem cz_n (mo : Mo) (y_wd : (Nat → Int32)) (y_ht : (Nat → Int32)) (y_ex : (Nat → Int32)) (y_bs : (Nat → Int32)) (y_dx : (Nat → Int32)) (y_dy : (Nat → Int32)) (y_rw : (Nat → Int32)) : Mo_n (Mo_s_rw (Mo_s_dy (Mo_s_dx (Mo_s_bs (Mo_s_ex (Mo_s_ht (Mo_s_wd mo y_wd) y_ht) y_ex) y_bs) y_dx) y_dy) y_rw) = Mo_n mo := by
  obtain ⟨m1, m2, m3, m4, m5, m6, m7, m8, m9, m10, m11, m12, m13, m14, m15, m16, m17, m18, m19, m20, m21, m22, m23, m24, m25, m26, m27⟩ := mo
  exact Eq.trans (b := m3) rfl rfl
theorem cq_ht (mo : Mo) (y_wd : (Nat → Int32)) : Mo_ht (Mo_s_wd mo y_wd) = Mo_ht mo := by
  obtain ⟨m1, m2, m3, m4, m5, m6, m7, m8, m9, m10, m11, m12, m13, m14, m15, m16, m17, m18, m19, m20, m21, m22, m23, m24, m25, m26, m27⟩ := mo
  exact Eq.trans (b := m5) rfl rfl
theorem cq_ex (mo : Mo) (y_wd : (Nat → Int32)) (y_ht : (Nat → Int32)) : Mo_ex (Mo_s_ht (Mo_s_wd mo y_wd) y_ht) = Mo_ex mo := by
  obtain ⟨m1, m2, m3, m4, m5, m6, m7, m8, m9, m10, m11, m12, m13, m14, m15, m16, m17, m18, m19, m20, m21, m22, m23, m24, m25, m26, m27⟩ := mo
  exact Eq.trans (b := m7) rfl rfl
theorem cq_bs (mo : Mo) (y_wd : (Nat → Int32)) (y_ht : (Nat → Int32)) (y_ex : (Nat → Int32)) : Mo_bs (Mo_s_ex (Mo_s_ht (Mo_s_wd mo y_wd) y_ht) y_ex) = Mo_bs mo := by
  obtain ⟨m1, m2, m3, m4, m5, m6, m7, m8, m9, m10, m11, m12, m13, m14, m15, m16, m17, m18, m19, m20, m21, m22, m23, m24, m25, m26, m27⟩ := mo
  exact Eq.trans (b := m8) rfl rfl
theorem cq_dx (mo : Mo) (y_wd : (Nat → Int32)) (y_ht : (Nat → Int32)) (y_ex : (Nat → Int32)) (y_bs : (Nat → Int32)) : Mo_dx (Mo_s_bs (Mo_s_ex (Mo_s_ht (Mo_s_wd mo y_wd) y_ht) y_ex) y_bs) = Mo_dx mo := by
  obtain ⟨m1, m2, m3, m4, m5, m6, m7, m8, m9, m10, m11, m12, m13, m14, m15, m16, m17, m18, m19, m20, m21, m22, m23, m24, m25, m26, m27⟩ := mo
  exact Eq.trans (b := m9) rfl rfl
theorem cq_dy (mo : Mo) (y_wd : (Nat → Int32)) (y_ht : (Nat → Int32)) (y_ex : (Nat → Int32)) (y_bs : (Nat → Int32)) (y_dx : (Nat → Int32)) : Mo_dy (Mo_s_dx (Mo_s_bs (Mo_s_ex (Mo_s_ht (Mo_s_wd mo y_wd) y_ht) y_ex) y_bs) y_dx) = Mo_dy mo := by
  obtain ⟨m1, m2, m3, m4, m5, m6, m7, m8, m9, m10, m11, m12, m13, m14, m15, m16, m17, m18, m19, m20, m21, m22, m23, m24, m25, m26, m27⟩ := mo
  exact Eq.trans (b := m10) rfl rfl
theorem cq_rw (mo : Mo) (y_wd : (Nat → Int32)) (y_ht : (Nat → Int32)) (y_ex : (Nat → Int32)) (y_bs : (Nat → Int32)) (y_dx : (Nat → Int32)) (y_dy : (Nat → Int32)) : Mo_rw (Mo_s_dy (Mo_s_dx (Mo_s_bs (Mo_s_ex (Mo_s_ht (Mo_s_wd mo y_wd) y_ht) y_ex) y_bs) y_dx) y_dy) = Mo_rw mo := by
  obtain ⟨m1, m2, m3, m4, m5, m6, m7, m8, m9, m10, m11, m12, m13, m14, m15, m16, m17, m18, m19, m20, m21, m22, m23, m24, m25, m26, m27⟩ := mo
  exact Eq.trans (b := m6) rfl rfl
theorem rw_rw (mo : Mo) (f g : Nat → Int32) : Mo_s_rw (Mo_s_rw mo f) g = Mo_s_rw mo g := by
  obtain ⟨m1, m2, m3, m4, m5, m6, m7, m8, m9, m10, m11, m12, m13, m14, m15, m16, m17, m18, m19, m20, m21, m22, m23, m24, m25, m26, m27⟩ := mo
  exact Eq.trans (b := (m1, m2, m3, m4, m5, g, m7, m8, m9, m10, m11, m12, m13, m14, m15, m16, m17, m18, m19, m20, m21, m22, m23, m24, m25, m26, m27)) rfl rfl
theorem rw_z (mo : Mo) (f : Nat → Int32) : Mo_rw (Mo_s_rw mo f) = f := rfl
theorem m_cprow {k : Nat} {K : Mo → Option (Int32 × Mo)} (hk : k < 40) : ∀ (d y m : Nat) (mo : Mo), y + d = 16 → d < m → ∃ f : Nat → Int32, l_Model_read_228 (nI k) (nI (k + 40)) K m mo (nI y) = K (Mo_s_rw mo f) ∧ (∀ z, y ≤ z → z < 16 → f (16 * k + z) = Mo_rw mo (16 * (k + 40) + z)) ∧ ∀ j, (j < 16 * k + y ∨ 16 * k + 16 ≤ j) → f j = Mo_rw mo j := by
  intro d
  induction d with
  | zero =>
    intro y m mo hy hm
    obtain ⟨f, rfl⟩ : ∃ f, m = f + 1 := ⟨m - 1, by omega⟩
    have e : y = 16 := by omega
    subst e
    refine ⟨Mo_rw mo, ?_, fun z a b => by omega, fun j _ => rfl⟩
    rw [l_Model_read_228, if_pos (show (16 : Int32) ≤ nI 16 from nI_le (Nat.le_refl 16) (by decide))]
  | succ d ih =>
    intro y m mo hy hm
    obtain ⟨f, rfl⟩ : ∃ f, m = f + 1 := ⟨m - 1, by omega⟩
    obtain ⟨g, g1, g2, g3⟩ := ih (y + 1) f (Mo_s_rw mo (upd (Mo_rw mo) (16 * k + y) (Mo_rw mo (16 * (k + 40) + y)))) (by omega) (by omega)
    rw [← nI_1 y, rw_rw] at g1
    rw [rw_z] at g2 g3
    refine ⟨g, ?_, fun z a b => ?_, fun j hj => ?_⟩
    · rw [l_Model_read_228, if_neg (show ¬ (16 : Int32) ≤ nI y from nI_ge (b := 16) (by omega) (by decide)), rixM, rixM, gd_in (show 16 * (k + 40) + y < 1280 by omega) (by decide), gd_in (show 16 * k + y < 1280 by omega) (by decide), nI_clamp (show 16 * (k + 40) + y < 2 ^ 31 by omega), nI_clamp (show 16 * k + y < 2 ^ 31 by omega), lt', lt']
      exact g1
    · by_cases e : z = y
      · subst e; rw [g3 _ (by omega)]; exact pk_us
      · rw [g2 z (by omega) b]; exact pk_un (by omega)
    · rw [g3 j (by omega)]; exact pk_un (by omega)
/-- what is copied of symbol j -/
def Cc (mo mo' : Mo) (j : Nat) : Prop := Mo_wd mo' j = Mo_wd mo (j + 40) ∧ Mo_ht mo' j = Mo_ht mo (j + 40) ∧ Mo_ex mo' j = Mo_ex mo (j + 40) ∧ Mo_bs mo' j = Mo_bs mo (j + 40) ∧ Mo_dx mo' j = Mo_dx mo (j + 40) ∧ Mo_dy mo' j = Mo_dy mo (j + 40) ∧ ∀ z, z < 16 → Mo_rw mo' (16 * j + z) = Mo_rw mo (16 * (j + 40) + z)
theorem m_copy {n : Nat} {K : Mo → Option (Int32 × Mo)} {mo0 : Mo} (hn : n ≤ 40) (hx : ∀ j, j < n → Mo_ex mo0 (j + 40) = 0 ∨ Mo_ex mo0 (j + 40) = 1) : ∀ (d k m : Nat) (mo : Mo), k + d = n → d < m → Mo_n mo = nI n → Cp mo0 mo → (∀ j, j < k → Cc mo0 mo j) → Fm 40 mo0 mo n → ∃ mo' : Mo, l_Model_read_140 K m mo (nI k) = K mo' ∧ Mo_n mo' = nI n ∧ Cp mo0 mo' ∧ (∀ j, j < n → Cc mo0 mo' j) := by
  intro d
  induction d with
  | zero =>
    intro k m mo hk hm hN hC hI _
    obtain ⟨f, rfl⟩ : ∃ f, m = f + 1 := ⟨m - 1, by omega⟩
    have e : k = n := by omega
    subst e
    refine ⟨mo, ?_, hN, hC, hI⟩
    rw [l_Model_read_140, hN, if_pos (nI_le (Nat.le_refl k) (by omega))]
  | succ d ih =>
    intro k m mo hk hm hN hC hI hF
    obtain ⟨f, rfl⟩ : ∃ f, m = f + 1 := ⟨m - 1, by omega⟩
    have e40 : (40 : Int32) + nI k = nI (k + 40) := by rw [show (40 : Int32) = nI 40 from rfl, nI_add, Nat.add_comm]
    have ck : (nI k).toNatClampNeg = k := nI_clamp (by omega)
    have cK : (nI (k + 40)).toNatClampNeg = k + 40 := nI_clamp (by omega)
    have hk8 : k < 80 := by omega
    have hK8 : k + 40 < 80 := by omega
    obtain ⟨M, hM⟩ : ∃ z, z = (Mo_s_dy (Mo_s_dx (Mo_s_bs (Mo_s_ex (Mo_s_ht (Mo_s_wd mo (upd (Mo_wd mo) k (Mo_wd mo (k + 40)))) (upd (Mo_ht mo) k (Mo_ht mo (k + 40)))) (upd (Mo_ex mo) k (vp_nar .boolean (Mo_ex mo (k + 40))))) (upd (Mo_bs mo) k (Mo_bs mo (k + 40)))) (upd (Mo_dx mo) k (Mo_dx mo (k + 40)))) (upd (Mo_dy mo) k (Mo_dy mo (k + 40)))) := ⟨_, rfl⟩
    obtain ⟨g, g1, g2, g3⟩ := m_cprow (k := k) (K := fun mo_68 => lt' (nI k + 1) <| fun x2_69 => (l_Model_read_140 K f) mo_68 x2_69) (by omega) 16 0 100000 M (by omega) (by omega)
    have hst : l_Model_read_140 K (f + 1) mo (nI k) = l_Model_read_140 K f (Mo_s_rw M g) (nI k + 1) := by
      rw [l_Model_read_140, hN, if_neg (nI_ge (by omega) (by omega)), e40, lt', gd_in hK8 (by decide), gd_in hk8 (by decide), ck, cK, lt', cq_ht, gd_in hK8 (by decide), gd_in hk8 (by decide), lt', cq_ex, gd_in hK8 (by decide), gd_in hk8 (by decide), lt', cq_bs, gd_in hK8 (by decide), gd_in hk8 (by decide), lt', cq_dx, gd_in hK8 (by decide), gd_in hk8 (by decide), lt', cq_dy, gd_in hK8 (by decide), gd_in hk8 (by decide), lt', ← hM]
      exact g1
    have R0 : Mo_rw M = Mo_rw mo := by subst hM; exact cq_rw mo _ _ _ _ _ _
    rw [R0] at g2 g3
    obtain ⟨N, hN2⟩ : ∃ z, z = Mo_s_rw M g := ⟨_, rfl⟩
    have N1 : Mo_wd N = upd (Mo_wd mo) k (Mo_wd mo (k + 40)) := by subst hN2; subst hM; exact cz_wd mo _ _ _ _ _ _ _
    have N2 : Mo_ht N = upd (Mo_ht mo) k (Mo_ht mo (k + 40)) := by subst hN2; subst hM; exact cz_ht mo _ _ _ _ _ _ _
    have N3 : Mo_ex N = upd (Mo_ex mo) k (vp_nar .boolean (Mo_ex mo (k + 40))) := by subst hN2; subst hM; exact cz_ex mo _ _ _ _ _ _ _
    have N4 : Mo_bs N = upd (Mo_bs mo) k (Mo_bs mo (k + 40)) := by subst hN2; subst hM; exact cz_bs mo _ _ _ _ _ _ _
    have N5 : Mo_dx N = upd (Mo_dx mo) k (Mo_dx mo (k + 40)) := by subst hN2; subst hM; exact cz_dx mo _ _ _ _ _ _ _
    have N6 : Mo_dy N = upd (Mo_dy mo) k (Mo_dy mo (k + 40)) := by subst hN2; subst hM; exact cz_dy mo _ _ _ _ _ _ _
    have N7 : Mo_rw N = g := by subst hN2; subst hM; exact cz_rw mo _ _ _ _ _ _ _
    have N8 : Mo_n N = nI n := by subst hN2; subst hM; exact (cz_n mo _ _ _ _ _ _ _).trans hN
    have N9 : Cp mo N := by subst hN2; subst hM; exact Cp_7 mo _ _ _ _ _ _ _
    obtain ⟨F1, F2, F3, F4, F5, F6, F7⟩ := hF k (by omega)
    have hnar : vp_nar .boolean (Mo_ex mo (k + 40)) = Mo_ex mo0 (k + 40) := by
      rw [F3]
      rcases hx k (by omega) with e | e
      · rw [e]; exact nb0
      · rw [e]; exact nb1
    have hCc : ∀ j, j < k + 1 → Cc mo0 N j := by
      intro j hj
      unfold Cc
      rw [N1, N2, N3, N4, N5, N6, N7]
      by_cases e : j = k
      · subst e
        rw [pk_us, pk_us, pk_us, pk_us, pk_us, pk_us]
        exact ⟨F1, F2, hnar, F4, F5, F6, fun z hz => (g2 z (Nat.zero_le _) hz).trans (F7 z hz)⟩
      · obtain ⟨c1, c2, c3, c4, c5, c6, c7⟩ := hI j (by omega)
        rw [pk_un e, pk_un e, pk_un e, pk_un e, pk_un e, pk_un e]
        exact ⟨c1, c2, c3, c4, c5, c6, fun z hz => (g3 _ (by omega)).trans (c7 z hz)⟩
    have hFm : Fm 40 mo0 N n := by
      intro j hj
      obtain ⟨d1, d2, d3, d4, d5, d6, d7⟩ := hF j hj
      rw [N1, N2, N3, N4, N5, N6, N7]
      have e : j + 40 ≠ k := by omega
      rw [pk_un e, pk_un e, pk_un e, pk_un e, pk_un e, pk_un e]
      exact ⟨d1, d2, d3, d4, d5, d6, fun z hz => (g3 _ (by omega)).trans (d7 z hz)⟩
    obtain ⟨mo', r1, r2, r3, r4⟩ := ih (k + 1) f N (by omega) (by omega) N8 (Cp.trans hC N9) hCc hFm
    rw [← nI_1 k] at r1
    refine ⟨mo', ?_, r2, r3, r4⟩
    rw [hst, ← hN2]
    exact r1
/-- the dictionary that was read is the one that is there -/
theorem Dc_copy {sy : Sy} {mo mo' : Mo} {n : Nat} {wd ht : Nat → Nat} (h : Dc 40 sy mo n wd ht) (hc : ∀ j, j < n → Cc mo mo' j) : Dc 0 sy mo' n wd ht := by
  refine ⟨h.1, fun k hk => ?_⟩
  obtain ⟨c1, c2, c3, c4, c5, c6, c7⟩ := hc k hk
  have q := h.2 k hk
  rw [← c1, ← c2, ← c3, ← c4, ← c5, ← c6] at q
  exact Sv_rows q (fun y _ => rfl) (fun y hy => c7 y hy)
