/-! Taking bits -/
def Mo_t (mo : Mo) (z_ia : Int32) (z_ch : (Nat → Int32)) (z_lo : Int64) (z_hi : Int64) (z_tk : Int64) : Mo := (Mo_code mo, Mo_kind mo, Mo_n mo, Mo_wd mo, Mo_ht mo, Mo_rw mo, Mo_ex mo, Mo_bs mo, Mo_dx mo, Mo_dy mo, Mo_pc mo, Mo_od mo, Mo_cl mo, Mo_co mo, Mo_fc mo, Mo_on mo, Mo_ob mo, Mo_out mo, Mo_inn mo, z_ia, Mo_inp mo, z_ch, z_lo, z_hi, z_tk, Mo_pl mo, Mo_why mo)
def Tm (mo mo' : Mo) : Prop := ∃ (z_ia : Int32) (z_ch : (Nat → Int32)) (z_lo : Int64) (z_hi : Int64) (z_tk : Int64), mo' = Mo_t mo z_ia z_ch z_lo z_hi z_tk
theorem Tm.refl (mo : Mo) : Tm mo mo := ⟨Mo_ia mo, Mo_ch mo, Mo_lo mo, Mo_hi mo, Mo_tk mo, rfl⟩
theorem Tm_2 (mo : Mo) (a_ia b_ia : Int32) (a_ch b_ch : (Nat → Int32)) (a_lo b_lo : Int64) (a_hi b_hi : Int64) (a_tk b_tk : Int64) : Mo_t (Mo_t mo a_ia a_ch a_lo a_hi a_tk) b_ia b_ch b_lo b_hi b_tk = Mo_t mo b_ia b_ch b_lo b_hi b_tk := by
  obtain ⟨m1, m2, m3, m4, m5, m6, m7, m8, m9, m10, m11, m12, m13, m14, m15, m16, m17, m18, m19, m20, m21, m22, m23, m24, m25, m26, m27⟩ := mo
  exact Eq.trans (b := (m1, m2, m3, m4, m5, m6, m7, m8, m9, m10, m11, m12, m13, m14, m15, m16, m17, m18, m19, b_ia, m21, b_ch, b_lo, b_hi, b_tk, m26, m27)) rfl rfl
theorem Tm.trans {a b c : Mo} (h1 : Tm a b) (h2 : Tm b c) : Tm a c := by
  obtain ⟨a_ia, a_ch, a_lo, a_hi, a_tk, rfl⟩ := h1
  obtain ⟨b_ia, b_ch, b_lo, b_hi, b_tk, rfl⟩ := h2
  exact ⟨b_ia, b_ch, b_lo, b_hi, b_tk, Tm_2 a a_ia b_ia a_ch b_ch a_lo b_lo a_hi b_hi a_tk b_tk⟩
def Mo_f (mo : Mo) (z_pl : (Nat → Int32)) (z_why : Int32) (z_ia : Int32) (z_ch : (Nat → Int32)) (z_lo : Int64) (z_hi : Int64) (z_tk : Int64) : Mo := (Mo_code mo, Mo_kind mo, Mo_n mo, Mo_wd mo, Mo_ht mo, Mo_rw mo, Mo_ex mo, Mo_bs mo, Mo_dx mo, Mo_dy mo, Mo_pc mo, Mo_od mo, Mo_cl mo, Mo_co mo, Mo_fc mo, Mo_on mo, Mo_ob mo, Mo_out mo, Mo_inn mo, z_ia, Mo_inp mo, z_ch, z_lo, z_hi, z_tk, z_pl, z_why)
def Fp (mo mo' : Mo) : Prop := ∃ (z_pl : (Nat → Int32)) (z_why : Int32) (z_ia : Int32) (z_ch : (Nat → Int32)) (z_lo : Int64) (z_hi : Int64) (z_tk : Int64), mo' = Mo_f mo z_pl z_why z_ia z_ch z_lo z_hi z_tk
theorem Fp.refl (mo : Mo) : Fp mo mo := ⟨Mo_pl mo, Mo_why mo, Mo_ia mo, Mo_ch mo, Mo_lo mo, Mo_hi mo, Mo_tk mo, rfl⟩
theorem Fp_2 (mo : Mo) (a_pl b_pl : (Nat → Int32)) (a_why b_why : Int32) (a_ia b_ia : Int32) (a_ch b_ch : (Nat → Int32)) (a_lo b_lo : Int64) (a_hi b_hi : Int64) (a_tk b_tk : Int64) : Mo_f (Mo_f mo a_pl a_why a_ia a_ch a_lo a_hi a_tk) b_pl b_why b_ia b_ch b_lo b_hi b_tk = Mo_f mo b_pl b_why b_ia b_ch b_lo b_hi b_tk := by
  obtain ⟨m1, m2, m3, m4, m5, m6, m7, m8, m9, m10, m11, m12, m13, m14, m15, m16, m17, m18, m19, m20, m21, m22, m23, m24, m25, m26, m27⟩ := mo
  exact Eq.trans (b := (m1, m2, m3, m4, m5, m6, m7, m8, m9, m10, m11, m12, m13, m14, m15, m16, m17, m18, m19, b_ia, m21, b_ch, b_lo, b_hi, b_tk, b_pl, b_why)) rfl rfl
theorem Fp.trans {a b c : Mo} (h1 : Fp a b) (h2 : Fp b c) : Fp a c := by
  obtain ⟨a_pl, a_why, a_ia, a_ch, a_lo, a_hi, a_tk, rfl⟩ := h1
  obtain ⟨b_pl, b_why, b_ia, b_ch, b_lo, b_hi, b_tk, rfl⟩ := h2
  exact ⟨b_pl, b_why, b_ia, b_ch, b_lo, b_hi, b_tk, Fp_2 a a_pl b_pl a_why b_why a_ia b_ia a_ch b_ch a_lo b_lo a_hi b_hi a_tk b_tk⟩
theorem ta_kind (mo : Mo) (y_ia : Int32) (y_ch : (Nat → Int32)) : Mo_kind (Mo_s_ch (Mo_s_ia mo y_ia) y_ch) = Mo_kind mo := by
  obtain ⟨m1, m2, m3, m4, m5, m6, m7, m8, m9, m10, m11, m12, m13, m14, m15, m16, m17, m18, m19, m20, m21, m22, m23, m24, m25, m26, m27⟩ := mo
  exact Eq.trans (b := m2) rfl rfl
theorem ta_inn (mo : Mo) (y_ia : Int32) (y_ch : (Nat → Int32)) : Mo_inn (Mo_s_ch (Mo_s_ia mo y_ia) y_ch) = Mo_inn mo := by
  obtain ⟨m1, m2, m3, m4, m5, m6, m7, m8, m9, m10, m11, m12, m13, m14, m15, m16, m17, m18, m19, m20, m21, m22, m23, m24, m25, m26, m27⟩ := mo
  exact Eq.trans (b := m19) rfl rfl
theorem ta_inp (mo : Mo) (y_ia : Int32) (y_ch : (Nat → Int32)) : Mo_inp (Mo_s_ch (Mo_s_ia mo y_ia) y_ch) = Mo_inp mo := by
  obtain ⟨m1, m2, m3, m4, m5, m6, m7, m8, m9, m10, m11, m12, m13, m14, m15, m16, m17, m18, m19, m20, m21, m22, m23, m24, m25, m26, m27⟩ := mo
  exact Eq.trans (b := m21) rfl rfl
theorem ta_ia (mo : Mo) (y_ia : Int32) (y_ch : (Nat → Int32)) : Mo_ia (Mo_s_ch (Mo_s_ia mo y_ia) y_ch) = y_ia := rfl
theorem tb_kind (mo : Mo) (y_lo : Int64) (y_hi : Int64) : Mo_kind (Mo_s_hi (Mo_s_lo mo y_lo) y_hi) = Mo_kind mo := by
  obtain ⟨m1, m2, m3, m4, m5, m6, m7, m8, m9, m10, m11, m12, m13, m14, m15, m16, m17, m18, m19, m20, m21, m22, m23, m24, m25, m26, m27⟩ := mo
  exact Eq.trans (b := m2) rfl rfl
theorem tb_inn (mo : Mo) (y_lo : Int64) (y_hi : Int64) : Mo_inn (Mo_s_hi (Mo_s_lo mo y_lo) y_hi) = Mo_inn mo := by
  obtain ⟨m1, m2, m3, m4, m5, m6, m7, m8, m9, m10, m11, m12, m13, m14, m15, m16, m17, m18, m19, m20, m21, m22, m23, m24, m25, m26, m27⟩ := mo
  exact Eq.trans (b := m19) rfl rfl
theorem tb_inp (mo : Mo) (y_lo : Int64) (y_hi : Int64) : Mo_inp (Mo_s_hi (Mo_s_lo mo y_lo) y_hi) = Mo_inp mo := by
  obtain ⟨m1, m2, m3, m4, m5, m6, m7, m8, m9, m10, m11, m12, m13, m14, m15, m16, m17, m18, m19, m20, m21, m22, m23, m24, m25, m26, m27⟩ := mo
  exact Eq.trans (b := m21) rfl rfl
theorem tb_ia (mo : Mo) (y_lo : Int64) (y_hi : Int64) : Mo_ia (Mo_s_hi (Mo_s_lo mo y_lo) y_hi) = Mo_ia mo := by
  obtain ⟨m1, m2, m3, m4, m5, m6, m7, m8, m9, m10, m11, m12, m13, m14, m15, m16, m17, m18, m19, m20, m21, m22, m23, m24, m25, m26, m27⟩ := mo
  exact Eq.trans (b := m20) rfl rfl
theorem tb_tk (mo : Mo) (y_lo : Int64) (y_hi : Int64) : Mo_tk (Mo_s_hi (Mo_s_lo mo y_lo) y_hi) = Mo_tk mo := by
  obtain ⟨m1, m2, m3, m4, m5, m6, m7, m8, m9, m10, m11, m12, m13, m14, m15, m16, m17, m18, m19, m20, m21, m22, m23, m24, m25, m26, m27⟩ := mo
  exact Eq.trans (b := m25) rfl rfl
theorem tb_ch (mo : Mo) (y_lo : Int64) (y_hi : Int64) : Mo_ch (Mo_s_hi (Mo_s_lo mo y_lo) y_hi) = Mo_ch mo := by
  obtain ⟨m1, m2, m3, m4, m5, m6, m7, m8, m9, m10, m11, m12, m13, m14, m15, m16, m17, m18, m19, m20, m21, m22, m23, m24, m25, m26, m27⟩ := mo
  exact Eq.trans (b := m22) rfl rfl
theorem tb_lo (mo : Mo) (y_lo : Int64) (y_hi : Int64) : Mo_lo (Mo_s_hi (Mo_s_lo mo y_lo) y_hi) = y_lo := rfl
theorem tb_hi (mo : Mo) (y_lo : Int64) (y_hi : Int64) : Mo_hi (Mo_s_hi (Mo_s_lo mo y_lo) y_hi) = y_hi := rfl
theorem td_kind (mo : Mo) (y_ia : Int32) (y_tk : Int64) : Mo_kind (Mo_s_tk (Mo_s_ia mo y_ia) y_tk) = Mo_kind mo := by
  obtain ⟨m1, m2, m3, m4, m5, m6, m7, m8, m9, m10, m11, m12, m13, m14, m15, m16, m17, m18, m19, m20, m21, m22, m23, m24, m25, m26, m27⟩ := mo
  exact Eq.trans (b := m2) rfl rfl
theorem td_inn (mo : Mo) (y_ia : Int32) (y_tk : Int64) : Mo_inn (Mo_s_tk (Mo_s_ia mo y_ia) y_tk) = Mo_inn mo := by
  obtain ⟨m1, m2, m3, m4, m5, m6, m7, m8, m9, m10, m11, m12, m13, m14, m15, m16, m17, m18, m19, m20, m21, m22, m23, m24, m25, m26, m27⟩ := mo
  exact Eq.trans (b := m19) rfl rfl
theorem td_inp (mo : Mo) (y_ia : Int32) (y_tk : Int64) : Mo_inp (Mo_s_tk (Mo_s_ia mo y_ia) y_tk) = Mo_inp mo := by
  obtain ⟨m1, m2, m3, m4, m5, m6, m7, m8, m9, m10, m11, m12, m13, m14, m15, m16, m17, m18, m19, m20, m21, m22, m23, m24, m25, m26, m27⟩ := mo
  exact Eq.trans (b := m21) rfl rfl
theorem td_ia (mo : Mo) (y_ia : Int32) (y_tk : Int64) : Mo_ia (Mo_s_tk (Mo_s_ia mo y_ia) y_tk) = y_ia := rfl
theorem td_tk (mo : Mo) (y_ia : Int32) (y_tk : Int64) : Mo_tk (Mo_s_tk (Mo_s_ia mo y_ia) y_tk) = y_tk := rfl
theorem td_ch (mo : Mo) (y_ia : Int32) (y_tk : Int64) : Mo_ch (Mo_s_tk (Mo_s_ia mo y_ia) y_tk) = Mo_ch mo := by
  obtain ⟨m1, m2, m3, m4, m5, m6, m7, m8, m9, m10, m11, m12, m13, m14, m15, m16, m17, m18, m19, m20, m21, m22, m23, m24, m25, m26, m27⟩ := mo
  exact Eq.trans (b := m22) rfl rfl
theorem td_lo (mo : Mo) (y_ia : Int32) (y_tk : Int64) : Mo_lo (Mo_s_tk (Mo_s_ia mo y_ia) y_tk) = Mo_lo mo := by
  obtain ⟨m1, m2, m3, m4, m5, m6, m7, m8, m9, m10, m11, m12, m13, m14, m15, m16, m17, m18, m19, m20, m21, m22, m23, m24, m25, m26, m27⟩ := mo
  exact Eq.trans (b := m23) rfl rfl
theorem td_hi (mo : Mo) (y_ia : Int32) (y_tk : Int64) : Mo_hi (Mo_s_tk (Mo_s_ia mo y_ia) y_tk) = Mo_hi mo := by
  obtain ⟨m1, m2, m3, m4, m5, m6, m7, m8, m9, m10, m11, m12, m13, m14, m15, m16, m17, m18, m19, m20, m21, m22, m23, m24, m25, m26, m27⟩ := mo
  exact Eq.trans (b := m24) rfl rfl
theorem te_kind (mo : Mo) (y_hi : Int64) (y_lo : Int64) : Mo_kind (Mo_s_lo (Mo_s_hi mo y_hi) y_lo) = Mo_kind mo := by
  obtain ⟨m1, m2, m3, m4, m5, m6, m7, m8, m9, m10, m11, m12, m13, m14, m15, m16, m17, m18, m19, m20, m21, m22, m23, m24, m25, m26, m27⟩ := mo
  exact Eq.trans (b := m2) rfl rfl
theorem te_inn (mo : Mo) (y_hi : Int64) (y_lo : Int64) : Mo_inn (Mo_s_lo (Mo_s_hi mo y_hi) y_lo) = Mo_inn mo := by
  obtain ⟨m1, m2, m3, m4, m5, m6, m7, m8, m9, m10, m11, m12, m13, m14, m15, m16, m17, m18, m19, m20, m21, m22, m23, m24, m25, m26, m27⟩ := mo
  exact Eq.trans (b := m19) rfl rfl
theorem te_inp (mo : Mo) (y_hi : Int64) (y_lo : Int64) : Mo_inp (Mo_s_lo (Mo_s_hi mo y_hi) y_lo) = Mo_inp mo := by
  obtain ⟨m1, m2, m3, m4, m5, m6, m7, m8, m9, m10, m11, m12, m13, m14, m15, m16, m17, m18, m19, m20, m21, m22, m23, m24, m25, m26, m27⟩ := mo
  exact Eq.trans (b := m21) rfl rfl
theorem te_ia (mo : Mo) (y_hi : Int64) (y_lo : Int64) : Mo_ia (Mo_s_lo (Mo_s_hi mo y_hi) y_lo) = Mo_ia mo := by
  obtain ⟨m1, m2, m3, m4, m5, m6, m7, m8, m9, m10, m11, m12, m13, m14, m15, m16, m17, m18, m19, m20, m21, m22, m23, m24, m25, m26, m27⟩ := mo
  exact Eq.trans (b := m20) rfl rfl
theorem te_tk (mo : Mo) (y_hi : Int64) (y_lo : Int64) : Mo_tk (Mo_s_lo (Mo_s_hi mo y_hi) y_lo) = Mo_tk mo := by
  obtain ⟨m1, m2, m3, m4, m5, m6, m7, m8, m9, m10, m11, m12, m13, m14, m15, m16, m17, m18, m19, m20, m21, m22, m23, m24, m25, m26, m27⟩ := mo
  exact Eq.trans (b := m25) rfl rfl
theorem te_ch (mo : Mo) (y_hi : Int64) (y_lo : Int64) : Mo_ch (Mo_s_lo (Mo_s_hi mo y_hi) y_lo) = Mo_ch mo := by
  obtain ⟨m1, m2, m3, m4, m5, m6, m7, m8, m9, m10, m11, m12, m13, m14, m15, m16, m17, m18, m19, m20, m21, m22, m23, m24, m25, m26, m27⟩ := mo
  exact Eq.trans (b := m22) rfl rfl
theorem te_lo (mo : Mo) (y_hi : Int64) (y_lo : Int64) : Mo_lo (Mo_s_lo (Mo_s_hi mo y_hi) y_lo) = y_lo := rfl
theorem te_hi (mo : Mo) (y_hi : Int64) (y_lo : Int64) : Mo_hi (Mo_s_lo (Mo_s_hi mo y_hi) y_lo) = y_hi := rfl
theorem Tm_B (mo : Mo) (y_lo : Int64) (y_hi : Int64) : Tm mo (Mo_s_hi (Mo_s_lo mo y_lo) y_hi) := by
  refine ⟨Mo_ia mo, Mo_ch mo, y_lo, y_hi, Mo_tk mo, ?_⟩
  obtain ⟨m1, m2, m3, m4, m5, m6, m7, m8, m9, m10, m11, m12, m13, m14, m15, m16, m17, m18, m19, m20, m21, m22, m23, m24, m25, m26, m27⟩ := mo
  exact Eq.trans (b := (m1, m2, m3, m4, m5, m6, m7, m8, m9, m10, m11, m12, m13, m14, m15, m16, m17, m18, m19, m20, m21, m22, y_lo, y_hi, m25, m26, m27)) rfl rfl
theorem Tm_D (mo : Mo) (y_ia : Int32) (y_tk : Int64) : Tm mo (Mo_s_tk (Mo_s_ia mo y_ia) y_tk) := by
  refine ⟨y_ia, Mo_ch mo, Mo_lo mo, Mo_hi mo, y_tk, ?_⟩
  obtain ⟨m1, m2, m3, m4, m5, m6, m7, m8, m9, m10, m11, m12, m13, m14, m15, m16, m17, m18, m19, m20, m21, m22, m23, m24, m25, m26, m27⟩ := mo
  exact Eq.trans (b := (m1, m2, m3, m4, m5, m6, m7, m8, m9, m10, m11, m12, m13, m14, m15, m16, m17, m18, m19, y_ia, m21, m22, m23, m24, y_tk, m26, m27)) rfl rfl
theorem Tm_P (mo : Mo) (y_ia : Int32) (y_ch : (Nat → Int32)) : Tm mo (Mo_s_ch (Mo_s_ia mo y_ia) y_ch) := by
  refine ⟨y_ia, y_ch, Mo_lo mo, Mo_hi mo, Mo_tk mo, ?_⟩
  obtain ⟨m1, m2, m3, m4, m5, m6, m7, m8, m9, m10, m11, m12, m13, m14, m15, m16, m17, m18, m19, m20, m21, m22, m23, m24, m25, m26, m27⟩ := mo
  exact Eq.trans (b := (m1, m2, m3, m4, m5, m6, m7, m8, m9, m10, m11, m12, m13, m14, m15, m16, m17, m18, m19, y_ia, m21, y_ch, m23, m24, m25, m26, m27)) rfl rfl
theorem Tm_S (mo : Mo) (y_lo : Int64) (y_hi : Int64) (y_ia : Int32) (y_tk : Int64) : Tm mo (Mo_s_tk (Mo_s_ia (Mo_s_hi (Mo_s_lo mo y_lo) y_hi) y_ia) y_tk) := by
  refine ⟨y_ia, Mo_ch mo, y_lo, y_hi, y_tk, ?_⟩
  obtain ⟨m1, m2, m3, m4, m5, m6, m7, m8, m9, m10, m11, m12, m13, m14, m15, m16, m17, m18, m19, m20, m21, m22, m23, m24, m25, m26, m27⟩ := mo
  exact Eq.trans (b := (m1, m2, m3, m4, m5, m6, m7, m8, m9, m10, m11, m12, m13, m14, m15, m16, m17, m18, m19, y_ia, m21, m22, y_lo, y_hi, y_tk, m26, m27)) rfl rfl
theorem Tm_L (mo : Mo) (y_hi : Int64) (y_lo : Int64) : Tm mo (Mo_s_lo (Mo_s_hi mo y_hi) y_lo) := by
  refine ⟨Mo_ia mo, Mo_ch mo, y_lo, y_hi, Mo_tk mo, ?_⟩
  obtain ⟨m1, m2, m3, m4, m5, m6, m7, m8, m9, m10, m11, m12, m13, m14, m15, m16, m17, m18, m19, m20, m21, m22, m23, m24, m25, m26, m27⟩ := mo
  exact Eq.trans (b := (m1, m2, m3, m4, m5, m6, m7, m8, m9, m10, m11, m12, m13, m14, m15, m16, m17, m18, m19, m20, m21, m22, y_lo, y_hi, m25, m26, m27)) rfl rfl
theorem Tm_C (mo : Mo) (y_ch : (Nat → Int32)) : Tm mo (Mo_s_ch mo y_ch) := by
  refine ⟨Mo_ia mo, y_ch, Mo_lo mo, Mo_hi mo, Mo_tk mo, ?_⟩
  obtain ⟨m1, m2, m3, m4, m5, m6, m7, m8, m9, m10, m11, m12, m13, m14, m15, m16, m17, m18, m19, m20, m21, m22, m23, m24, m25, m26, m27⟩ := mo
  exact Eq.trans (b := (m1, m2, m3, m4, m5, m6, m7, m8, m9, m10, m11, m12, m13, m14, m15, m16, m17, m18, m19, m20, m21, y_ch, m23, m24, m25, m26, m27)) rfl rfl
theorem Fp_w (mo : Mo) (y_why : Int32) : Fp mo (Mo_s_why mo y_why) := by
  refine ⟨Mo_pl mo, y_why, Mo_ia mo, Mo_ch mo, Mo_lo mo, Mo_hi mo, Mo_tk mo, ?_⟩
  obtain ⟨m1, m2, m3, m4, m5, m6, m7, m8, m9, m10, m11, m12, m13, m14, m15, m16, m17, m18, m19, m20, m21, m22, m23, m24, m25, m26, m27⟩ := mo
  exact Eq.trans (b := (m1, m2, m3, m4, m5, m6, m7, m8, m9, m10, m11, m12, m13, m14, m15, m16, m17, m18, m19, m20, m21, m22, m23, m24, m25, m26, y_why)) rfl rfl
theorem Fp_p (mo : Mo) (y_pl : (Nat → Int32)) : Fp mo (Mo_s_pl mo y_pl) := by
  refine ⟨y_pl, Mo_why mo, Mo_ia mo, Mo_ch mo, Mo_lo mo, Mo_hi mo, Mo_tk mo, ?_⟩
  obtain ⟨m1, m2, m3, m4, m5, m6, m7, m8, m9, m10, m11, m12, m13, m14, m15, m16, m17, m18, m19, m20, m21, m22, m23, m24, m25, m26, m27⟩ := mo
  exact Eq.trans (b := (m1, m2, m3, m4, m5, m6, m7, m8, m9, m10, m11, m12, m13, m14, m15, m16, m17, m18, m19, m20, m21, m22, m23, m24, m25, y_pl, m27)) rfl rfl
theorem Fp.of {mo mo' : Mo} (h : Tm mo mo') : Fp mo mo' := by
  obtain ⟨a, b, c, d, e, rfl⟩ := h
  refine ⟨Mo_pl mo, Mo_why mo, a, b, c, d, e, ?_⟩
  obtain ⟨m1, m2, m3, m4, m5, m6, m7, m8, m9, m10, m11, m12, m13, m14, m15, m16, m17, m18, m19, m20, m21, m22, m23, m24, m25, m26, m27⟩ := mo
  exact Eq.trans (b := (m1, m2, m3, m4, m5, m6, m7, m8, m9, m10, m11, m12, m13, m14, m15, m16, m17, m18, m19, a, m21, b, c, d, e, m26, m27)) rfl rfl
theorem Tm_pl {mo mo1 mo2 : Mo} {f : Nat → Int32} (h1 : Tm mo mo1) (h2 : Tm (Mo_s_pl mo1 f) mo2) : Tm (Mo_s_pl mo f) mo2 := by
  obtain ⟨a, b, c, d, e, rfl⟩ := h1
  obtain ⟨a', b', c', d', e', rfl⟩ := h2
  refine ⟨a', b', c', d', e', ?_⟩
  obtain ⟨m1, m2, m3, m4, m5, m6, m7, m8, m9, m10, m11, m12, m13, m14, m15, m16, m17, m18, m19, m20, m21, m22, m23, m24, m25, m26, m27⟩ := mo
  exact Eq.trans (b := (m1, m2, m3, m4, m5, m6, m7, m8, m9, m10, m11, m12, m13, m14, m15, m16, m17, m18, m19, a', m21, b', c', d', e', f, m27)) rfl rfl
theorem Tm_rw {mo mo1 : Mo} {p f : Nat → Int32} (h1 : Tm (Mo_s_pl mo p) mo1) : Tm (Mo_s_rw (Mo_s_pl mo p) f) (Mo_s_rw mo1 f) := by
  obtain ⟨a, b, c, d, e, rfl⟩ := h1
  refine ⟨a, b, c, d, e, ?_⟩
  obtain ⟨m1, m2, m3, m4, m5, m6, m7, m8, m9, m10, m11, m12, m13, m14, m15, m16, m17, m18, m19, m20, m21, m22, m23, m24, m25, m26, m27⟩ := mo
  exact Eq.trans (b := (m1, m2, m3, m4, m5, f, m7, m8, m9, m10, m11, m12, m13, m14, m15, m16, m17, m18, m19, a, m21, b, c, d, e, p, m27)) rfl rfl
/-- one bit of the reference, by its context -/
def mT (mo : Mo) (c : Int32) : Option (Int32 × Mo) := if c = -1 then f_Model_take mo 32768 else bd (f_Model_chanceOf mo c) (fun ch => bd (f_Model_take mo ch) (fun (r, mo1) => bd (f_Model_learn mo1 c r) (fun mo2 => some (r, mo2))))
def Ivm (v : Br) (mo : Mo) (m : Nat) : Prop := m ≤ 3000 ∧ Br_byL v = 3000 ∧ Br_n v = nI m ∧ Mo_inn mo = nI m ∧ ∀ i, i < m → Br_by v i = Mo_inp mo i
def RcP (pb : Pb) (v : Br) (mo : Mo) (m a : Nat) : Prop := ¬ 2 ≤ Mo_kind mo ∧ Ivm v mo m ∧ a < 2 ^ 30 ∧ Mo_ia mo = nI a ∧ ∃ t q : Nat, t ≤ m ∧ q ≤ 8 ∧ Br_tk v = nI t ∧ Pb_hm pb = nI q ∧ ((a + q = 8 * t ∧ (0 < q → Pb_he pb = Br_by v (t - 1))) ∨ (8 * m ≤ a ∧ t = m ∧ (0 < q → Pb_he pb = 0)))
theorem b_and1 (x : Int32) : x &&& 1 = 0 ∨ x &&& 1 = 1 := by
  have e : x &&& 1 = nI (x.toBitVec.toNat % 2 ^ 1) := pk_and x 1 rfl
  rw [e]
  have h : x.toBitVec.toNat % 2 ^ 1 = 0 ∨ x.toBitVec.toNat % 2 ^ 1 = 1 := by omega
  rcases h with h | h
  · exact Or.inl (by rw [h]; rfl)
  · exact Or.inr (by rw [h]; rfl)
theorem zero_shr {i : Nat} (hi : i < 32) : ((0 : Int32) >>> (nI i &&& 31)) &&& 1 = 0 := by
  have := n_bit (x := 0) (i := i) (by decide) hi
  rw [Nat.zero_div] at this
  exact this
theorem tf_lo (mo : Mo) (x : Int64) : Mo_lo (Mo_s_hi mo x) = Mo_lo mo := rfl
theorem bd_p {α β γ : Type} {a : α} {b : β} {F : α → β → Option γ} : bd (some (a, b)) (fun (x, y) => F x y) = F a b := rfl
theorem k8 : (8 : Int32) = nI (7 + 1) := by decide
theorem tkb (he : Int32) (q : Nat) (v : Br) : j_P_PlainBits_takeBit_24_3 (he, nI (q + 1)) v = some ((he >>> (nI q &&& 31)) &&& 1, (he, nI q), v) := by
  have h : Pb_s_hm (he, nI (q + 1)) (Pb_hm (he, nI (q + 1)) - 1) = (he, nI q) := by
    show (he, nI (q + 1) - 1) = (he, nI q)
    rw [nI_pred]
  rw [j_P_PlainBits_takeBit_24_3, h, lt']
theorem mT_P {mo : Mo} {c r : Int32} {mo1 : Mo} (hc : c = -1 ∨ ∃ k : Nat, k < 32 ∧ c = nI k) (he : ∀ x : Int32, f_Model_take mo x = some (r, mo1)) : ∃ ch : Nat → Int32, mT mo c = some (r, Mo_s_ch mo1 ch) := by
  by_cases e : c = -1
  · exact ⟨Mo_ch mo1, by rw [mT, if_pos e, he]⟩
  · rcases hc with h | ⟨k, hk2, rfl⟩
    · exact absurd h e
    · have hch : ∃ x, f_Model_chanceOf mo (nI k) = some x := by
        rw [f_Model_chanceOf, gd_in hk2 (by decide), gd_in hk2 (by decide), gd_in hk2 (by decide)]
        split
        · split
          · exact ⟨_, rfl⟩
          · exact ⟨_, rfl⟩
        · exact ⟨_, rfl⟩
      obtain ⟨x, hx⟩ := hch
      rw [mT, if_neg e, hx, bd_s, he, bd_s]
      show ∃ ch, bd (f_Model_learn mo1 (nI k) r) (fun mo2 => some (r, mo2)) = _
      rw [m_learn _ hk2]
      exact ⟨_, rfl⟩
theorem takeP {pb : Pb} {v : Br} {mo : Mo} {m a : Nat} {c : Int32} (h : RcP pb v mo m a) (ha : a + 4 < 2 ^ 30) (hc : c = -1 ∨ ∃ k : Nat, k < 32 ∧ c = nI k) : ∃ (r : Int32) (b' : Pb) (v' : Br) (mo' : Mo) (a' : Nat), f_P_PlainBits_takeBit pb v c = some (r, b', v') ∧ mT mo c = some (r, mo') ∧ RcP b' v' mo' m a' ∧ (r = 0 ∨ r = 1) ∧ Tm mo mo' ∧ Br_byL v' = Br_byL v ∧ a' ≤ a + 4 ∧ (a < a' ∧ (r = 1 → a < 8 * m)) := by
  obtain ⟨hk, ⟨h3, hL, hn, hi, hin⟩, h30, hia, t, q, ht, hq, htk, hhm, hcase⟩ := h
  have e8 : nI a / 8 = nI (a / 8) := pk_div (d := 8) (by omega) (by decide) (by decide)
  have er : nI a - nI a / 8 * 8 = nI (a % 8) := pk_rem (d := 8) (by omega) (by decide) (by decide)
  have e7 : (7 : Int32) - nI (a % 8) = nI (7 - a % 8) := pk_sub (a := 7) (by omega)
  have hm1 : ∀ x : Int32, f_Model_take mo x = (if nI m ≤ nI (a / 8) then some (0, Mo_s_ia mo (nI (a + 1))) else gd (inb (nI (a / 8)) 3000) (some (((Mo_inp mo (nI (a / 8)).toNatClampNeg) >>> (nI (7 - a % 8) &&& 31)) &&& 1, Mo_s_ia mo (nI (a + 1))))) := by
    intro x
    rw [f_Model_take, if_neg hk, hi, hia, er, e8, e7, nI_1]
    simp only [lt']
  have hin1 : ∀ j, j < m → nI m ≤ nI j → False := fun j h1 h2 => nI_ge h1 (by omega) h2
  have hcl : ∃ (he : Int32) (q1 t1 : Nat), f_P_PlainBits_takeBit pb v c = some ((he >>> (nI q1 &&& 31)) &&& 1, (he, nI q1), Br_s_tk v (nI t1)) ∧ q1 < 8 ∧ t1 ≤ m ∧ ((a / 8 < m ∧ he = Mo_inp mo (a / 8) ∧ q1 = 7 - a % 8 ∧ a + 1 + q1 = 8 * t1 ∧ he = Br_by v (t1 - 1)) ∨ (8 * m ≤ a ∧ he = 0 ∧ t1 = m)) := by
    rw [f_P_PlainBits_takeBit, hhm]
    by_cases e0 : q = 0
    · subst e0
      rw [if_pos (show nI 0 = 0 from rfl), f_ByteRow_next, htk, hn]
      by_cases e1 : t < m
      · have e2 : a = 8 * t := by
          rcases hcase with ⟨c1, -⟩ | ⟨c1, c2, -⟩
          · omega
          · omega
        refine ⟨Br_by v t, 7, t + 1, ?_, by decide, by omega, Or.inl ⟨by omega, ?_, by omega, by omega, by rw [Nat.add_sub_cancel]⟩⟩
        · rw [if_pos (nI_lt e1 (by omega)), gd_in (show t < Br_byL v by omega) (by omega), nI_clamp (show t < 2 ^ 31 by omega), nI_1, lt', lt']
          refine Eq.trans (bd_p (F := fun r_7 v_8 => lt' (Pb_s_he pb r_7) fun pb_9 => lt' (Pb_s_hm pb_9 8) fun pb_11 => j_P_PlainBits_takeBit_24_3 pb_11 v_8)) ?_
          show lt' (Pb_s_he pb (Br_by v t)) (fun pb_9 => lt' (Pb_s_hm pb_9 8) (fun pb_11 => j_P_PlainBits_takeBit_24_3 pb_11 (Br_s_tk v (nI (t + 1))))) = _
          rw [lt', lt', k8]
          exact tkb (Br_by v t) 7 (Br_s_tk v (nI (t + 1)))
        · rw [show a / 8 = t by omega]; exact hin t e1
      · refine ⟨0, 7, m, ?_, by decide, Nat.le_refl m, Or.inr ⟨?_, rfl, rfl⟩⟩
        · rw [if_neg (nI_nlt (by omega) (by omega)), show nI m = Br_tk v by rw [htk]; exact congrArg nI (by omega)]
          refine Eq.trans (bd_p (F := fun r_7 v_8 => lt' (Pb_s_he pb r_7) fun pb_9 => lt' (Pb_s_hm pb_9 8) fun pb_11 => j_P_PlainBits_takeBit_24_3 pb_11 v_8)) ?_
          show lt' (Pb_s_he pb 0) (fun pb_9 => lt' (Pb_s_hm pb_9 8) (fun pb_11 => j_P_PlainBits_takeBit_24_3 pb_11 v)) = _
          rw [lt', lt', k8]
          exact tkb 0 7 v
        · rcases hcase with ⟨c1, -⟩ | ⟨c1, -, -⟩
          · omega
          · exact c1
    · obtain ⟨q1, rfl⟩ : ∃ q1, q = q1 + 1 := ⟨q - 1, by omega⟩
      rw [if_neg (nI_ne0 (by omega) (by omega)), j_P_PlainBits_takeBit_24_3, hhm, nI_pred]
      rcases hcase with ⟨c1, c2⟩ | ⟨c1, c2, c3⟩
      · refine ⟨Pb_he pb, q1, t, ?_, by omega, ht, Or.inl ⟨by omega, ?_, by omega, by omega, c2 (by omega)⟩⟩
        · rw [← htk]; rfl
        · rw [c2 (by omega), show a / 8 = t - 1 by omega]; exact hin _ (by omega)
      · refine ⟨Pb_he pb, q1, t, ?_, by omega, ht, Or.inr ⟨c1, c3 (by omega), c2⟩⟩
        rw [← htk]; rfl
  obtain ⟨he, q1, t1, k1, k2, k3, k4⟩ := hcl
  rcases k4 with ⟨d1, d2, d3, d4, d5⟩ | ⟨d1, d2, d3⟩
  · have hx : ∀ x : Int32, f_Model_take mo x = some ((he >>> (nI q1 &&& 31)) &&& 1, Mo_s_ia mo (nI (a + 1))) := by
      intro x
      rw [hm1 x, if_neg (fun z => hin1 _ d1 z), gd_in (show a / 8 < 3000 by omega) (by decide), nI_clamp (show a / 8 < 2 ^ 31 by omega), ← d2, ← d3]
    obtain ⟨ch, hch⟩ := mT_P hc hx
    obtain ⟨M, hM⟩ : ∃ z, z = Mo_s_ch (Mo_s_ia mo (nI (a + 1))) ch := ⟨_, rfl⟩
    have M1 : Mo_kind M = Mo_kind mo := by subst hM; exact ta_kind mo _ _
    have M2 : Mo_inn M = nI m := by subst hM; exact (ta_inn mo _ _).trans hi
    have M3 : Mo_inp M = Mo_inp mo := by subst hM; exact ta_inp mo _ _
    have M4 : Mo_ia M = nI (a + 1) := by subst hM; exact ta_ia mo _ _
    have M5 : Tm mo M := by subst hM; exact Tm_P mo _ _
    rw [← hM] at hch
    refine ⟨_, _, _, M, a + 1, k1, hch, ⟨by rw [M1]; exact hk, ⟨h3, hL, hn, M2, by rw [M3]; exact hin⟩, by omega, M4, t1, q1, k3, by omega, rfl, rfl, Or.inl ⟨d4, fun _ => d5⟩⟩, b_and1 _, M5, rfl, by omega, by omega, fun _ => by omega⟩
  · subst d2
    have hz := zero_shr (show q1 < 32 by omega)
    have hx : ∀ x : Int32, f_Model_take mo x = some (0, Mo_s_ia mo (nI (a + 1))) := by
      intro x
      rw [hm1 x, if_pos (nI_le (by omega) (by omega))]
    obtain ⟨ch, hch⟩ := mT_P hc hx
    obtain ⟨M, hM⟩ : ∃ z, z = Mo_s_ch (Mo_s_ia mo (nI (a + 1))) ch := ⟨_, rfl⟩
    have M1 : Mo_kind M = Mo_kind mo := by subst hM; exact ta_kind mo _ _
    have M2 : Mo_inn M = nI m := by subst hM; exact (ta_inn mo _ _).trans hi
    have M3 : Mo_inp M = Mo_inp mo := by subst hM; exact ta_inp mo _ _
    have M4 : Mo_ia M = nI (a + 1) := by subst hM; exact ta_ia mo _ _
    have M5 : Tm mo M := by subst hM; exact Tm_P mo _ _
    rw [← hM] at hch
    rw [hz] at k1
    refine ⟨0, _, _, M, a + 1, k1, hch, ⟨by rw [M1]; exact hk, ⟨h3, hL, hn, M2, by rw [M3]; exact hin⟩, by omega, M4, t1, q1, k3, by omega, rfl, rfl, Or.inr ⟨by omega, d3, fun _ => rfl⟩⟩, Or.inl rfl, M5, rfl, by omega, by omega, fun z => absurd z (by decide)⟩
/-- by chance -/
def RcK (cb : Cb) (v : Br) (mo : Mo) (m a : Nat) : Prop := Mo_kind mo = 2 ∧ Ivm v mo m ∧ a < 2 ^ 30 ∧ Mo_ia mo = nI a ∧ (∃ t : Nat, t ≤ m ∧ Br_tk v = nI t ∧ (a = t ∨ (m ≤ a ∧ t = m))) ∧ Cb_cd cb = Mo_tk mo
def RcC (cb : Cb) (v : Br) (mo : Mo) (m a : Nat) : Prop := RcK cb v mo m a ∧ (∃ lo hi : Nat, Cb_lo cb = lN lo ∧ Cb_hi cb = lN hi ∧ Mo_lo mo = lN lo ∧ Mo_hi mo = lN hi ∧ lo / 16777216 < hi / 16777216 ∧ hi < 2 ^ 32) ∧ Chs cb mo
theorem next_of {v : Br} {mo : Mo} {m a t : Nat} (hI : Ivm v mo m) (ha : a < 2 ^ 30) (hia : Mo_ia mo = nI a) (ht : t ≤ m) (htk : Br_tk v = nI t) (hc : a = t ∨ (m ≤ a ∧ t = m)) : ∃ (x : Int32) (t' : Nat), f_ByteRow_next v = some (x, Br_s_tk v (nI t')) ∧ f_Model_inByte mo = some (x, Mo_s_ia mo (nI (a + 1))) ∧ t' ≤ m ∧ (a + 1 = t' ∨ (m ≤ a + 1 ∧ t' = m)) := by
  obtain ⟨h3, hL, hn, hi, hin⟩ := hI
  rw [f_ByteRow_next, f_Model_inByte, htk, hn, hi, hia]
  by_cases e : t < m
  · have e2 : a = t := by omega
    subst e2
    refine ⟨Br_by v a, a + 1, ?_, ?_, by omega, Or.inl rfl⟩
    · rw [if_pos (nI_lt e (by omega)), gd_in (show a < Br_byL v by omega) (by omega), nI_clamp (show a < 2 ^ 31 by omega), nI_1]
      rfl
    · rw [if_neg (nI_ge e (by omega)), gd_in (show a < 3000 by omega) (by decide), nI_clamp (show a < 2 ^ 31 by omega), hin a e, nI_1]
      rfl
  · refine ⟨0, m, ?_, ?_, Nat.le_refl m, Or.inr ⟨by omega, rfl⟩⟩
    · rw [if_neg (nI_nlt (by omega) (by omega)), show nI m = Br_tk v by rw [htk]; exact congrArg nI (by omega)]
    · rw [if_pos (nI_le (by omega) (by omega)), nI_1]
      rfl
/-- four bytes, one up: both sides do the same -/
theorem lk_up (x : Int64) : (x <<< ((8 : Int32).toInt64 &&& 63)) &&& 4294967295 = (x &&& 16777215) <<< ((8 : Int32).toInt64 &&& 63) := by
  have hs : (((8 : Int32).toInt64 &&& 63).toBitVec.smod 64).toNat = 8 := by decide
  apply Int64.toBitVec_inj.mp
  apply BitVec.eq_of_toNat_eq
  rw [Int64.toBitVec_and, BitVec.toNat_and]
  show ((x.toBitVec <<< (((8 : Int32).toInt64 &&& 63).toBitVec.smod 64).toNat).toNat &&& (4294967295 : Int64).toBitVec.toNat) = ((x &&& 16777215).toBitVec <<< (((8 : Int32).toInt64 &&& 63).toBitVec.smod 64).toNat).toNat
  rw [hs, BitVec.toNat_shiftLeft, BitVec.toNat_shiftLeft, Nat.shiftLeft_eq, Nat.shiftLeft_eq, Int64.toBitVec_and, BitVec.toNat_and, show (4294967295 : Int64).toBitVec.toNat = 2 ^ 32 - 1 from rfl, show (16777215 : Int64).toBitVec.toNat = 2 ^ 24 - 1 from rfl, Nat.and_two_pow_sub_one_eq_mod, Nat.and_two_pow_sub_one_eq_mod]
  have := x.toBitVec.isLt
  omega
theorem ctake_4 {x4 : Int32} {K1 : Cb → Br → Option (Int32 × Cb × Br)} {K2 : Mo → Option (Int32 × Mo)} {m a lo hi : Nat} {cb : Cb} {v : Br} {mo : Mo} (m1 m2 : Nat) (h1 : 1 ≤ m1) (h2 : 1 ≤ m2) (hR : RcK cb v mo m a) (ha : a + 0 < 2 ^ 30) (a1 : Cb_lo cb = lN lo) (a2 : Cb_hi cb = lN hi) (a3 : Mo_lo mo = lN lo) (a4 : Mo_hi mo = lN hi) (hle : lo ≤ hi) (hh : hi < 2 ^ 32) (hz : lo % 4294967296 = 0 ∧ hi % 4294967296 = 4294967295) : ∃ (cb' : Cb) (v' : Br) (mo' : Mo) (a' lo' hi' : Nat), l_C_ChanceBits_takeBit_33 x4 K1 m1 cb v (nI 4) = K1 cb' v' ∧ l_Model_take_124 x4 K2 m2 mo = K2 mo' ∧ RcK cb' v' mo' m a' ∧ a' ≤ a + 0 ∧ a ≤ a' ∧ (Cb_lo cb' = lN lo' ∧ Cb_hi cb' = lN hi' ∧ Mo_lo mo' = lN lo' ∧ Mo_hi mo' = lN hi' ∧ lo' / 16777216 < hi' / 16777216 ∧ hi' < 2 ^ 32) ∧ Tm mo mo' ∧ Cb_ch cb' = Cb_ch cb ∧ Mo_ch mo' = Mo_ch mo ∧ Br_byL v' = Br_byL v := by
  obtain ⟨f1, rfl⟩ : ∃ f, m1 = f + 1 := ⟨m1 - 1, by omega⟩
  obtain ⟨f2, rfl⟩ : ∃ f, m2 = f + 1 := ⟨m2 - 1, by omega⟩
  rw [l_C_ChanceBits_takeBit_33, l_Model_take_124, m_shared a3 a4 (by omega) hh, bd_s]
  rw [if_pos (show (4 : Int32) ≤ nI 4 from nI_le (Nat.le_refl 4) (by decide)), if_neg (show ¬ lo / 16777216 = hi / 16777216 by omega), if_pos rfl]
  exact ⟨cb, v, mo, a, lo, hi, rfl, rfl, hR, by omega, Nat.le_refl a, ⟨a1, a2, a3, a4, by omega, hh⟩, Tm.refl mo, rfl, rfl, rfl⟩
theorem ctake_3 {x4 : Int32} {K1 : Cb → Br → Option (Int32 × Cb × Br)} {K2 : Mo → Option (Int32 × Mo)} {m a lo hi : Nat} {cb : Cb} {v : Br} {mo : Mo} (m1 m2 : Nat) (h1 : 2 ≤ m1) (h2 : 2 ≤ m2) (hR : RcK cb v mo m a) (ha : a + 1 < 2 ^ 30) (a1 : Cb_lo cb = lN lo) (a2 : Cb_hi cb = lN hi) (a3 : Mo_lo mo = lN lo) (a4 : Mo_hi mo = lN hi) (hle : lo ≤ hi) (hh : hi < 2 ^ 32) (hz : lo % 16777216 = 0 ∧ hi % 16777216 = 16777215) : ∃ (cb' : Cb) (v' : Br) (mo' : Mo) (a' lo' hi' : Nat), l_C_ChanceBits_takeBit_33 x4 K1 m1 cb v (nI 3) = K1 cb' v' ∧ l_Model_take_124 x4 K2 m2 mo = K2 mo' ∧ RcK cb' v' mo' m a' ∧ a' ≤ a + 1 ∧ a ≤ a' ∧ (Cb_lo cb' = lN lo' ∧ Cb_hi cb' = lN hi' ∧ Mo_lo mo' = lN lo' ∧ Mo_hi mo' = lN hi' ∧ lo' / 16777216 < hi' / 16777216 ∧ hi' < 2 ^ 32) ∧ Tm mo mo' ∧ Cb_ch cb' = Cb_ch cb ∧ Mo_ch mo' = Mo_ch mo ∧ Br_byL v' = Br_byL v := by
  obtain ⟨f1, rfl⟩ : ∃ f, m1 = f + 1 := ⟨m1 - 1, by omega⟩
  obtain ⟨f2, rfl⟩ : ∃ f, m2 = f + 1 := ⟨m2 - 1, by omega⟩
  rw [l_C_ChanceBits_takeBit_33, l_Model_take_124, m_shared a3 a4 (by omega) hh, bd_s]
  rw [if_neg (show ¬ (4 : Int32) ≤ nI 3 from nI_ge (b := 4) (by decide) (by decide)), c_agree a1 a2 (by omega) hh, bd_s]
  by_cases e : lo / 16777216 = hi / 16777216
  · obtain ⟨hk, hI, h30, hia, ⟨t, ht, htk, htc⟩, hcd⟩ := hR
    obtain ⟨P, hP⟩ : ∃ z, z = Mo_s_hi (Mo_s_lo mo (lN (lo % 16777216 * 256))) (lN (hi % 16777216 * 256 + 255)) := ⟨_, rfl⟩
    have P1 : Mo_kind P = 2 := by subst hP; exact (tb_kind mo _ _).trans hk
    have P2 : Mo_inn P = Mo_inn mo := by subst hP; exact tb_inn mo _ _
    have P3 : Mo_inp P = Mo_inp mo := by subst hP; exact tb_inp mo _ _
    have P4 : Mo_ia P = nI a := by subst hP; exact (tb_ia mo _ _).trans hia
    have P5 : Mo_tk P = Mo_tk mo := by subst hP; exact tb_tk mo _ _
    have P6 : Mo_lo P = lN (lo % 16777216 * 256) := by subst hP; exact tb_lo mo _ _
    have P7 : Mo_hi P = lN (hi % 16777216 * 256 + 255) := by subst hP; exact tb_hi mo _ _
    have P8 : Mo_ch P = Mo_ch mo := by subst hP; exact tb_ch mo _ _
    have P9 : Tm mo P := by subst hP; exact Tm_B mo _ _
    have hIP : Ivm v P m := ⟨hI.1, hI.2.1, hI.2.2.1, P2.trans hI.2.2.2.1, by rw [P3]; exact hI.2.2.2.2⟩
    obtain ⟨x, t', n1, n2, n3, n4⟩ := next_of hIP h30 P4 ht htk htc
    obtain ⟨N, hN⟩ : ∃ z, z = Mo_s_tk (Mo_s_ia P (nI (a + 1))) (((Mo_tk P <<< ((8 : Int32).toInt64 &&& 63)) &&& 4294967295) ||| x.toInt64) := ⟨_, rfl⟩
    have N1 : Mo_kind N = 2 := by subst hN; exact (td_kind P _ _).trans P1
    have N2 : Mo_inn N = Mo_inn P := by subst hN; exact td_inn P _ _
    have N3 : Mo_inp N = Mo_inp P := by subst hN; exact td_inp P _ _
    have N4 : Mo_ia N = nI (a + 1) := by subst hN; exact td_ia P _ _
    have N5 : Mo_tk N = ((Mo_tk P <<< ((8 : Int32).toInt64 &&& 63)) &&& 4294967295) ||| x.toInt64 := by subst hN; exact td_tk P _ _
    have N6 : Mo_lo N = lN (lo % 16777216 * 256) := by subst hN; exact (td_lo P _ _).trans P6
    have N7 : Mo_hi N = lN (hi % 16777216 * 256 + 255) := by subst hN; exact (td_hi P _ _).trans P7
    have N8 : Mo_ch N = Mo_ch mo := by subst hN; exact (td_ch P _ _).trans P8
    have N9 : Tm mo N := Tm.trans P9 (by subst hN; exact Tm_D P _ _)
    have hIN : Ivm (Br_s_tk v (nI t')) N m := ⟨hI.1, hI.2.1, hI.2.2.1, N2.trans hIP.2.2.2.1, by rw [N3]; exact hIP.2.2.2.2⟩
    rw [if_pos e, if_neg i10, if_neg i10]
    obtain ⟨cb', v', mo', a', lo', hi', r1, r2, r3, r4, r4', r5, r6, r7, r8, r9⟩ := ctake_4 (x4 := x4) (K1 := K1) (K2 := K2) (m := m) (a := a + 1) (lo := lo % 16777216 * 256) (hi := hi % 16777216 * 256 + 255) (cb := Cb_s_hi (Cb_s_lo (Cb_s_cd cb (((Cb_cd cb &&& 16777215) <<< ((8 : Int32).toInt64 &&& 63)) ||| x.toInt64)) (lN (lo % 16777216 * 256))) (lN (hi % 16777216 * 256 + 255))) (v := Br_s_tk v (nI t')) (mo := N) f1 f2 (by omega) (by omega) ⟨N1, hIN, by omega, N4, ⟨t', n3, rfl, n4⟩, by
      show ((Cb_cd cb &&& 16777215) <<< ((8 : Int32).toInt64 &&& 63)) ||| x.toInt64 = Mo_tk N
      rw [N5, P5, lk_up, hcd]⟩ (by omega) rfl rfl N6 N7 (by omega) (by omega) ⟨by omega, by omega⟩
    refine ⟨cb', v', mo', a', lo', hi', ?_, ?_, r3, by omega, by omega, r5, Tm.trans N9 r6, r7, r8.trans N8, r9⟩
    · rw [n1, bd_s]
      simp only [lt']
      rw [c_shift (cb := Cb_s_cd cb (((Cb_cd cb &&& 16777215) <<< ((8 : Int32).toInt64 &&& 63)) ||| x.toInt64)) a1 a2 (by omega) hh, bd_s]
      exact r1
    · rw [m_shift a3 a4 (by omega) hh, bd_s, ← hP, n2, bd_s]
      show l_Model_take_124 x4 K2 f2 (Mo_s_tk (Mo_s_ia P (nI (a + 1))) (((Mo_tk P <<< ((8 : Int32).toInt64 &&& 63)) &&& 4294967295) ||| x.toInt64)) = _
      rw [← hN]
      exact r2
  · rw [if_neg e, if_pos rfl, if_pos rfl]
    exact ⟨cb, v, mo, a, lo, hi, rfl, rfl, hR, by omega, Nat.le_refl a, ⟨a1, a2, a3, a4, by omega, hh⟩, Tm.refl mo, rfl, rfl, rfl⟩
theorem ctake_2 {x4 : Int32} {K1 : Cb → Br → Option (Int32 × Cb × Br)} {K2 : Mo → Option (Int32 × Mo)} {m a lo hi : Nat} {cb : Cb} {v : Br} {mo : Mo} (m1 m2 : Nat) (h1 : 3 ≤ m1) (h2 : 3 ≤ m2) (hR : RcK cb v mo m a) (ha : a + 2 < 2 ^ 30) (a1 : Cb_lo cb = lN lo) (a2 : Cb_hi cb = lN hi) (a3 : Mo_lo mo = lN lo) (a4 : Mo_hi mo = lN hi) (hle : lo ≤ hi) (hh : hi < 2 ^ 32) (hz : lo % 65536 = 0 ∧ hi % 65536 = 65535) : ∃ (cb' : Cb) (v' : Br) (mo' : Mo) (a' lo' hi' : Nat), l_C_ChanceBits_takeBit_33 x4 K1 m1 cb v (nI 2) = K1 cb' v' ∧ l_Model_take_124 x4 K2 m2 mo = K2 mo' ∧ RcK cb' v' mo' m a' ∧ a' ≤ a + 2 ∧ a ≤ a' ∧ (Cb_lo cb' = lN lo' ∧ Cb_hi cb' = lN hi' ∧ Mo_lo mo' = lN lo' ∧ Mo_hi mo' = lN hi' ∧ lo' / 16777216 < hi' / 16777216 ∧ hi' < 2 ^ 32) ∧ Tm mo mo' ∧ Cb_ch cb' = Cb_ch cb ∧ Mo_ch mo' = Mo_ch mo ∧ Br_byL v' = Br_byL v := by
  obtain ⟨f1, rfl⟩ : ∃ f, m1 = f + 1 := ⟨m1 - 1, by omega⟩
  obtain ⟨f2, rfl⟩ : ∃ f, m2 = f + 1 := ⟨m2 - 1, by omega⟩
  rw [l_C_ChanceBits_takeBit_33, l_Model_take_124, m_shared a3 a4 (by omega) hh, bd_s]
  rw [if_neg (show ¬ (4 : Int32) ≤ nI 2 from nI_ge (b := 4) (by decide) (by decide)), c_agree a1 a2 (by omega) hh, bd_s]
  by_cases e : lo / 16777216 = hi / 16777216
  · obtain ⟨hk, hI, h30, hia, ⟨t, ht, htk, htc⟩, hcd⟩ := hR
    obtain ⟨P, hP⟩ : ∃ z, z = Mo_s_hi (Mo_s_lo mo (lN (lo % 16777216 * 256))) (lN (hi % 16777216 * 256 + 255)) := ⟨_, rfl⟩
    have P1 : Mo_kind P = 2 := by subst hP; exact (tb_kind mo _ _).trans hk
    have P2 : Mo_inn P = Mo_inn mo := by subst hP; exact tb_inn mo _ _
    have P3 : Mo_inp P = Mo_inp mo := by subst hP; exact tb_inp mo _ _
    have P4 : Mo_ia P = nI a := by subst hP; exact (tb_ia mo _ _).trans hia
    have P5 : Mo_tk P = Mo_tk mo := by subst hP; exact tb_tk mo _ _
    have P6 : Mo_lo P = lN (lo % 16777216 * 256) := by subst hP; exact tb_lo mo _ _
    have P7 : Mo_hi P = lN (hi % 16777216 * 256 + 255) := by subst hP; exact tb_hi mo _ _
    have P8 : Mo_ch P = Mo_ch mo := by subst hP; exact tb_ch mo _ _
    have P9 : Tm mo P := by subst hP; exact Tm_B mo _ _
    have hIP : Ivm v P m := ⟨hI.1, hI.2.1, hI.2.2.1, P2.trans hI.2.2.2.1, by rw [P3]; exact hI.2.2.2.2⟩
    obtain ⟨x, t', n1, n2, n3, n4⟩ := next_of hIP h30 P4 ht htk htc
    obtain ⟨N, hN⟩ : ∃ z, z = Mo_s_tk (Mo_s_ia P (nI (a + 1))) (((Mo_tk P <<< ((8 : Int32).toInt64 &&& 63)) &&& 4294967295) ||| x.toInt64) := ⟨_, rfl⟩
    have N1 : Mo_kind N = 2 := by subst hN; exact (td_kind P _ _).trans P1
    have N2 : Mo_inn N = Mo_inn P := by subst hN; exact td_inn P _ _
    have N3 : Mo_inp N = Mo_inp P := by subst hN; exact td_inp P _ _
    have N4 : Mo_ia N = nI (a + 1) := by subst hN; exact td_ia P _ _
    have N5 : Mo_tk N = ((Mo_tk P <<< ((8 : Int32).toInt64 &&& 63)) &&& 4294967295) ||| x.toInt64 := by subst hN; exact td_tk P _ _
    have N6 : Mo_lo N = lN (lo % 16777216 * 256) := by subst hN; exact (td_lo P _ _).trans P6
    have N7 : Mo_hi N = lN (hi % 16777216 * 256 + 255) := by subst hN; exact (td_hi P _ _).trans P7
    have N8 : Mo_ch N = Mo_ch mo := by subst hN; exact (td_ch P _ _).trans P8
    have N9 : Tm mo N := Tm.trans P9 (by subst hN; exact Tm_D P _ _)
    have hIN : Ivm (Br_s_tk v (nI t')) N m := ⟨hI.1, hI.2.1, hI.2.2.1, N2.trans hIP.2.2.2.1, by rw [N3]; exact hIP.2.2.2.2⟩
    rw [if_pos e, if_neg i10, if_neg i10]
    obtain ⟨cb', v', mo', a', lo', hi', r1, r2, r3, r4, r4', r5, r6, r7, r8, r9⟩ := ctake_3 (x4 := x4) (K1 := K1) (K2 := K2) (m := m) (a := a + 1) (lo := lo % 16777216 * 256) (hi := hi % 16777216 * 256 + 255) (cb := Cb_s_hi (Cb_s_lo (Cb_s_cd cb (((Cb_cd cb &&& 16777215) <<< ((8 : Int32).toInt64 &&& 63)) ||| x.toInt64)) (lN (lo % 16777216 * 256))) (lN (hi % 16777216 * 256 + 255))) (v := Br_s_tk v (nI t')) (mo := N) f1 f2 (by omega) (by omega) ⟨N1, hIN, by omega, N4, ⟨t', n3, rfl, n4⟩, by
      show ((Cb_cd cb &&& 16777215) <<< ((8 : Int32).toInt64 &&& 63)) ||| x.toInt64 = Mo_tk N
      rw [N5, P5, lk_up, hcd]⟩ (by omega) rfl rfl N6 N7 (by omega) (by omega) ⟨by omega, by omega⟩
    refine ⟨cb', v', mo', a', lo', hi', ?_, ?_, r3, by omega, by omega, r5, Tm.trans N9 r6, r7, r8.trans N8, r9⟩
    · rw [n1, bd_s]
      simp only [lt']
      rw [c_shift (cb := Cb_s_cd cb (((Cb_cd cb &&& 16777215) <<< ((8 : Int32).toInt64 &&& 63)) ||| x.toInt64)) a1 a2 (by omega) hh, bd_s]
      exact r1
    · rw [m_shift a3 a4 (by omega) hh, bd_s, ← hP, n2, bd_s]
      show l_Model_take_124 x4 K2 f2 (Mo_s_tk (Mo_s_ia P (nI (a + 1))) (((Mo_tk P <<< ((8 : Int32).toInt64 &&& 63)) &&& 4294967295) ||| x.toInt64)) = _
      rw [← hN]
      exact r2
  · rw [if_neg e, if_pos rfl, if_pos rfl]
    exact ⟨cb, v, mo, a, lo, hi, rfl, rfl, hR, by omega, Nat.le_refl a, ⟨a1, a2, a3, a4, by omega, hh⟩, Tm.refl mo, rfl, rfl, rfl⟩
theorem ctake_1 {x4 : Int32} {K1 : Cb → Br → Option (Int32 × Cb × Br)} {K2 : Mo → Option (Int32 × Mo)} {m a lo hi : Nat} {cb : Cb} {v : Br} {mo : Mo} (m1 m2 : Nat) (h1 : 4 ≤ m1) (h2 : 4 ≤ m2) (hR : RcK cb v mo m a) (ha : a + 3 < 2 ^ 30) (a1 : Cb_lo cb = lN lo) (a2 : Cb_hi cb = lN hi) (a3 : Mo_lo mo = lN lo) (a4 : Mo_hi mo = lN hi) (hle : lo ≤ hi) (hh : hi < 2 ^ 32) (hz : lo % 256 = 0 ∧ hi % 256 = 255) : ∃ (cb' : Cb) (v' : Br) (mo' : Mo) (a' lo' hi' : Nat), l_C_ChanceBits_takeBit_33 x4 K1 m1 cb v (nI 1) = K1 cb' v' ∧ l_Model_take_124 x4 K2 m2 mo = K2 mo' ∧ RcK cb' v' mo' m a' ∧ a' ≤ a + 3 ∧ a ≤ a' ∧ (Cb_lo cb' = lN lo' ∧ Cb_hi cb' = lN hi' ∧ Mo_lo mo' = lN lo' ∧ Mo_hi mo' = lN hi' ∧ lo' / 16777216 < hi' / 16777216 ∧ hi' < 2 ^ 32) ∧ Tm mo mo' ∧ Cb_ch cb' = Cb_ch cb ∧ Mo_ch mo' = Mo_ch mo ∧ Br_byL v' = Br_byL v := by
  obtain ⟨f1, rfl⟩ : ∃ f, m1 = f + 1 := ⟨m1 - 1, by omega⟩
  obtain ⟨f2, rfl⟩ : ∃ f, m2 = f + 1 := ⟨m2 - 1, by omega⟩
  rw [l_C_ChanceBits_takeBit_33, l_Model_take_124, m_shared a3 a4 (by omega) hh, bd_s]
  rw [if_neg (show ¬ (4 : Int32) ≤ nI 1 from nI_ge (b := 4) (by decide) (by decide)), c_agree a1 a2 (by omega) hh, bd_s]
  by_cases e : lo / 16777216 = hi / 16777216
  · obtain ⟨hk, hI, h30, hia, ⟨t, ht, htk, htc⟩, hcd⟩ := hR
    obtain ⟨P, hP⟩ : ∃ z, z = Mo_s_hi (Mo_s_lo mo (lN (lo % 16777216 * 256))) (lN (hi % 16777216 * 256 + 255)) := ⟨_, rfl⟩
    have P1 : Mo_kind P = 2 := by subst hP; exact (tb_kind mo _ _).trans hk
    have P2 : Mo_inn P = Mo_inn mo := by subst hP; exact tb_inn mo _ _
    have P3 : Mo_inp P = Mo_inp mo := by subst hP; exact tb_inp mo _ _
    have P4 : Mo_ia P = nI a := by subst hP; exact (tb_ia mo _ _).trans hia
    have P5 : Mo_tk P = Mo_tk mo := by subst hP; exact tb_tk mo _ _
    have P6 : Mo_lo P = lN (lo % 16777216 * 256) := by subst hP; exact tb_lo mo _ _
    have P7 : Mo_hi P = lN (hi % 16777216 * 256 + 255) := by subst hP; exact tb_hi mo _ _
    have P8 : Mo_ch P = Mo_ch mo := by subst hP; exact tb_ch mo _ _
    have P9 : Tm mo P := by subst hP; exact Tm_B mo _ _
    have hIP : Ivm v P m := ⟨hI.1, hI.2.1, hI.2.2.1, P2.trans hI.2.2.2.1, by rw [P3]; exact hI.2.2.2.2⟩
    obtain ⟨x, t', n1, n2, n3, n4⟩ := next_of hIP h30 P4 ht htk htc
    obtain ⟨N, hN⟩ : ∃ z, z = Mo_s_tk (Mo_s_ia P (nI (a + 1))) (((Mo_tk P <<< ((8 : Int32).toInt64 &&& 63)) &&& 4294967295) ||| x.toInt64) := ⟨_, rfl⟩
    have N1 : Mo_kind N = 2 := by subst hN; exact (td_kind P _ _).trans P1
    have N2 : Mo_inn N = Mo_inn P := by subst hN; exact td_inn P _ _
    have N3 : Mo_inp N = Mo_inp P := by subst hN; exact td_inp P _ _
    have N4 : Mo_ia N = nI (a + 1) := by subst hN; exact td_ia P _ _
    have N5 : Mo_tk N = ((Mo_tk P <<< ((8 : Int32).toInt64 &&& 63)) &&& 4294967295) ||| x.toInt64 := by subst hN; exact td_tk P _ _
    have N6 : Mo_lo N = lN (lo % 16777216 * 256) := by subst hN; exact (td_lo P _ _).trans P6
    have N7 : Mo_hi N = lN (hi % 16777216 * 256 + 255) := by subst hN; exact (td_hi P _ _).trans P7
    have N8 : Mo_ch N = Mo_ch mo := by subst hN; exact (td_ch P _ _).trans P8
    have N9 : Tm mo N := Tm.trans P9 (by subst hN; exact Tm_D P _ _)
    have hIN : Ivm (Br_s_tk v (nI t')) N m := ⟨hI.1, hI.2.1, hI.2.2.1, N2.trans hIP.2.2.2.1, by rw [N3]; exact hIP.2.2.2.2⟩
    rw [if_pos e, if_neg i10, if_neg i10]
    obtain ⟨cb', v', mo', a', lo', hi', r1, r2, r3, r4, r4', r5, r6, r7, r8, r9⟩ := ctake_2 (x4 := x4) (K1 := K1) (K2 := K2) (m := m) (a := a + 1) (lo := lo % 16777216 * 256) (hi := hi % 16777216 * 256 + 255) (cb := Cb_s_hi (Cb_s_lo (Cb_s_cd cb (((Cb_cd cb &&& 16777215) <<< ((8 : Int32).toInt64 &&& 63)) ||| x.toInt64)) (lN (lo % 16777216 * 256))) (lN (hi % 16777216 * 256 + 255))) (v := Br_s_tk v (nI t')) (mo := N) f1 f2 (by omega) (by omega) ⟨N1, hIN, by omega, N4, ⟨t', n3, rfl, n4⟩, by
      show ((Cb_cd cb &&& 16777215) <<< ((8 : Int32).toInt64 &&& 63)) ||| x.toInt64 = Mo_tk N
      rw [N5, P5, lk_up, hcd]⟩ (by omega) rfl rfl N6 N7 (by omega) (by omega) ⟨by omega, by omega⟩
    refine ⟨cb', v', mo', a', lo', hi', ?_, ?_, r3, by omega, by omega, r5, Tm.trans N9 r6, r7, r8.trans N8, r9⟩
    · rw [n1, bd_s]
      simp only [lt']
      rw [c_shift (cb := Cb_s_cd cb (((Cb_cd cb &&& 16777215) <<< ((8 : Int32).toInt64 &&& 63)) ||| x.toInt64)) a1 a2 (by omega) hh, bd_s]
      exact r1
    · rw [m_shift a3 a4 (by omega) hh, bd_s, ← hP, n2, bd_s]
      show l_Model_take_124 x4 K2 f2 (Mo_s_tk (Mo_s_ia P (nI (a + 1))) (((Mo_tk P <<< ((8 : Int32).toInt64 &&& 63)) &&& 4294967295) ||| x.toInt64)) = _
      rw [← hN]
      exact r2
  · rw [if_neg e, if_pos rfl, if_pos rfl]
    exact ⟨cb, v, mo, a, lo, hi, rfl, rfl, hR, by omega, Nat.le_refl a, ⟨a1, a2, a3, a4, by omega, hh⟩, Tm.refl mo, rfl, rfl, rfl⟩
theorem ctake_0 {x4 : Int32} {K1 : Cb → Br → Option (Int32 × Cb × Br)} {K2 : Mo → Option (Int32 × Mo)} {m a lo hi : Nat} {cb : Cb} {v : Br} {mo : Mo} (m1 m2 : Nat) (h1 : 5 ≤ m1) (h2 : 5 ≤ m2) (hR : RcK cb v mo m a) (ha : a + 4 < 2 ^ 30) (a1 : Cb_lo cb = lN lo) (a2 : Cb_hi cb = lN hi) (a3 : Mo_lo mo = lN lo) (a4 : Mo_hi mo = lN hi) (hle : lo ≤ hi) (hh : hi < 2 ^ 32) (hz : True) : ∃ (cb' : Cb) (v' : Br) (mo' : Mo) (a' lo' hi' : Nat), l_C_ChanceBits_takeBit_33 x4 K1 m1 cb v (nI 0) = K1 cb' v' ∧ l_Model_take_124 x4 K2 m2 mo = K2 mo' ∧ RcK cb' v' mo' m a' ∧ a' ≤ a + 4 ∧ a ≤ a' ∧ (Cb_lo cb' = lN lo' ∧ Cb_hi cb' = lN hi' ∧ Mo_lo mo' = lN lo' ∧ Mo_hi mo' = lN hi' ∧ lo' / 16777216 < hi' / 16777216 ∧ hi' < 2 ^ 32) ∧ Tm mo mo' ∧ Cb_ch cb' = Cb_ch cb ∧ Mo_ch mo' = Mo_ch mo ∧ Br_byL v' = Br_byL v := by
  obtain ⟨f1, rfl⟩ : ∃ f, m1 = f + 1 := ⟨m1 - 1, by omega⟩
  obtain ⟨f2, rfl⟩ : ∃ f, m2 = f + 1 := ⟨m2 - 1, by omega⟩
  rw [l_C_ChanceBits_takeBit_33, l_Model_take_124, m_shared a3 a4 (by omega) hh, bd_s]
  rw [if_neg (show ¬ (4 : Int32) ≤ nI 0 from nI_ge (b := 4) (by decide) (by decide)), c_agree a1 a2 (by omega) hh, bd_s]
  by_cases e : lo / 16777216 = hi / 16777216
  · obtain ⟨hk, hI, h30, hia, ⟨t, ht, htk, htc⟩, hcd⟩ := hR
    obtain ⟨P, hP⟩ : ∃ z, z = Mo_s_hi (Mo_s_lo mo (lN (lo % 16777216 * 256))) (lN (hi % 16777216 * 256 + 255)) := ⟨_, rfl⟩
    have P1 : Mo_kind P = 2 := by subst hP; exact (tb_kind mo _ _).trans hk
    have P2 : Mo_inn P = Mo_inn mo := by subst hP; exact tb_inn mo _ _
    have P3 : Mo_inp P = Mo_inp mo := by subst hP; exact tb_inp mo _ _
    have P4 : Mo_ia P = nI a := by subst hP; exact (tb_ia mo _ _).trans hia
    have P5 : Mo_tk P = Mo_tk mo := by subst hP; exact tb_tk mo _ _
    have P6 : Mo_lo P = lN (lo % 16777216 * 256) := by subst hP; exact tb_lo mo _ _
    have P7 : Mo_hi P = lN (hi % 16777216 * 256 + 255) := by subst hP; exact tb_hi mo _ _
    have P8 : Mo_ch P = Mo_ch mo := by subst hP; exact tb_ch mo _ _
    have P9 : Tm mo P := by subst hP; exact Tm_B mo _ _
    have hIP : Ivm v P m := ⟨hI.1, hI.2.1, hI.2.2.1, P2.trans hI.2.2.2.1, by rw [P3]; exact hI.2.2.2.2⟩
    obtain ⟨x, t', n1, n2, n3, n4⟩ := next_of hIP h30 P4 ht htk htc
    obtain ⟨N, hN⟩ : ∃ z, z = Mo_s_tk (Mo_s_ia P (nI (a + 1))) (((Mo_tk P <<< ((8 : Int32).toInt64 &&& 63)) &&& 4294967295) ||| x.toInt64) := ⟨_, rfl⟩
    have N1 : Mo_kind N = 2 := by subst hN; exact (td_kind P _ _).trans P1
    have N2 : Mo_inn N = Mo_inn P := by subst hN; exact td_inn P _ _
    have N3 : Mo_inp N = Mo_inp P := by subst hN; exact td_inp P _ _
    have N4 : Mo_ia N = nI (a + 1) := by subst hN; exact td_ia P _ _
    have N5 : Mo_tk N = ((Mo_tk P <<< ((8 : Int32).toInt64 &&& 63)) &&& 4294967295) ||| x.toInt64 := by subst hN; exact td_tk P _ _
    have N6 : Mo_lo N = lN (lo % 16777216 * 256) := by subst hN; exact (td_lo P _ _).trans P6
    have N7 : Mo_hi N = lN (hi % 16777216 * 256 + 255) := by subst hN; exact (td_hi P _ _).trans P7
    have N8 : Mo_ch N = Mo_ch mo := by subst hN; exact (td_ch P _ _).trans P8
    have N9 : Tm mo N := Tm.trans P9 (by subst hN; exact Tm_D P _ _)
    have hIN : Ivm (Br_s_tk v (nI t')) N m := ⟨hI.1, hI.2.1, hI.2.2.1, N2.trans hIP.2.2.2.1, by rw [N3]; exact hIP.2.2.2.2⟩
    rw [if_pos e, if_neg i10, if_neg i10]
    obtain ⟨cb', v', mo', a', lo', hi', r1, r2, r3, r4, r4', r5, r6, r7, r8, r9⟩ := ctake_1 (x4 := x4) (K1 := K1) (K2 := K2) (m := m) (a := a + 1) (lo := lo % 16777216 * 256) (hi := hi % 16777216 * 256 + 255) (cb := Cb_s_hi (Cb_s_lo (Cb_s_cd cb (((Cb_cd cb &&& 16777215) <<< ((8 : Int32).toInt64 &&& 63)) ||| x.toInt64)) (lN (lo % 16777216 * 256))) (lN (hi % 16777216 * 256 + 255))) (v := Br_s_tk v (nI t')) (mo := N) f1 f2 (by omega) (by omega) ⟨N1, hIN, by omega, N4, ⟨t', n3, rfl, n4⟩, by
      show ((Cb_cd cb &&& 16777215) <<< ((8 : Int32).toInt64 &&& 63)) ||| x.toInt64 = Mo_tk N
      rw [N5, P5, lk_up, hcd]⟩ (by omega) rfl rfl N6 N7 (by omega) (by omega) ⟨by omega, by omega⟩
    refine ⟨cb', v', mo', a', lo', hi', ?_, ?_, r3, by omega, by omega, r5, Tm.trans N9 r6, r7, r8.trans N8, r9⟩
    · rw [n1, bd_s]
      simp only [lt']
      rw [c_shift (cb := Cb_s_cd cb (((Cb_cd cb &&& 16777215) <<< ((8 : Int32).toInt64 &&& 63)) ||| x.toInt64)) a1 a2 (by omega) hh, bd_s]
      exact r1
    · rw [m_shift a3 a4 (by omega) hh, bd_s, ← hP, n2, bd_s]
      show l_Model_take_124 x4 K2 f2 (Mo_s_tk (Mo_s_ia P (nI (a + 1))) (((Mo_tk P <<< ((8 : Int32).toInt64 &&& 63)) &&& 4294967295) ||| x.toInt64)) = _
      rw [← hN]
      exact r2
  · rw [if_neg e, if_pos rfl, if_pos rfl]
    exact ⟨cb, v, mo, a, lo, hi, rfl, rfl, hR, by omega, Nat.le_refl a, ⟨a1, a2, a3, a4, by omega, hh⟩, Tm.refl mo, rfl, rfl, rfl⟩
theorem takeC {cb : Cb} {v : Br} {mo : Mo} {m a : Nat} {c : Int32} (h : RcC cb v mo m a) (ha : a + 4 < 2 ^ 30) (hc : c = -1 ∨ ∃ k : Nat, k < 32 ∧ c = nI k) : ∃ (r : Int32) (b' : Cb) (v' : Br) (mo' : Mo) (a' : Nat), f_C_ChanceBits_takeBit cb v c = some (r, b', v') ∧ mT mo c = some (r, mo') ∧ RcC b' v' mo' m a' ∧ (r = 0 ∨ r = 1) ∧ Tm mo mo' ∧ Br_byL v' = Br_byL v ∧ a' ≤ a + 4 ∧ a ≤ a' := by
  obtain ⟨hR, ⟨lo, hi, a1, a2, a3, a4, hlt, hh⟩, hC⟩ := h
  obtain ⟨p, hp2⟩ := chn_of hC hc
  have hpi := chn_in hp2
  have hl2 : lo < hi := by omega
  have hs := spl_in hl2 hpi.1 hpi.2
  obtain ⟨hk, hI, h30, hia, htt, hcd⟩ := id hR
  have hmt : ∀ x : Int32, x = nI p → f_Model_take mo x = (if 0 < lg_cmp (Mo_tk mo) (lN (spl lo hi p)) then j_Model_take_121_10 0 (Mo_s_hi mo (lN hi)) (lN (spl lo hi p) + 1) else j_Model_take_121_10 1 (Mo_s_hi mo (lN (spl lo hi p))) (lN lo)) := by
    intro x hx
    subst hx
    rw [f_Model_take, hk, if_pos (show (2 : Int32) ≤ 2 by decide), m_spl a3 a4 (by omega) hh (by omega), bd_s]
    by_cases e : 0 < lg_cmp (Mo_tk mo) (lN (spl lo hi p))
    · rw [if_pos e, if_pos e, j_Model_take_84_4, if_neg (show ¬ (0 : Int32) = 1 by decide), j_Model_take_101_6, a4, lt', if_neg (show ¬ (0 : Int32) = 1 by decide)]
    · rw [if_neg e, if_neg e, j_Model_take_84_4, if_pos rfl, j_Model_take_101_6, lt', if_pos rfl]
      rw [tf_lo, a3]
  have hemS : ∀ (r : Int32) (mo1 : Mo), f_Model_take mo (nI p) = some (r, mo1) → Mo_ch mo1 = Mo_ch mo → mT mo c = some (r, Mo_s_ch mo1 (lrn (Mo_ch mo) c r)) := by
    intro r mo1 q1 q2
    rcases hp2 with ⟨rfl, rfl⟩ | ⟨k, p0, hk0, rfl, g1, g2, rfl⟩
    · rw [mT, if_pos rfl]
      refine Eq.trans q1 ?_
      rw [lrn, if_pos rfl, ← q2]
    · obtain ⟨p9, p91, p92, p93⟩ := hC k hk0
      have e9 : p9 = p0 := (nI_eq (by omega) (by omega)).mp (p92.symm.trans g2)
      subst e9
      rw [mT, if_neg (nI_m1 (by omega)), m_clp hk0 p91 p93, bd_s, q1, bd_s]
      show bd (f_Model_learn mo1 (nI k) r) (fun mo2 => some (r, mo2)) = _
      rw [m_lrn hk0 rfl, q2, bd_s]
  rw [f_C_ChanceBits_takeBit, c_split a1 a2 (by omega) hh hp2, bd_s, hcd]
  by_cases e : 0 < lg_cmp (Mo_tk mo) (lN (spl lo hi p))
  · rw [if_pos e, j_C_ChanceBits_takeBit_20_3, c_narrow hc, bd_s]
    obtain ⟨L, hL⟩ : ∃ z, z = Mo_s_lo (Mo_s_hi mo (lN hi)) (lN (spl lo hi p) + 1) := ⟨_, rfl⟩
    have L1 : Mo_kind L = 2 := by subst hL; exact (te_kind mo _ _).trans hk
    have L2 : Ivm v L m := ⟨hI.1, hI.2.1, hI.2.2.1, by subst hL; exact (te_inn mo _ _).trans hI.2.2.2.1, by rw [show Mo_inp L = Mo_inp mo by subst hL; exact te_inp mo _ _]; exact hI.2.2.2.2⟩
    have L3 : Mo_ia L = nI a := by subst hL; exact (te_ia mo _ _).trans hia
    have L4 : Mo_tk L = Mo_tk mo := by subst hL; exact te_tk mo _ _
    have L5 : Mo_lo L = lN (spl lo hi p + 1) := by subst hL; exact (te_lo mo _ _).trans (lN_1 _)
    have L6 : Mo_hi L = lN hi := by subst hL; exact te_hi mo _ _
    have L7 : Mo_ch L = Mo_ch mo := by subst hL; exact te_ch mo _ _
    have L8 : Tm mo L := by subst hL; exact Tm_L mo _ _
    obtain ⟨cb', v', mo', a', lo', hi', r1, r2, r3, r4, r4', r5, r6, r7, r8, r9⟩ := ctake_0 (x4 := 0) (K1 := fun cb_16 v_17 => some (0, cb_16, v_17)) (K2 := fun mo_21 => some (0, mo_21)) (m := m) (a := a) (lo := spl lo hi p + 1) (hi := hi) (cb := (lrn (Cb_ch cb) c 0, lN (spl lo hi p) + 1, lN hi, Mo_tk mo)) (v := v) (mo := L) 100000 100000 (by decide) (by decide) ⟨L1, L2, h30, L3, htt, L4.symm⟩ (by omega) (lN_1 _) rfl L5 L6 (by omega) hh trivial
    have hmo : f_Model_take mo (nI p) = some (0, mo') := by
      rw [hmt _ rfl, if_pos e, j_Model_take_121_10, lt', ← hL]
      exact r2
    refine ⟨0, cb', v', _, a', ?_, hemS 0 mo' hmo (r8.trans L7), ⟨?_, ⟨lo', hi', r5⟩, Chs_lrn hC hc r7 rfl⟩, Or.inl rfl, ?_, r9, by omega, r4'⟩
    · rw [if_neg (show ¬ (0 : Int32) = 1 by decide), if_neg (show ¬ (0 : Int32) = 1 by decide), a2, hcd]
      exact r1
    · exact r3
    · exact Tm.trans (Tm.trans L8 r6) (Tm_C _ _)
  · rw [if_neg e, j_C_ChanceBits_takeBit_20_3, c_narrow hc, bd_s]
    obtain ⟨L, hL⟩ : ∃ z, z = Mo_s_lo (Mo_s_hi mo (lN (spl lo hi p))) (lN lo) := ⟨_, rfl⟩
    have L1 : Mo_kind L = 2 := by subst hL; exact (te_kind mo _ _).trans hk
    have L2 : Ivm v L m := ⟨hI.1, hI.2.1, hI.2.2.1, by subst hL; exact (te_inn mo _ _).trans hI.2.2.2.1, by rw [show Mo_inp L = Mo_inp mo by subst hL; exact te_inp mo _ _]; exact hI.2.2.2.2⟩
    have L3 : Mo_ia L = nI a := by subst hL; exact (te_ia mo _ _).trans hia
    have L4 : Mo_tk L = Mo_tk mo := by subst hL; exact te_tk mo _ _
    have L5 : Mo_lo L = lN lo := by subst hL; exact te_lo mo _ _
    have L6 : Mo_hi L = lN (spl lo hi p) := by subst hL; exact te_hi mo _ _
    have L7 : Mo_ch L = Mo_ch mo := by subst hL; exact te_ch mo _ _
    have L8 : Tm mo L := by subst hL; exact Tm_L mo _ _
    obtain ⟨cb', v', mo', a', lo', hi', r1, r2, r3, r4, r4', r5, r6, r7, r8, r9⟩ := ctake_0 (x4 := 1) (K1 := fun cb_16 v_17 => some (1, cb_16, v_17)) (K2 := fun mo_21 => some (1, mo_21)) (m := m) (a := a) (lo := lo) (hi := spl lo hi p) (cb := (lrn (Cb_ch cb) c 1, lN lo, lN (spl lo hi p), Mo_tk mo)) (v := v) (mo := L) 100000 100000 (by decide) (by decide) ⟨L1, L2, h30, L3, htt, L4.symm⟩ (by omega) rfl rfl L5 L6 (by omega) (by omega) trivial
    have hmo : f_Model_take mo (nI p) = some (1, mo') := by
      rw [hmt _ rfl, if_neg e, j_Model_take_121_10, lt', ← hL]
      exact r2
    refine ⟨1, cb', v', _, a', ?_, hemS 1 mo' hmo (r8.trans L7), ⟨?_, ⟨lo', hi', r5⟩, Chs_lrn hC hc r7 rfl⟩, Or.inr rfl, ?_, r9, by omega, r4'⟩
    · rw [if_pos rfl, if_pos rfl, a1, hcd]
      exact r1
    · exact r3
    · exact Tm.trans (Tm.trans L8 r6) (Tm_C _ _)
theorem takeBits_l_P {k m : Nat} {K1 : Pb → Br → Int32 → Option (Int32 × Pb × Br)} {K2 : Mo → Int32 → Option (Int32 × Mo)} (hk : k ≤ 8) : ∀ (f i x a : Nat) (b : Pb) (v : Br) (mo : Mo), RcP b v mo m a → a + 4 * (k - i) < 2 ^ 30 → i ≤ k → k - i < f → x < 2 ^ i → ∃ (x' a' : Nat) (b' : Pb) (v' : Br) (mo' : Mo), l_P_Bits_takeBits_4 (nI k) K1 f b v (nI x) (nI i) = K1 b' v' (nI x') ∧ l_Model_takeBits_4 (nI k) K2 f mo (nI x) (nI i) = K2 mo' (nI x') ∧ RcP b' v' mo' m a' ∧ x' < 2 ^ k ∧ a ≤ a' ∧ a' ≤ a + 4 * (k - i) ∧ Tm mo mo' ∧ Br_byL v' = Br_byL v := by
  intro f
  induction f with
  | zero => intro i x a b v mo _ _ _ h; omega
  | succ f ih =>
    intro i x a b v mo hR ha h1 h2 hx
    rw [l_P_Bits_takeBits_4, l_Model_takeBits_4]
    by_cases e : i = k
    · subst e
      rw [if_pos (nI_le (Nat.le_refl i) (by omega)), if_pos (nI_le (Nat.le_refl i) (by omega))]
      exact ⟨x, a, b, v, mo, rfl, rfl, hR, hx, Nat.le_refl a, by omega, Tm.refl mo, rfl⟩
    · obtain ⟨r, b1, v1, mo1, a1, t1, t2, t3, t4, t5, t6, t7, t8⟩ := takeP (c := -1) hR (by omega) (Or.inl rfl)
      rw [mT, if_pos rfl] at t2
      obtain ⟨β, hβ, rfl⟩ := b01 t4
      have p8 : 2 ^ i ≤ 2 ^ 8 := Nat.pow_le_pow_right (by decide) (by omega)
      have e1 : (nI x <<< ((1 : Int32) &&& 31)) ||| nI β = nI (2 * x + β) := by
        have e1 : nI x <<< ((1 : Int32) &&& 31) = nI (x * 2 ^ 1) := n_shl (i := 1) (by decide) (by omega)
        have h2 := Nat.two_pow_add_eq_or_of_lt (b := β) (i := 1) (by omega) x
        rw [e1, nx_or, show x * 2 ^ 1 = 2 ^ 1 * x from Nat.mul_comm _ _, ← h2, show 2 ^ 1 * x = 2 * x from rfl]
      have e2 : 2 * nI x + nI β = nI (2 * x + β) := by
        rw [show (2 : Int32) = nI 2 from rfl, pk_mul, nI_add]
      have ha1 : a ≤ a1 := Nat.le_of_lt t8.1
      obtain ⟨x', a', b', v', mo', q1, q2, q3, q4, q5, q6, q7, q8⟩ := ih (i + 1) (2 * x + β) a1 b1 v1 mo1 t3 (by omega) (by omega) (by omega) (by rw [Nat.pow_succ]; omega)
      rw [← nI_1 i] at q1 q2
      refine ⟨x', a', b', v', mo', ?_, ?_, q3, q4, by omega, by omega, Tm.trans t5 q7, q8.trans t6⟩
      · rw [if_neg (nI_ge (by omega) (by omega)), t1, bd_s]
        show l_P_Bits_takeBits_4 (nI k) K1 f b1 v1 ((nI x <<< ((1 : Int32) &&& 31)) ||| nI β) (nI i + 1) = _
        rw [e1]
        exact q1
      · rw [if_neg (nI_ge (by omega) (by omega)), t2, bd_s]
        show l_Model_takeBits_4 (nI k) K2 f mo1 (2 * nI x + nI β) (nI i + 1) = _
        rw [e2]
        exact q2
theorem takeBits_P {k m a : Nat} {b : Pb} {v : Br} {mo : Mo} (hk : k ≤ 8) (hR : RcP b v mo m a) (ha : a + 40 < 2 ^ 30) : ∃ (x' a' : Nat) (b' : Pb) (v' : Br) (mo' : Mo), f_P_Bits_takeBits b v (nI k) = some (nI x', b', v') ∧ f_Model_takeBits mo (nI k) = some (nI x', mo') ∧ RcP b' v' mo' m a' ∧ x' < 2 ^ k ∧ a ≤ a' ∧ a' ≤ a + 32 ∧ Tm mo mo' ∧ Br_byL v' = Br_byL v := by
  obtain ⟨x', a', b', v', mo', q1, q2, q3, q4, q5, q6, q7, q8⟩ := takeBits_l_P (K1 := fun b1 v1 x => some (x, b1, v1)) (K2 := fun mo1 x => some (x, mo1)) hk 100000 0 0 a b v mo hR (by omega) (Nat.zero_le _) (by omega) (by decide)
  exact ⟨x', a', b', v', mo', q1, q2, q3, q4, q5, by omega, q7, q8⟩
theorem takeNum_l_P {m : Nat} {K1 : Pb → Br → Int32 → Option (Int32 × Pb × Br)} {K2 : Mo → Int32 → Option (Int32 × Mo)} : ∀ (f i a : Nat) (b : Pb) (v : Br) (mo : Mo), RcP b v mo m a → a + 4 * (9 - i) < 2 ^ 30 → i ≤ 9 → 9 - i < f → ∃ (k a' : Nat) (b' : Pb) (v' : Br) (mo' : Mo), l_P_Bits_takeNumber_2 K1 f b v (nI i) = K1 b' v' (nI k) ∧ l_Model_takeNumber_2 K2 f mo (nI i) = K2 mo' (nI k) ∧ RcP b' v' mo' m a' ∧ k ≤ 9 ∧ a ≤ a' ∧ a' ≤ a + 4 * (9 - i) ∧ (k = 9 ∨ (a < a' ∧ a < 8 * m)) ∧ Tm mo mo' ∧ Br_byL v' = Br_byL v := by
  intro f
  induction f with
  | zero => intro i a b v mo _ _ _ h; omega
  | succ f ih =>
    intro i a b v mo hR ha h1 h2
    rw [l_P_Bits_takeNumber_2, l_Model_takeNumber_2]
    by_cases e : i = 9
    · subst e
      rw [if_pos (show (8 : Int32) < nI 9 from nI_lt (a := 8) (by decide) (by decide)), if_pos (show (9 : Int32) ≤ nI 9 from nI_le (Nat.le_refl 9) (by decide))]
      exact ⟨9, a, b, v, mo, rfl, rfl, hR, Nat.le_refl 9, Nat.le_refl a, by omega, Or.inl rfl, Tm.refl mo, rfl⟩
    · obtain ⟨r, b1, v1, mo1, a1, t1, t2, t3, t4, t5, t6, t7, t8⟩ := takeP (c := -1) hR (by omega) (Or.inl rfl)
      rw [mT, if_pos rfl] at t2
      have ha1 : a ≤ a1 := Nat.le_of_lt t8.1
      rw [if_neg (show ¬ (8 : Int32) < nI i from nI_nlt (a := 8) (by omega) (by decide)), if_neg (show ¬ (9 : Int32) ≤ nI i from nI_ge (b := 9) (by omega) (by decide)), t1, t2, bd_s, bd_s]
      rcases t4 with rfl | rfl
      · obtain ⟨k, a', b', v', mo', q1, q2, q3, q4, q5, q6, q7, q8, q9⟩ := ih (i + 1) a1 b1 v1 mo1 t3 (by omega) (by omega) (by omega)
        rw [← nI_1 i] at q1 q2
        refine ⟨k, a', b', v', mo', Eq.trans (if_pos rfl) q1, Eq.trans (if_pos rfl) q2, q3, q4, by omega, by omega, ?_, Tm.trans t5 q8, q9.trans t6⟩
        rcases q7 with q7 | q7
        · exact Or.inl q7
        · exact Or.inr ⟨by omega, by omega⟩
      · refine ⟨i, a1, b1, v1, mo1, Eq.trans (if_neg i10) rfl, Eq.trans (if_neg i10) rfl, t3, by omega, ha1, by omega, Or.inr ⟨t8.1, t8.2 rfl⟩, t5, t6⟩
theorem takeNum_P {m a : Nat} {b : Pb} {v : Br} {mo : Mo} (hR : RcP b v mo m a) (ha : a + 80 < 2 ^ 30) : ∃ (a' : Nat) (b' : Pb) (v' : Br) (mo' : Mo), RcP b' v' mo' m a' ∧ a ≤ a' ∧ a' ≤ a + 72 ∧ Tm mo mo' ∧ Br_byL v' = Br_byL v ∧ ((f_P_Bits_takeNumber b v = some (-1, b', v') ∧ f_Model_takeNumber mo = some (0, Mo_s_why mo' 7)) ∨ ∃ x : Nat, x < 511 ∧ f_P_Bits_takeNumber b v = some (nI x, b', v') ∧ f_Model_takeNumber mo = some (nI x, mo') ∧ (a < a' ∧ a < 8 * m)) := by
  obtain ⟨k, a1, b1, v1, mo1, q1, q2, q3, q4, q5, q6, q7, q8, q9⟩ := takeNum_l_P (K1 := fun b_10 v_11 x1_12 => (if x1_12 ≤ 8 then bd (f_P_Bits_takeBits b_10 v_11 x1_12) <| fun (r_14, b_15, v_16) => some ((((1 : Int32) <<< (x1_12 &&& 31)) ||| r_14) - 1, b_15, v_16) else some ((-1), b_10, v_11))) (K2 := fun mo_8 x1_9 => (if x1_9 ≤ 8 then bd (f_Model_takeBits mo_8 x1_9) <| fun (r_11, mo_12) => some ((((1 : Int32) <<< (x1_9 &&& 31)) + r_11) - 1, mo_12) else lt' (Mo_s_why mo_8 7) <| fun mo_13 => some (0, mo_13))) 100000 0 a b v mo hR (by omega) (by decide) (by decide)
  by_cases e : k = 9
  · subst e
    refine ⟨a1, b1, v1, mo1, q3, q5, by omega, q8, q9, Or.inl ⟨?_, ?_⟩⟩
    · rw [f_P_Bits_takeNumber]
      refine Eq.trans q1 (if_neg (by decide))
    · rw [f_Model_takeNumber]
      refine Eq.trans q2 (if_neg (by decide))
  · obtain ⟨x, a2, b2, v2, mo2, u1, u2, u3, u4, u5, u6, u7, u8⟩ := takeBits_P (k := k) (by omega) q3 (by omega)
    have hp := Nat.two_pow_pos k
    have p8 : 2 ^ k ≤ 2 ^ 8 := Nat.pow_le_pow_right (by decide) (by omega)
    have es : (1 : Int32) <<< (nI k &&& 31) = nI (2 ^ k) := by
      have := n_shl (x := 1) (i := k) (by omega) (by omega)
      rw [Nat.one_mul] at this
      exact this
    have e1 : ((1 : Int32) <<< (nI k &&& 31) ||| nI x) - 1 = nI (2 ^ k + x - 1) := by
      have h2 := Nat.two_pow_add_eq_or_of_lt u4 1
      rw [Nat.mul_one] at h2
      rw [es, nx_or, ← h2]
      exact pk_sub (b := 1) (by omega)
    have e2 : ((1 : Int32) <<< (nI k &&& 31) + nI x) - 1 = nI (2 ^ k + x - 1) := by
      rw [es, nI_add]
      exact pk_sub (b := 1) (by omega)
    have hle : nI k ≤ 8 := nI_le (b := 8) (by omega) (by decide)
    refine ⟨a2, b2, v2, mo2, u3, by omega, by omega, Tm.trans q8 u7, u8.trans q9, Or.inr ⟨2 ^ k + x - 1, by omega, ?_, ?_, ?_⟩⟩
    · rw [f_P_Bits_takeNumber]
      refine Eq.trans q1 (Eq.trans (if_pos hle) ?_)
      rw [u1, bd_s]
      show some (((1 : Int32) <<< (nI k &&& 31) ||| nI x) - 1, b2, v2) = _
      rw [e1]
    · rw [f_Model_takeNumber]
      refine Eq.trans q2 (Eq.trans (if_pos hle) ?_)
      rw [u2, bd_s]
      show some (((1 : Int32) <<< (nI k &&& 31) + nI x) - 1, mo2) = _
      rw [e2]
    · rcases q7 with q7 | q7
      · exact absurd q7 e
      · exact ⟨by omega, q7.2⟩
theorem takeBits_l_C {k m : Nat} {K1 : Cb → Br → Int32 → Option (Int32 × Cb × Br)} {K2 : Mo → Int32 → Option (Int32 × Mo)} (hk : k ≤ 8) : ∀ (f i x a : Nat) (b : Cb) (v : Br) (mo : Mo), RcC b v mo m a → a + 4 * (k - i) < 2 ^ 30 → i ≤ k → k - i < f → x < 2 ^ i → ∃ (x' a' : Nat) (b' : Cb) (v' : Br) (mo' : Mo), l_C_Bits_takeBits_4 (nI k) K1 f b v (nI x) (nI i) = K1 b' v' (nI x') ∧ l_Model_takeBits_4 (nI k) K2 f mo (nI x) (nI i) = K2 mo' (nI x') ∧ RcC b' v' mo' m a' ∧ x' < 2 ^ k ∧ a ≤ a' ∧ a' ≤ a + 4 * (k - i) ∧ Tm mo mo' ∧ Br_byL v' = Br_byL v := by
  intro f
  induction f with
  | zero => intro i x a b v mo _ _ _ h; omega
  | succ f ih =>
    intro i x a b v mo hR ha h1 h2 hx
    rw [l_C_Bits_takeBits_4, l_Model_takeBits_4]
    by_cases e : i = k
    · subst e
      rw [if_pos (nI_le (Nat.le_refl i) (by omega)), if_pos (nI_le (Nat.le_refl i) (by omega))]
      exact ⟨x, a, b, v, mo, rfl, rfl, hR, hx, Nat.le_refl a, by omega, Tm.refl mo, rfl⟩
    · obtain ⟨r, b1, v1, mo1, a1, t1, t2, t3, t4, t5, t6, t7, t8⟩ := takeC (c := -1) hR (by omega) (Or.inl rfl)
      rw [mT, if_pos rfl] at t2
      obtain ⟨β, hβ, rfl⟩ := b01 t4
      have p8 : 2 ^ i ≤ 2 ^ 8 := Nat.pow_le_pow_right (by decide) (by omega)
      have e1 : (nI x <<< ((1 : Int32) &&& 31)) ||| nI β = nI (2 * x + β) := by
        have e1 : nI x <<< ((1 : Int32) &&& 31) = nI (x * 2 ^ 1) := n_shl (i := 1) (by decide) (by omega)
        have h2 := Nat.two_pow_add_eq_or_of_lt (b := β) (i := 1) (by omega) x
        rw [e1, nx_or, show x * 2 ^ 1 = 2 ^ 1 * x from Nat.mul_comm _ _, ← h2, show 2 ^ 1 * x = 2 * x from rfl]
      have e2 : 2 * nI x + nI β = nI (2 * x + β) := by
        rw [show (2 : Int32) = nI 2 from rfl, pk_mul, nI_add]
      have ha1 : a ≤ a1 := t8
      obtain ⟨x', a', b', v', mo', q1, q2, q3, q4, q5, q6, q7, q8⟩ := ih (i + 1) (2 * x + β) a1 b1 v1 mo1 t3 (by omega) (by omega) (by omega) (by rw [Nat.pow_succ]; omega)
      rw [← nI_1 i] at q1 q2
      refine ⟨x', a', b', v', mo', ?_, ?_, q3, q4, by omega, by omega, Tm.trans t5 q7, q8.trans t6⟩
      · rw [if_neg (nI_ge (by omega) (by omega)), t1, bd_s]
        show l_C_Bits_takeBits_4 (nI k) K1 f b1 v1 ((nI x <<< ((1 : Int32) &&& 31)) ||| nI β) (nI i + 1) = _
        rw [e1]
        exact q1
      · rw [if_neg (nI_ge (by omega) (by omega)), t2, bd_s]
        show l_Model_takeBits_4 (nI k) K2 f mo1 (2 * nI x + nI β) (nI i + 1) = _
        rw [e2]
        exact q2
theorem takeBits_C {k m a : Nat} {b : Cb} {v : Br} {mo : Mo} (hk : k ≤ 8) (hR : RcC b v mo m a) (ha : a + 40 < 2 ^ 30) : ∃ (x' a' : Nat) (b' : Cb) (v' : Br) (mo' : Mo), f_C_Bits_takeBits b v (nI k) = some (nI x', b', v') ∧ f_Model_takeBits mo (nI k) = some (nI x', mo') ∧ RcC b' v' mo' m a' ∧ x' < 2 ^ k ∧ a ≤ a' ∧ a' ≤ a + 32 ∧ Tm mo mo' ∧ Br_byL v' = Br_byL v := by
  obtain ⟨x', a', b', v', mo', q1, q2, q3, q4, q5, q6, q7, q8⟩ := takeBits_l_C (K1 := fun b1 v1 x => some (x, b1, v1)) (K2 := fun mo1 x => some (x, mo1)) hk 100000 0 0 a b v mo hR (by omega) (Nat.zero_le _) (by omega) (by decide)
  exact ⟨x', a', b', v', mo', q1, q2, q3, q4, q5, by omega, q7, q8⟩
theorem takeNum_l_C {m : Nat} {K1 : Cb → Br → Int32 → Option (Int32 × Cb × Br)} {K2 : Mo → Int32 → Option (Int32 × Mo)} : ∀ (f i a : Nat) (b : Cb) (v : Br) (mo : Mo), RcC b v mo m a → a + 4 * (9 - i) < 2 ^ 30 → i ≤ 9 → 9 - i < f → ∃ (k a' : Nat) (b' : Cb) (v' : Br) (mo' : Mo), l_C_Bits_takeNumber_2 K1 f b v (nI i) = K1 b' v' (nI k) ∧ l_Model_takeNumber_2 K2 f mo (nI i) = K2 mo' (nI k) ∧ RcC b' v' mo' m a' ∧ k ≤ 9 ∧ a ≤ a' ∧ a' ≤ a + 4 * (9 - i) ∧ (k = 9 ∨ True) ∧ Tm mo mo' ∧ Br_byL v' = Br_byL v := by
  intro f
  induction f with
  | zero => intro i a b v mo _ _ _ h; omega
  | succ f ih =>
    intro i a b v mo hR ha h1 h2
    rw [l_C_Bits_takeNumber_2, l_Model_takeNumber_2]
    by_cases e : i = 9
    · subst e
      rw [if_pos (show (8 : Int32) < nI 9 from nI_lt (a := 8) (by decide) (by decide)), if_pos (show (9 : Int32) ≤ nI 9 from nI_le (Nat.le_refl 9) (by decide))]
      exact ⟨9, a, b, v, mo, rfl, rfl, hR, Nat.le_refl 9, Nat.le_refl a, by omega, Or.inl rfl, Tm.refl mo, rfl⟩
    · obtain ⟨r, b1, v1, mo1, a1, t1, t2, t3, t4, t5, t6, t7, t8⟩ := takeC (c := -1) hR (by omega) (Or.inl rfl)
      rw [mT, if_pos rfl] at t2
      have ha1 : a ≤ a1 := t8
      rw [if_neg (show ¬ (8 : Int32) < nI i from nI_nlt (a := 8) (by omega) (by decide)), if_neg (show ¬ (9 : Int32) ≤ nI i from nI_ge (b := 9) (by omega) (by decide)), t1, t2, bd_s, bd_s]
      rcases t4 with rfl | rfl
      · obtain ⟨k, a', b', v', mo', q1, q2, q3, q4, q5, q6, q7, q8, q9⟩ := ih (i + 1) a1 b1 v1 mo1 t3 (by omega) (by omega) (by omega)
        rw [← nI_1 i] at q1 q2
        refine ⟨k, a', b', v', mo', Eq.trans (if_pos rfl) q1, Eq.trans (if_pos rfl) q2, q3, q4, by omega, by omega, ?_, Tm.trans t5 q8, q9.trans t6⟩
        rcases q7 with q7 | q7
        · exact Or.inl q7
        · exact Or.inr trivial
      · refine ⟨i, a1, b1, v1, mo1, Eq.trans (if_neg i10) rfl, Eq.trans (if_neg i10) rfl, t3, by omega, ha1, by omega, Or.inr trivial, t5, t6⟩
theorem takeNum_C {m a : Nat} {b : Cb} {v : Br} {mo : Mo} (hR : RcC b v mo m a) (ha : a + 80 < 2 ^ 30) : ∃ (a' : Nat) (b' : Cb) (v' : Br) (mo' : Mo), RcC b' v' mo' m a' ∧ a ≤ a' ∧ a' ≤ a + 72 ∧ Tm mo mo' ∧ Br_byL v' = Br_byL v ∧ ((f_C_Bits_takeNumber b v = some (-1, b', v') ∧ f_Model_takeNumber mo = some (0, Mo_s_why mo' 7)) ∨ ∃ x : Nat, x < 511 ∧ f_C_Bits_takeNumber b v = some (nI x, b', v') ∧ f_Model_takeNumber mo = some (nI x, mo') ∧ True) := by
  obtain ⟨k, a1, b1, v1, mo1, q1, q2, q3, q4, q5, q6, q7, q8, q9⟩ := takeNum_l_C (K1 := fun b_10 v_11 x1_12 => (if x1_12 ≤ 8 then bd (f_C_Bits_takeBits b_10 v_11 x1_12) <| fun (r_14, b_15, v_16) => some ((((1 : Int32) <<< (x1_12 &&& 31)) ||| r_14) - 1, b_15, v_16) else some ((-1), b_10, v_11))) (K2 := fun mo_8 x1_9 => (if x1_9 ≤ 8 then bd (f_Model_takeBits mo_8 x1_9) <| fun (r_11, mo_12) => some ((((1 : Int32) <<< (x1_9 &&& 31)) + r_11) - 1, mo_12) else lt' (Mo_s_why mo_8 7) <| fun mo_13 => some (0, mo_13))) 100000 0 a b v mo hR (by omega) (by decide) (by decide)
  by_cases e : k = 9
  · subst e
    refine ⟨a1, b1, v1, mo1, q3, q5, by omega, q8, q9, Or.inl ⟨?_, ?_⟩⟩
    · rw [f_C_Bits_takeNumber]
      refine Eq.trans q1 (if_neg (by decide))
    · rw [f_Model_takeNumber]
      refine Eq.trans q2 (if_neg (by decide))
  · obtain ⟨x, a2, b2, v2, mo2, u1, u2, u3, u4, u5, u6, u7, u8⟩ := takeBits_C (k := k) (by omega) q3 (by omega)
    have hp := Nat.two_pow_pos k
    have p8 : 2 ^ k ≤ 2 ^ 8 := Nat.pow_le_pow_right (by decide) (by omega)
    have es : (1 : Int32) <<< (nI k &&& 31) = nI (2 ^ k) := by
      have := n_shl (x := 1) (i := k) (by omega) (by omega)
      rw [Nat.one_mul] at this
      exact this
    have e1 : ((1 : Int32) <<< (nI k &&& 31) ||| nI x) - 1 = nI (2 ^ k + x - 1) := by
      have h2 := Nat.two_pow_add_eq_or_of_lt u4 1
      rw [Nat.mul_one] at h2
      rw [es, nx_or, ← h2]
      exact pk_sub (b := 1) (by omega)
    have e2 : ((1 : Int32) <<< (nI k &&& 31) + nI x) - 1 = nI (2 ^ k + x - 1) := by
      rw [es, nI_add]
      exact pk_sub (b := 1) (by omega)
    have hle : nI k ≤ 8 := nI_le (b := 8) (by omega) (by decide)
    refine ⟨a2, b2, v2, mo2, u3, by omega, by omega, Tm.trans q8 u7, u8.trans q9, Or.inr ⟨2 ^ k + x - 1, by omega, ?_, ?_, ?_⟩⟩
    · rw [f_C_Bits_takeNumber]
      refine Eq.trans q1 (Eq.trans (if_pos hle) ?_)
      rw [u1, bd_s]
      show some (((1 : Int32) <<< (nI k &&& 31) ||| nI x) - 1, b2, v2) = _
      rw [e1]
    · rw [f_Model_takeNumber]
      refine Eq.trans q2 (Eq.trans (if_pos hle) ?_)
      rw [u2, bd_s]
      show some (((1 : Int32) <<< (nI k &&& 31) + nI x) - 1, mo2) = _
      rw [e2]
    · rcases q7 with q7 | q7
      · exact absurd q7 e
      · exact trivial
