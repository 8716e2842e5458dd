/-! Reading: the beginning and the end -/
def Mo_h (mo : Mo) (z_wd : (Nat → Int32)) (z_ht : (Nat → Int32)) (z_rw : (Nat → Int32)) (z_ex : (Nat → Int32)) (z_bs : (Nat → Int32)) (z_dx : (Nat → Int32)) (z_dy : (Nat → Int32)) (z_ia : Int32) (z_ch : (Nat → Int32)) (z_lo : Int64) (z_hi : Int64) (z_tk : Int64) (z_pl : (Nat → Int32)) (z_why : Int32) (z_code : Int32) (z_inn : Int32) : Mo := (z_code, Mo_kind mo, Mo_n mo, z_wd, z_ht, z_rw, z_ex, z_bs, z_dx, z_dy, Mo_pc mo, Mo_od mo, Mo_cl mo, Mo_co mo, Mo_fc mo, Mo_on mo, Mo_ob mo, Mo_out mo, z_inn, z_ia, Mo_inp mo, z_ch, z_lo, z_hi, z_tk, z_pl, z_why)
def Hm (mo mo' : Mo) : Prop := ∃ (z_wd : (Nat → Int32)) (z_ht : (Nat → Int32)) (z_rw : (Nat → Int32)) (z_ex : (Nat → Int32)) (z_bs : (Nat → Int32)) (z_dx : (Nat → Int32)) (z_dy : (Nat → Int32)) (z_ia : Int32) (z_ch : (Nat → Int32)) (z_lo : Int64) (z_hi : Int64) (z_tk : Int64) (z_pl : (Nat → Int32)) (z_why : Int32) (z_code : Int32) (z_inn : Int32), mo' = Mo_h mo z_wd z_ht z_rw z_ex z_bs z_dx z_dy z_ia z_ch z_lo z_hi z_tk z_pl z_why z_code z_inn
theorem Hm.refl (mo : Mo) : Hm mo mo := ⟨Mo_wd mo, Mo_ht mo, Mo_rw mo, Mo_ex mo, Mo_bs mo, Mo_dx mo, Mo_dy mo, Mo_ia mo, Mo_ch mo, Mo_lo mo, Mo_hi mo, Mo_tk mo, Mo_pl mo, Mo_why mo, Mo_code mo, Mo_inn mo, rfl⟩
theorem Hm_2 (mo : Mo) (a_wd b_wd : (Nat → Int32)) (a_ht b_ht : (Nat → Int32)) (a_rw b_rw : (Nat → Int32)) (a_ex b_ex : (Nat → Int32)) (a_bs b_bs : (Nat → Int32)) (a_dx b_dx : (Nat → Int32)) (a_dy b_dy : (Nat → Int32)) (a_ia b_ia : Int32) (a_ch b_ch : (Nat → Int32)) (a_lo b_lo : Int64) (a_hi b_hi : Int64) (a_tk b_tk : Int64) (a_pl b_pl : (Nat → Int32)) (a_why b_why : Int32) (a_code b_code : Int32) (a_inn b_inn : Int32) : Mo_h (Mo_h mo a_wd a_ht a_rw a_ex a_bs a_dx a_dy a_ia a_ch a_lo a_hi a_tk a_pl a_why a_code a_inn) b_wd b_ht b_rw b_ex b_bs b_dx b_dy b_ia b_ch b_lo b_hi b_tk b_pl b_why b_code b_inn = Mo_h mo b_wd b_ht b_rw b_ex b_bs b_dx b_dy b_ia b_ch b_lo b_hi b_tk b_pl b_why b_code b_inn := by
  obtain ⟨m1, m2, m3, m4, m5, m6, m7, m8, m9, m10, m11, m12, m13, m14, m15, m16, m17, m18, m19, m20, m21, m22, m23, m24, m25, m26, m27⟩ := mo
  exact Eq.trans (b := (b_code, m2, m3, b_wd, b_ht, b_rw, b_ex, b_bs, b_dx, b_dy, m11, m12, m13, m14, m15, m16, m17, m18, b_inn, b_ia, m21, b_ch, b_lo, b_hi, b_tk, b_pl, b_why)) rfl rfl
theorem Hm.trans {a b c : Mo} (h1 : Hm a b) (h2 : Hm b c) : Hm a c := by
  obtain ⟨a_wd, a_ht, a_rw, a_ex, a_bs, a_dx, a_dy, a_ia, a_ch, a_lo, a_hi, a_tk, a_pl, a_why, a_code, a_inn, rfl⟩ := h1
  obtain ⟨b_wd, b_ht, b_rw, b_ex, b_bs, b_dx, b_dy, b_ia, b_ch, b_lo, b_hi, b_tk, b_pl, b_why, b_code, b_inn, rfl⟩ := h2
  exact ⟨b_wd, b_ht, b_rw, b_ex, b_bs, b_dx, b_dy, b_ia, b_ch, b_lo, b_hi, b_tk, b_pl, b_why, b_code, b_inn, Hm_2 a a_wd b_wd a_ht b_ht a_rw b_rw a_ex b_ex a_bs b_bs a_dx b_dx a_dy b_dy a_ia b_ia a_ch b_ch a_lo b_lo a_hi b_hi a_tk b_tk a_pl b_pl a_why b_why a_code b_code a_inn b_inn⟩
theorem Hm.gm {mo mo' : Mo} (h : Gm mo mo') : Hm mo mo' := by
  obtain ⟨a_wd, a_ht, a_rw, a_ex, a_bs, a_dx, a_dy, a_ia, a_ch, a_lo, a_hi, a_tk, a_pl, a_why, rfl⟩ := h
  refine ⟨a_wd, a_ht, a_rw, a_ex, a_bs, a_dx, a_dy, a_ia, a_ch, a_lo, a_hi, a_tk, a_pl, a_why, Mo_code mo, Mo_inn mo, ?_⟩
  obtain ⟨m1, m2, m3, m4, m5, m6, m7, m8, m9, m10, m11, m12, m13, m14, m15, m16, m17, m18, m19, m20, m21, m22, m23, m24, m25, m26, m27⟩ := mo
  exact Eq.trans (b := (m1, m2, m3, a_wd, a_ht, a_rw, a_ex, a_bs, a_dx, a_dy, m11, m12, m13, m14, m15, m16, m17, m18, m19, a_ia, m21, a_ch, a_lo, a_hi, a_tk, a_pl, a_why)) rfl rfl
theorem Hm_0 (mo : Mo) (y_code : Int32) (y_why : Int32) (y_ia : Int32) (y_lo : Int64) (y_hi : Int64) (y_ch : (Nat → Int32)) (y_tk : Int64) : Hm mo (Mo_s_tk (Mo_s_ch (Mo_s_hi (Mo_s_lo (Mo_s_ia (Mo_s_why (Mo_s_code mo y_code) y_why) y_ia) y_lo) y_hi) y_ch) y_tk) := by
  refine ⟨Mo_wd mo, Mo_ht mo, Mo_rw mo, Mo_ex mo, Mo_bs mo, Mo_dx mo, Mo_dy mo, y_ia, y_ch, y_lo, y_hi, y_tk, Mo_pl mo, y_why, y_code, Mo_inn mo, ?_⟩
  obtain ⟨m1, m2, m3, m4, m5, m6, m7, m8, m9, m10, m11, m12, m13, m14, m15, m16, m17, m18, m19, m20, m21, m22, m23, m24, m25, m26, m27⟩ := mo
  exact Eq.trans (b := (y_code, m2, m3, m4, m5, m6, m7, m8, m9, m10, m11, m12, m13, m14, m15, m16, m17, m18, m19, y_ia, m21, y_ch, y_lo, y_hi, y_tk, m26, y_why)) rfl rfl
theorem Hm_i (mo : Mo) (y_inn : Int32) : Hm mo (Mo_s_inn mo y_inn) := by
  refine ⟨Mo_wd mo, Mo_ht mo, Mo_rw mo, Mo_ex mo, Mo_bs mo, Mo_dx mo, Mo_dy mo, Mo_ia mo, Mo_ch mo, Mo_lo mo, Mo_hi mo, Mo_tk mo, Mo_pl mo, Mo_why mo, Mo_code mo, y_inn, ?_⟩
  obtain ⟨m1, m2, m3, m4, m5, m6, m7, m8, m9, m10, m11, m12, m13, m14, m15, m16, m17, m18, m19, m20, m21, m22, m23, m24, m25, m26, m27⟩ := mo
  exact Eq.trans (b := (m1, m2, m3, m4, m5, m6, m7, m8, m9, m10, m11, m12, m13, m14, m15, m16, m17, m18, y_inn, m20, m21, m22, m23, m24, m25, m26, m27)) rfl rfl
theorem rz_kind (mo : Mo) (y_code : Int32) (y_why : Int32) (y_ia : Int32) (y_lo : Int64) (y_hi : Int64) (y_ch : (Nat → Int32)) (y_tk : Int64) : Mo_kind (Mo_s_tk (Mo_s_ch (Mo_s_hi (Mo_s_lo (Mo_s_ia (Mo_s_why (Mo_s_code mo y_code) y_why) y_ia) y_lo) y_hi) y_ch) y_tk) = Mo_kind mo := by
  obtain ⟨m1, m2, m3, m4, m5, m6, m7, m8, m9, m10, m11, m12, m13, m14, m15, m16, m17, m18, m19, m20, m21, m22, m23, m24, m25, m26, m27⟩ := mo
  exact Eq.trans (b := m2) rfl rfl
theorem rz_inn (mo : Mo) (y_code : Int32) (y_why : Int32) (y_ia : Int32) (y_lo : Int64) (y_hi : Int64) (y_ch : (Nat → Int32)) (y_tk : Int64) : Mo_inn (Mo_s_tk (Mo_s_ch (Mo_s_hi (Mo_s_lo (Mo_s_ia (Mo_s_why (Mo_s_code mo y_code) y_why) y_ia) y_lo) y_hi) y_ch) y_tk) = Mo_inn mo := by
  obtain ⟨m1, m2, m3, m4, m5, m6, m7, m8, m9, m10, m11, m12, m13, m14, m15, m16, m17, m18, m19, m20, m21, m22, m23, m24, m25, m26, m27⟩ := mo
  exact Eq.trans (b := m19) rfl rfl
theorem rz_inp (mo : Mo) (y_code : Int32) (y_why : Int32) (y_ia : Int32) (y_lo : Int64) (y_hi : Int64) (y_ch : (Nat → Int32)) (y_tk : Int64) : Mo_inp (Mo_s_tk (Mo_s_ch (Mo_s_hi (Mo_s_lo (Mo_s_ia (Mo_s_why (Mo_s_code mo y_code) y_why) y_ia) y_lo) y_hi) y_ch) y_tk) = Mo_inp mo := by
  obtain ⟨m1, m2, m3, m4, m5, m6, m7, m8, m9, m10, m11, m12, m13, m14, m15, m16, m17, m18, m19, m20, m21, m22, m23, m24, m25, m26, m27⟩ := mo
  exact Eq.trans (b := m21) rfl rfl
theorem rz_ia (mo : Mo) (y_code : Int32) (y_why : Int32) (y_ia : Int32) (y_lo : Int64) (y_hi : Int64) (y_ch : (Nat → Int32)) (y_tk : Int64) : Mo_ia (Mo_s_tk (Mo_s_ch (Mo_s_hi (Mo_s_lo (Mo_s_ia (Mo_s_why (Mo_s_code mo y_code) y_why) y_ia) y_lo) y_hi) y_ch) y_tk) = y_ia := rfl
theorem rz_why (mo : Mo) (y_code : Int32) (y_why : Int32) (y_ia : Int32) (y_lo : Int64) (y_hi : Int64) (y_ch : (Nat → Int32)) (y_tk : Int64) : Mo_why (Mo_s_tk (Mo_s_ch (Mo_s_hi (Mo_s_lo (Mo_s_ia (Mo_s_why (Mo_s_code mo y_code) y_why) y_ia) y_lo) y_hi) y_ch) y_tk) = y_why := rfl
theorem rz_lo (mo : Mo) (y_code : Int32) (y_why : Int32) (y_ia : Int32) (y_lo : Int64) (y_hi : Int64) (y_ch : (Nat → Int32)) (y_tk : Int64) : Mo_lo (Mo_s_tk (Mo_s_ch (Mo_s_hi (Mo_s_lo (Mo_s_ia (Mo_s_why (Mo_s_code mo y_code) y_why) y_ia) y_lo) y_hi) y_ch) y_tk) = y_lo := rfl
theorem rz_hi (mo : Mo) (y_code : Int32) (y_why : Int32) (y_ia : Int32) (y_lo : Int64) (y_hi : Int64) (y_ch : (Nat → Int32)) (y_tk : Int64) : Mo_hi (Mo_s_tk (Mo_s_ch (Mo_s_hi (Mo_s_lo (Mo_s_ia (Mo_s_why (Mo_s_code mo y_code) y_why) y_ia) y_lo) y_hi) y_ch) y_tk) = y_hi := rfl
theorem rz_ch (mo : Mo) (y_code : Int32) (y_why : Int32) (y_ia : Int32) (y_lo : Int64) (y_hi : Int64) (y_ch : (Nat → Int32)) (y_tk : Int64) : Mo_ch (Mo_s_tk (Mo_s_ch (Mo_s_hi (Mo_s_lo (Mo_s_ia (Mo_s_why (Mo_s_code mo y_code) y_why) y_ia) y_lo) y_hi) y_ch) y_tk) = y_ch := rfl
theorem rz_tk (mo : Mo) (y_code : Int32) (y_why : Int32) (y_ia : Int32) (y_lo : Int64) (y_hi : Int64) (y_ch : (Nat → Int32)) (y_tk : Int64) : Mo_tk (Mo_s_tk (Mo_s_ch (Mo_s_hi (Mo_s_lo (Mo_s_ia (Mo_s_why (Mo_s_code mo y_code) y_why) y_ia) y_lo) y_hi) y_ch) y_tk) = y_tk := rfl
theorem rz_wd (mo : Mo) (y_code : Int32) (y_why : Int32) (y_ia : Int32) (y_lo : Int64) (y_hi : Int64) (y_ch : (Nat → Int32)) (y_tk : Int64) : Mo_wd (Mo_s_tk (Mo_s_ch (Mo_s_hi (Mo_s_lo (Mo_s_ia (Mo_s_why (Mo_s_code mo y_code) y_why) y_ia) y_lo) y_hi) y_ch) y_tk) = Mo_wd mo := by
  obtain ⟨m1, m2, m3, m4, m5, m6, m7, m8, m9, m10, m11, m12, m13, m14, m15, m16, m17, m18, m19, m20, m21, m22, m23, m24, m25, m26, m27⟩ := mo
  exact Eq.trans (b := m4) rfl rfl
theorem rz_ht (mo : Mo) (y_code : Int32) (y_why : Int32) (y_ia : Int32) (y_lo : Int64) (y_hi : Int64) (y_ch : (Nat → Int32)) (y_tk : Int64) : Mo_ht (Mo_s_tk (Mo_s_ch (Mo_s_hi (Mo_s_lo (Mo_s_ia (Mo_s_why (Mo_s_code mo y_code) y_why) y_ia) y_lo) y_hi) y_ch) y_tk) = Mo_ht mo := by
  obtain ⟨m1, m2, m3, m4, m5, m6, m7, m8, m9, m10, m11, m12, m13, m14, m15, m16, m17, m18, m19, m20, m21, m22, m23, m24, m25, m26, m27⟩ := mo
  exact Eq.trans (b := m5) rfl rfl
theorem rz_ex (mo : Mo) (y_code : Int32) (y_why : Int32) (y_ia : Int32) (y_lo : Int64) (y_hi : Int64) (y_ch : (Nat → Int32)) (y_tk : Int64) : Mo_ex (Mo_s_tk (Mo_s_ch (Mo_s_hi (Mo_s_lo (Mo_s_ia (Mo_s_why (Mo_s_code mo y_code) y_why) y_ia) y_lo) y_hi) y_ch) y_tk) = Mo_ex mo := by
  obtain ⟨m1, m2, m3, m4, m5, m6, m7, m8, m9, m10, m11, m12, m13, m14, m15, m16, m17, m18, m19, m20, m21, m22, m23, m24, m25, m26, m27⟩ := mo
  exact Eq.trans (b := m7) rfl rfl
theorem rz_bs (mo : Mo) (y_code : Int32) (y_why : Int32) (y_ia : Int32) (y_lo : Int64) (y_hi : Int64) (y_ch : (Nat → Int32)) (y_tk : Int64) : Mo_bs (Mo_s_tk (Mo_s_ch (Mo_s_hi (Mo_s_lo (Mo_s_ia (Mo_s_why (Mo_s_code mo y_code) y_why) y_ia) y_lo) y_hi) y_ch) y_tk) = Mo_bs mo := by
  obtain ⟨m1, m2, m3, m4, m5, m6, m7, m8, m9, m10, m11, m12, m13, m14, m15, m16, m17, m18, m19, m20, m21, m22, m23, m24, m25, m26, m27⟩ := mo
  exact Eq.trans (b := m8) rfl rfl
theorem rz_dx (mo : Mo) (y_code : Int32) (y_why : Int32) (y_ia : Int32) (y_lo : Int64) (y_hi : Int64) (y_ch : (Nat → Int32)) (y_tk : Int64) : Mo_dx (Mo_s_tk (Mo_s_ch (Mo_s_hi (Mo_s_lo (Mo_s_ia (Mo_s_why (Mo_s_code mo y_code) y_why) y_ia) y_lo) y_hi) y_ch) y_tk) = Mo_dx mo := by
  obtain ⟨m1, m2, m3, m4, m5, m6, m7, m8, m9, m10, m11, m12, m13, m14, m15, m16, m17, m18, m19, m20, m21, m22, m23, m24, m25, m26, m27⟩ := mo
  exact Eq.trans (b := m9) rfl rfl
theorem rz_dy (mo : Mo) (y_code : Int32) (y_why : Int32) (y_ia : Int32) (y_lo : Int64) (y_hi : Int64) (y_ch : (Nat → Int32)) (y_tk : Int64) : Mo_dy (Mo_s_tk (Mo_s_ch (Mo_s_hi (Mo_s_lo (Mo_s_ia (Mo_s_why (Mo_s_code mo y_code) y_why) y_ia) y_lo) y_hi) y_ch) y_tk) = Mo_dy mo := by
  obtain ⟨m1, m2, m3, m4, m5, m6, m7, m8, m9, m10, m11, m12, m13, m14, m15, m16, m17, m18, m19, m20, m21, m22, m23, m24, m25, m26, m27⟩ := mo
  exact Eq.trans (b := m10) rfl rfl
theorem rz_rw (mo : Mo) (y_code : Int32) (y_why : Int32) (y_ia : Int32) (y_lo : Int64) (y_hi : Int64) (y_ch : (Nat → Int32)) (y_tk : Int64) : Mo_rw (Mo_s_tk (Mo_s_ch (Mo_s_hi (Mo_s_lo (Mo_s_ia (Mo_s_why (Mo_s_code mo y_code) y_why) y_ia) y_lo) y_hi) y_ch) y_tk) = Mo_rw mo := by
  obtain ⟨m1, m2, m3, m4, m5, m6, m7, m8, m9, m10, m11, m12, m13, m14, m15, m16, m17, m18, m19, m20, m21, m22, m23, m24, m25, m26, m27⟩ := mo
  exact Eq.trans (b := m6) rfl rfl
theorem ew_kind (mo : Mo) (y_inn : Int32) (y_n : Int32) (y_cl : Int32) : Mo_kind (Mo_s_cl (Mo_s_n (Mo_s_inn mo y_inn) y_n) y_cl) = Mo_kind mo := by
  obtain ⟨m1, m2, m3, m4, m5, m6, m7, m8, m9, m10, m11, m12, m13, m14, m15, m16, m17, m18, m19, m20, m21, m22, m23, m24, m25, m26, m27⟩ := mo
  exact Eq.trans (b := m2) rfl rfl
theorem ew_n (mo : Mo) (y_inn : Int32) (y_n : Int32) (y_cl : Int32) : Mo_n (Mo_s_cl (Mo_s_n (Mo_s_inn mo y_inn) y_n) y_cl) = y_n := rfl
theorem ew_cl (mo : Mo) (y_inn : Int32) (y_n : Int32) (y_cl : Int32) : Mo_cl (Mo_s_cl (Mo_s_n (Mo_s_inn mo y_inn) y_n) y_cl) = y_cl := rfl
theorem ew_co (mo : Mo) (y_inn : Int32) (y_n : Int32) (y_cl : Int32) : Mo_co (Mo_s_cl (Mo_s_n (Mo_s_inn mo y_inn) y_n) y_cl) = Mo_co mo := by
  obtain ⟨m1, m2, m3, m4, m5, m6, m7, m8, m9, m10, m11, m12, m13, m14, m15, m16, m17, m18, m19, m20, m21, m22, m23, m24, m25, m26, m27⟩ := mo
  exact Eq.trans (b := m14) rfl rfl
theorem ew_on (mo : Mo) (y_inn : Int32) (y_n : Int32) (y_cl : Int32) : Mo_on (Mo_s_cl (Mo_s_n (Mo_s_inn mo y_inn) y_n) y_cl) = Mo_on mo := by
  obtain ⟨m1, m2, m3, m4, m5, m6, m7, m8, m9, m10, m11, m12, m13, m14, m15, m16, m17, m18, m19, m20, m21, m22, m23, m24, m25, m26, m27⟩ := mo
  exact Eq.trans (b := m16) rfl rfl
theorem ew_out (mo : Mo) (y_inn : Int32) (y_n : Int32) (y_cl : Int32) : Mo_out (Mo_s_cl (Mo_s_n (Mo_s_inn mo y_inn) y_n) y_cl) = Mo_out mo := by
  obtain ⟨m1, m2, m3, m4, m5, m6, m7, m8, m9, m10, m11, m12, m13, m14, m15, m16, m17, m18, m19, m20, m21, m22, m23, m24, m25, m26, m27⟩ := mo
  exact Eq.trans (b := m18) rfl rfl
theorem ew_inn (mo : Mo) (y_inn : Int32) (y_n : Int32) (y_cl : Int32) : Mo_inn (Mo_s_cl (Mo_s_n (Mo_s_inn mo y_inn) y_n) y_cl) = y_inn := rfl
theorem ew_wd (mo : Mo) (y_inn : Int32) (y_n : Int32) (y_cl : Int32) : Mo_wd (Mo_s_cl (Mo_s_n (Mo_s_inn mo y_inn) y_n) y_cl) = Mo_wd mo := by
  obtain ⟨m1, m2, m3, m4, m5, m6, m7, m8, m9, m10, m11, m12, m13, m14, m15, m16, m17, m18, m19, m20, m21, m22, m23, m24, m25, m26, m27⟩ := mo
  exact Eq.trans (b := m4) rfl rfl
theorem ew_ht (mo : Mo) (y_inn : Int32) (y_n : Int32) (y_cl : Int32) : Mo_ht (Mo_s_cl (Mo_s_n (Mo_s_inn mo y_inn) y_n) y_cl) = Mo_ht mo := by
  obtain ⟨m1, m2, m3, m4, m5, m6, m7, m8, m9, m10, m11, m12, m13, m14, m15, m16, m17, m18, m19, m20, m21, m22, m23, m24, m25, m26, m27⟩ := mo
  exact Eq.trans (b := m5) rfl rfl
theorem ew_ex (mo : Mo) (y_inn : Int32) (y_n : Int32) (y_cl : Int32) : Mo_ex (Mo_s_cl (Mo_s_n (Mo_s_inn mo y_inn) y_n) y_cl) = Mo_ex mo := by
  obtain ⟨m1, m2, m3, m4, m5, m6, m7, m8, m9, m10, m11, m12, m13, m14, m15, m16, m17, m18, m19, m20, m21, m22, m23, m24, m25, m26, m27⟩ := mo
  exact Eq.trans (b := m7) rfl rfl
theorem ew_bs (mo : Mo) (y_inn : Int32) (y_n : Int32) (y_cl : Int32) : Mo_bs (Mo_s_cl (Mo_s_n (Mo_s_inn mo y_inn) y_n) y_cl) = Mo_bs mo := by
  obtain ⟨m1, m2, m3, m4, m5, m6, m7, m8, m9, m10, m11, m12, m13, m14, m15, m16, m17, m18, m19, m20, m21, m22, m23, m24, m25, m26, m27⟩ := mo
  exact Eq.trans (b := m8) rfl rfl
theorem ew_dx (mo : Mo) (y_inn : Int32) (y_n : Int32) (y_cl : Int32) : Mo_dx (Mo_s_cl (Mo_s_n (Mo_s_inn mo y_inn) y_n) y_cl) = Mo_dx mo := by
  obtain ⟨m1, m2, m3, m4, m5, m6, m7, m8, m9, m10, m11, m12, m13, m14, m15, m16, m17, m18, m19, m20, m21, m22, m23, m24, m25, m26, m27⟩ := mo
  exact Eq.trans (b := m9) rfl rfl
theorem ew_dy (mo : Mo) (y_inn : Int32) (y_n : Int32) (y_cl : Int32) : Mo_dy (Mo_s_cl (Mo_s_n (Mo_s_inn mo y_inn) y_n) y_cl) = Mo_dy mo := by
  obtain ⟨m1, m2, m3, m4, m5, m6, m7, m8, m9, m10, m11, m12, m13, m14, m15, m16, m17, m18, m19, m20, m21, m22, m23, m24, m25, m26, m27⟩ := mo
  exact Eq.trans (b := m10) rfl rfl
theorem ew_rw (mo : Mo) (y_inn : Int32) (y_n : Int32) (y_cl : Int32) : Mo_rw (Mo_s_cl (Mo_s_n (Mo_s_inn mo y_inn) y_n) y_cl) = Mo_rw mo := by
  obtain ⟨m1, m2, m3, m4, m5, m6, m7, m8, m9, m10, m11, m12, m13, m14, m15, m16, m17, m18, m19, m20, m21, m22, m23, m24, m25, m26, m27⟩ := mo
  exact Eq.trans (b := m6) rfl rfl
theorem Sx_ex (mo : Mo) (y_ex : (Nat → Int32)) : Sx mo (Mo_s_ex mo y_ex) := by
  refine ⟨Mo_wd mo, Mo_ht mo, Mo_rw mo, y_ex, Mo_bs mo, Mo_dx mo, Mo_dy mo, Mo_pl mo, ?_⟩
  obtain ⟨m1, m2, m3, m4, m5, m6, m7, m8, m9, m10, m11, m12, m13, m14, m15, m16, m17, m18, m19, m20, m21, m22, m23, m24, m25, m26, m27⟩ := mo
  exact Eq.trans (b := (m1, m2, m3, m4, m5, m6, y_ex, m8, m9, m10, m11, m12, m13, m14, m15, m16, m17, m18, m19, m20, m21, m22, m23, m24, m25, m26, m27)) rfl rfl
theorem Hm_f {mo N : Mo} (h : Hm mo N) : Mo_kind N = Mo_kind mo ∧ Mo_n N = Mo_n mo ∧ Mo_cl N = Mo_cl mo ∧ Mo_co N = Mo_co mo ∧ Mo_on N = Mo_on mo ∧ Mo_out N = Mo_out mo := by
  obtain ⟨_, _, _, _, _, _, _, _, _, _, _, _, _, _, _, _, rfl⟩ := h
  exact ⟨rfl, rfl, rfl, rfl, rfl, rfl⟩
theorem Cp_f {mo N : Mo} (h : Cp mo N) : Mo_kind N = Mo_kind mo ∧ Mo_cl N = Mo_cl mo ∧ Mo_co N = Mo_co mo ∧ Mo_on N = Mo_on mo ∧ Mo_out N = Mo_out mo ∧ Mo_inn N = Mo_inn mo := by
  obtain ⟨_, _, _, _, _, _, _, rfl⟩ := h
  exact ⟨rfl, rfl, rfl, rfl, rfl, rfl⟩
theorem Fm_tr {n : Nat} {a b c : Mo} (h1 : Fm 0 a b n) (h2 : Fm 0 b c n) : Fm 0 a c n := fun k hk => by
  obtain ⟨p1, p2, p3, p4, p5, p6, p7⟩ := h1 k hk
  obtain ⟨q1, q2, q3, q4, q5, q6, q7⟩ := h2 k hk
  exact ⟨q1.trans p1, q2.trans p2, q3.trans p3, q4.trans p4, q5.trans p5, q6.trans p6, fun y hy => (q7 y hy).trans (p7 y hy)⟩
theorem Iv_0 {v : Br} {mo : Mo} (h1 : Br_byL v = 3000) (h2 : Mo_inn mo = 0) : Iv (Br_s_n v 0) mo := ⟨0, by decide, h1, rfl, h2, fun i hi => by omega⟩
/-- a read that is refused leaves all but what waits to be read -/
theorem rl_no {kd : Int32} {sd : Sd} {cu : Sy} {w v v1 : Br} {mo M : Mo} (h : RlB kd sd cu w v mo) (hH : Hm mo M) (hF : Fm 0 mo M 40) (hv : Br_byL v1 = 3000) : RlB kd sd cu w (Br_s_n v1 0) (Mo_s_inn M 0) := by
  obtain ⟨N, hN⟩ : ∃ z, z = Mo_s_inn M 0 := ⟨_, rfl⟩
  have n0 : Mo_inn N = 0 := by subst hN; rfl
  have n1 : Hm mo N := Hm.trans hH (by subst hN; exact Hm_i M 0)
  have n2 : Fm 0 M N 40 := by subst hN; exact fun k _ => ⟨rfl, rfl, rfl, rfl, rfl, rfl, fun _ _ => rfl⟩
  rw [← hN]
  obtain ⟨⟨k1, k2⟩, ⟨n, wd, ht, hn, hm, hD, cl, c1, c2, c3⟩, ⟨m, o1, o2, o3, o4, o5, o6⟩, -⟩ := h
  obtain ⟨f1, f2, f3, f4, f5, f6⟩ := Hm_f n1
  have h40 := hD.1
  refine ⟨⟨k1, f1.trans k2⟩, ⟨n, wd, ht, hn, f2.trans hm, Dc_keep hD (fun k _ => ⟨rfl, rfl, rfl, rfl, rfl, rfl, fun _ _ => rfl⟩) (fun k hk => Fm_tr hF n2 k (by omega)), cl, c1, f3.trans c2, by rw [f4]; exact c3⟩, ⟨m, o1, o2, o3, o4, f5.trans o5, by rw [f6]; exact o6⟩, Iv_0 hv n0⟩
/-- what was read is what is there -/
theorem rl_yes {kd : Int32} {sd : Sd} {cu sy : Sy} {w v v1 : Br} {mo M : Mo} {many : Nat} {wd ht : Nat → Nat} (h : RlB kd sd cu w v mo) (hH : Hm mo M) (hv : Br_byL v1 = 3000) (hwy : Mo_why M = -1) (hn : Sy_n sy = nI many) (hD : Dc 40 sy M many wd ht) (hco : ∀ k, k < many → Sy_co sy k = -1) : ∃ mo' : Mo, j_Model_read_109_26 (nI many) M = some (nI many, mo') ∧ RlB kd sd sy w (Br_s_n v1 0) mo' := by
  have h40 := hD.1
  obtain ⟨N, hN⟩ : ∃ z, z = Mo_s_cl (Mo_s_n (Mo_s_inn M 0) (nI many)) 0 := ⟨_, rfl⟩
  have n1 : Mo_n N = nI many := by subst hN; exact ew_n M _ _ _
  have n2 : Mo_cl N = 0 := by subst hN; exact ew_cl M _ _ _
  have n3 : Mo_inn N = 0 := by subst hN; exact ew_inn M _ _ _
  have n4 : Mo_kind N = Mo_kind M := by subst hN; exact ew_kind M _ _ _
  have n5 : Mo_on N = Mo_on M := by subst hN; exact ew_on M _ _ _
  have n6 : Mo_out N = Mo_out M := by subst hN; exact ew_out M _ _ _
  have n7 : Fm 40 M N many := by
    intro k hk
    have q1 : Mo_wd N = Mo_wd M := by subst hN; exact ew_wd M _ _ _
    have q2 : Mo_ht N = Mo_ht M := by subst hN; exact ew_ht M _ _ _
    have q3 : Mo_ex N = Mo_ex M := by subst hN; exact ew_ex M _ _ _
    have q4 : Mo_bs N = Mo_bs M := by subst hN; exact ew_bs M _ _ _
    have q5 : Mo_dx N = Mo_dx M := by subst hN; exact ew_dx M _ _ _
    have q6 : Mo_dy N = Mo_dy M := by subst hN; exact ew_dy M _ _ _
    have q7 : Mo_rw N = Mo_rw M := by subst hN; exact ew_rw M _ _ _
    rw [q1, q2, q3, q4, q5, q6, q7]
    exact ⟨rfl, rfl, rfl, rfl, rfl, rfl, fun _ _ => rfl⟩
  have hDN : Dc 40 sy N many wd ht := Dc_keep hD (fun k _ => ⟨rfl, rfl, rfl, rfl, rfl, rfl, fun _ _ => rfl⟩) n7
  obtain ⟨mo', r1, r2, r3, r4⟩ := m_copy (n := many) (K := fun mo_70 => some (Mo_n mo_70, mo_70)) (mo0 := N) h40 (fun j hj => (hDN.2 j hj).2.2.1.2) many 0 100000 N (by omega) (by omega) n1 (Cp.refl N) (fun j hj => absurd hj (Nat.not_lt_zero _)) (fun k _ => ⟨rfl, rfl, rfl, rfl, rfl, rfl, fun _ _ => rfl⟩)
  obtain ⟨⟨k1, k2⟩, -, ⟨m, o1, o2, o3, o4, o5, o6⟩, -⟩ := h
  obtain ⟨f1, f2, f3, f4, f5, f6⟩ := Hm_f hH
  obtain ⟨g1, g2, g3, g4, g5, g6⟩ := Cp_f r3
  refine ⟨mo', ?_, ⟨k1, g1.trans (n4.trans (f1.trans k2))⟩, ⟨many, wd, ht, hn, r2, Dc_copy hDN r4, 0, Nat.zero_le _, g2.trans n2, fun k hk => ?_⟩, ⟨m, o1, o2, o3, o4, g4.trans (n5.trans (f5.trans o5)), by rw [g5, n6, f6]; exact o6⟩, Iv_0 hv (g6.trans n3)⟩
  · rw [j_Model_read_109_26, lt']
    refine Eq.trans (if_pos (show Mo_why M < 0 by rw [hwy]; decide)) ?_
    rw [lt', lt', ← hN]
    refine Eq.trans r1 ?_
    rw [r2]
  · rw [if_neg (Nat.not_lt_zero k)]
    exact hco k hk
theorem read_K0 {mo mo7 : Mo} (h7 : f_Model_beginBits (Mo_s_ia (Mo_s_why (Mo_s_code mo 0) (-1)) 0) = some mo7) : ∃ K : Mo → Option (Int32 × Mo), f_Model_read mo = l_Model_read_26 K 100000 (Mo_s_tk mo7 0) 0 ∧ (∀ M r M1, f_Model_takeNumber M = some (r, M1) → 0 ≤ Mo_why M1 → K M = j_Model_read_85_22 r M1) ∧ (∀ M r M1, f_Model_takeNumber M = some (r, M1) → ¬ 0 ≤ Mo_why M1 → r ≤ 40 → K M = j_Model_read_85_22 r M1) ∧ (∀ M r M1, f_Model_takeNumber M = some (r, M1) → ¬ 0 ≤ Mo_why M1 → ¬ r ≤ 40 → K M = j_Model_read_85_22 r (Mo_s_why M1 0)) := by
  rw [f_Model_read, lt', lt', lt', h7, bd_s, lt']
  exact ⟨_, rfl, fun _ _ _ h1 h2 => (bd_e h1).trans (if_pos h2), fun _ _ _ h1 h2 h3 => (bd_e h1).trans ((if_neg h2).trans (if_pos h3)), fun _ _ _ h1 h2 h3 => (bd_e h1).trans ((if_neg h2).trans ((if_neg h3).trans rfl))⟩
/-- the reference, when it has been told why not -/
theorem m_no (r : Int32) {M : Mo} (h : ¬ Mo_why M < 0) : j_Model_read_85_22 r M = some ((-1) - Mo_why M, Mo_s_inn M 0) := by
  rw [j_Model_read_85_22, if_pos (nlt_le h), j_Model_read_97_24, if_pos (nlt_le h), j_Model_read_109_26, lt']
  exact if_neg h
theorem m_no2 (r : Int32) {M : Mo} (h : ¬ Mo_why M < 0) : j_Model_read_97_24 r M = some ((-1) - Mo_why M, Mo_s_inn M 0) := by
  rw [j_Model_read_97_24, if_pos (nlt_le h), j_Model_read_109_26, lt']
  exact if_neg h
theorem m_no3 (r : Int32) {M : Mo} (h : ¬ Mo_why M < 0) : j_Model_read_109_26 r M = some ((-1) - Mo_why M, Mo_s_inn M 0) := by
  rw [j_Model_read_109_26, lt']
  exact if_neg h
theorem startR_P {pb : Pb} {v : Br} {M : Mo} {m : Nat} {K : Mo → Option (Int32 × Mo)} (hk : ¬ 2 ≤ Mo_kind M) (hI : Ivm v M m) (hia : Mo_ia M = 0) (hlo : Mo_lo M = 0) (hhi : Mo_hi M = 4294967295) (hch : ∀ c, c < 32 → Mo_ch M c = 32768) (htk : Mo_tk M = 0) : ∃ (b0 : Pb) (v0 : Br) (M1 : Mo) (a0 : Nat), f_P_PlainBits_startReading pb v = some (b0, v0) ∧ l_Model_read_26 K 100000 M 0 = K M1 ∧ RcP b0 v0 M1 m a0 ∧ a0 ≤ 8 ∧ Tm M M1 ∧ Br_byL v0 = Br_byL v := by
  refine ⟨_, _, M, 0, rfl, ?_, ⟨hk, hI, by decide, hia, 0, 0, Nat.zero_le _, by decide, rfl, rfl, Or.inl ⟨rfl, fun h => absurd h (by decide)⟩⟩, by decide, Tm.refl M, rfl⟩
  rw [l_Model_read_26, if_neg (show ¬ (4 : Int32) ≤ 0 by decide), if_neg (fun e : Mo_kind M = 2 => hk (by rw [e]; decide))]
theorem startC_l {m : Nat} {K1 : Cb → Br → Option (Cb × Br)} {K2 : Mo → Option (Int32 × Mo)} : ∀ (d i a m1 m2 : Nat) (cb : Cb) (v : Br) (mo : Mo), i + d = 4 → d < m1 → d < m2 → RcK cb v mo m a → a + d < 2 ^ 30 → ∃ (cb' : Cb) (v' : Br) (mo' : Mo) (a' : Nat), l_C_ChanceBits_startReading_18 K1 m1 cb v (nI i) = K1 cb' v' ∧ l_Model_read_26 K2 m2 mo (nI i) = K2 mo' ∧ RcK cb' v' mo' m a' ∧ a' ≤ a + d ∧ Tm mo mo' ∧ (Cb_lo cb' = Cb_lo cb ∧ Cb_hi cb' = Cb_hi cb ∧ Cb_ch cb' = Cb_ch cb) ∧ (Mo_lo mo' = Mo_lo mo ∧ Mo_hi mo' = Mo_hi mo ∧ Mo_ch mo' = Mo_ch mo) ∧ Br_byL v' = Br_byL v := by
  intro d
  induction d with
  | zero =>
    intro i a m1 m2 cb v mo hi h1 h2 hR ha
    obtain ⟨f1, rfl⟩ : ∃ f, m1 = f + 1 := ⟨m1 - 1, by omega⟩
    obtain ⟨f2, rfl⟩ : ∃ f, m2 = f + 1 := ⟨m2 - 1, by omega⟩
    have e : i = 4 := by omega
    subst e
    refine ⟨cb, v, mo, a, ?_, ?_, hR, by omega, Tm.refl mo, ⟨rfl, rfl, rfl⟩, ⟨rfl, rfl, rfl⟩, rfl⟩
    · rw [l_C_ChanceBits_startReading_18, if_pos (show (4 : Int32) ≤ nI 4 from nI_le (Nat.le_refl 4) (by decide))]
    · rw [l_Model_read_26, if_pos (show (4 : Int32) ≤ nI 4 from nI_le (Nat.le_refl 4) (by decide))]
  | succ d ih =>
    intro i a m1 m2 cb v mo hi h1 h2 hR ha
    obtain ⟨f1, rfl⟩ : ∃ f, m1 = f + 1 := ⟨m1 - 1, by omega⟩
    obtain ⟨f2, rfl⟩ : ∃ f, m2 = f + 1 := ⟨m2 - 1, by omega⟩
    obtain ⟨hk, hI, h30, hia, ⟨t, ht, htk, htc⟩, hcd⟩ := hR
    obtain ⟨x, t', n1, n2, n3, n4⟩ := next_of hI h30 hia ht htk htc
    obtain ⟨N, hN⟩ : ∃ z, z = Mo_s_tk (Mo_s_ia mo (nI (a + 1))) ((Mo_tk mo <<< ((8 : Int32).toInt64 &&& 63)) ||| x.toInt64) := ⟨_, rfl⟩
    have N1 : Mo_kind N = 2 := by subst hN; exact (td_kind mo _ _).trans hk
    have N2 : Mo_inn N = Mo_inn mo := by subst hN; exact td_inn mo _ _
    have N3 : Mo_inp N = Mo_inp mo := by subst hN; exact td_inp mo _ _
    have N4 : Mo_ia N = nI (a + 1) := by subst hN; exact td_ia mo _ _
    have N5 : Mo_tk N = (Mo_tk mo <<< ((8 : Int32).toInt64 &&& 63)) ||| x.toInt64 := by subst hN; exact td_tk mo _ _
    have N6 : Mo_lo N = Mo_lo mo := by subst hN; exact td_lo mo _ _
    have N7 : Mo_hi N = Mo_hi mo := by subst hN; exact td_hi mo _ _
    have N8 : Mo_ch N = Mo_ch mo := by subst hN; exact td_ch mo _ _
    have N9 : Tm mo N := by subst hN; exact Tm_D mo _ _
    have hIN : Ivm (Br_s_tk v (nI t')) N m := ⟨hI.1, hI.2.1, hI.2.2.1, N2.trans hI.2.2.2.1, by rw [N3]; exact hI.2.2.2.2⟩
    have h4 : ¬ (4 : Int32) ≤ nI i := nI_ge (b := 4) (by omega) (by decide)
    obtain ⟨cb', v', mo', a', r1, r2, r3, r4, r5, r6, ⟨s1, s2, s3⟩, r8⟩ := ih (i + 1) (a + 1) f1 f2 (Cb_s_cd cb ((Cb_cd cb <<< ((8 : Int32).toInt64 &&& 63)) ||| x.toInt64)) (Br_s_tk v (nI t')) N (by omega) (by omega) (by omega) ⟨N1, hIN, by omega, N4, ⟨t', n3, rfl, n4⟩, by
      show (Cb_cd cb <<< ((8 : Int32).toInt64 &&& 63)) ||| x.toInt64 = Mo_tk N
      rw [N5, hcd]⟩ (by omega)
    refine ⟨cb', v', mo', a', ?_, ?_, r3, by omega, Tm.trans N9 r5, r6, ⟨s1.trans N6, s2.trans N7, s3.trans N8⟩, r8⟩
    · rw [l_C_ChanceBits_startReading_18, if_neg h4]
      refine Eq.trans (bd_e n1) ?_
      change lt' _ _ = _
      rw [lt', lt', nI_1]
      exact r1
    · rw [l_Model_read_26, if_neg h4, if_pos hk]
      refine Eq.trans (bd_e n2) ?_
      change lt' _ _ = _
      rw [lt', ← hN, lt', nI_1]
      exact r2
theorem startR_C {cb : Cb} {v : Br} {M : Mo} {m : Nat} {K : Mo → Option (Int32 × Mo)} (hk : Mo_kind M = 2) (hI : Ivm v M m) (hia : Mo_ia M = 0) (hlo : Mo_lo M = 0) (hhi : Mo_hi M = 4294967295) (hch : ∀ c, c < 32 → Mo_ch M c = 32768) (htk : Mo_tk M = 0) : ∃ (b0 : Cb) (v0 : Br) (M1 : Mo) (a0 : Nat), f_C_ChanceBits_startReading cb v = some (b0, v0) ∧ l_Model_read_26 K 100000 M 0 = K M1 ∧ RcC b0 v0 M1 m a0 ∧ a0 ≤ 8 ∧ Tm M M1 ∧ Br_byL v0 = Br_byL v := by
  obtain ⟨C, hC⟩ : ∃ z : Cb, z = Cb_s_cd (Cb_s_ch (Cb_s_hi (Cb_s_lo cb 0) 4294967295) (va_fl (Cb_ch (Cb_s_hi (Cb_s_lo cb 0) 4294967295)) 32 32768)) 0 := ⟨_, rfl⟩
  have c1 : Cb_lo C = 0 := by subst hC; rfl
  have c2 : Cb_hi C = 4294967295 := by subst hC; rfl
  have c3 : Cb_cd C = 0 := by subst hC; rfl
  have c4 : ∀ c, c < 32 → Cb_ch C c = 32768 := by
    subst hC
    intro c hc
    show va_fl _ 32 32768 c = 32768
    unfold va_fl
    rw [if_pos hc]
  obtain ⟨cb', v', mo', a', r1, r2, r3, r4, r5, ⟨q1, q2, q3⟩, ⟨s1, s2, s3⟩, r8⟩ := startC_l (m := m) (K1 := fun cb_13 v_14 => some (cb_13, v_14)) (K2 := K) 4 0 0 100000 100000 C (Br_s_tk v 0) M (by omega) (by omega) (by omega) ⟨hk, hI, by decide, hia, ⟨0, Nat.zero_le _, rfl, Or.inl rfl⟩, c3.trans htk.symm⟩ (by decide)
  refine ⟨cb', v', mo', a', ?_, r2, ⟨r3, ⟨0, 4294967295, q1.trans (c1.trans rfl), q2.trans (c2.trans rfl), s1.trans (hlo.trans rfl), s2.trans (hhi.trans rfl), by decide, by decide⟩, fun c hc => ⟨32768, by decide, ?_, ?_⟩⟩, by omega, r5, r8⟩
  · rw [f_C_ChanceBits_startReading, f_C_ChanceBits_forget, f_ByteRow_takeFromFront, lt', bd_s, lt', lt', lt', bd_s, lt', ← hC]
    exact r1
  · rw [q3, c4 c hc]; rfl
  · rw [s3, hch c hc]; rfl
theorem takeSym_P {rd : Rd} {b b0 : Pb} {v v0 : Br} {sy : Sy} {M : Mo} {m a0 : Nat} (hst : f_P_PlainBits_startReading b v = some (b0, v0)) (hR : RcP b0 v0 M m a0) (ha : a0 ≤ 8) (hm : m ≤ 3000) (hwy : Mo_why M = -1) (hn : Sy_n sy = 0) (hkd : (Rd_br rd = 0 ∧ ¬ Mo_kind M = 1) ∨ (Rd_br rd = 1 ∧ Mo_kind M = 1)) :
    ∃ (r : Int32) (M1 : Mo), f_Model_takeNumber M = some (r, M1) ∧
      ((∃ (rd' : Rd) (b' : Pb) (v' : Br) (sy' : Sy) (M2 : Mo), f_P_Reader_takeSymbols rd b v sy = some (0, rd', b', v', sy') ∧ ((0 ≤ Mo_why M1 ∧ M2 = M1) ∨ (¬ 0 ≤ Mo_why M1 ∧ ¬ r ≤ 40 ∧ M2 = Mo_s_why M1 0)) ∧ Rd_wy rd' = Mo_why M2 ∧ ¬ Mo_why M2 < 0 ∧ Rd_br rd' = Rd_br rd ∧ Br_byL v' = Br_byL v0 ∧ Gr 0 M M2) ∨
      ∃ many : Nat, many ≤ 40 ∧ r = nI many ∧ ¬ 0 ≤ Mo_why M1 ∧ Out_P (f_P_Reader_takeSymbols rd b v sy) (f_Model_readClasses M1 (nI many)) (Rd_br rd) m many 71000000 v0 M) := by
  obtain ⟨wy0, kd, h0, w0⟩ := rd
  obtain ⟨a1, b1, v1, M1, t1, t2, t3, t4, t5, t6⟩ := takeNum_P hR (by omega)
  have hw1 : Mo_why M1 = -1 := (Tm_w t4).1.trans hwy
  rcases t6 with ⟨u1, u2⟩ | ⟨x, hx, u1, u2, -⟩
  · refine ⟨0, Mo_s_why M1 7, u2, Or.inl ⟨(7, kd, h0, w0), b1, v1, sy, Mo_s_why M1 7, ?_, Or.inl ⟨by rw [wz]; decide, rfl⟩, (wz M1 7).symm, by rw [wz]; decide, rfl, t5, Gr_fp (Fp.trans (Fp.of t4) (Fp_w M1 7))⟩⟩
    rw [f_P_Reader_takeSymbols]
    refine Eq.trans (bd_e hst) ?_
    refine Eq.trans (bd_e u1) ?_
    rfl
  · have hw0 : ¬ (0 : Int32) ≤ Mo_why M1 := by rw [hw1]; decide
    refine ⟨nI x, M1, u2, ?_⟩
    rcases (Decidable.em (x ≤ 40)).symm with e1 | e1
    · have h40 : ¬ nI x ≤ 40 := nI_ge (a := 40) (by omega) (by omega)
      refine Or.inl ⟨(0, kd, h0, w0), b1, v1, sy, Mo_s_why M1 0, ?_, Or.inr ⟨hw0, h40, rfl⟩, (wz M1 0).symm, by rw [wz]; decide, rfl, t5, Gr_fp (Fp.trans (Fp.of t4) (Fp_w M1 0))⟩
      rw [f_P_Reader_takeSymbols]
      refine Eq.trans (bd_e hst) ?_
      refine Eq.trans (bd_e u1) ?_
      refine Eq.trans (if_neg (nI_m1 (by omega))) ?_
      refine Eq.trans (if_neg h40) ?_
      rfl
    · have h40 : nI x ≤ 40 := nI_le (b := 40) e1 (by decide)
      refine Or.inr ⟨x, e1, rfl, hw0, ?_⟩
      refine Out_P.of ?_ t5 (Gr_tm t4)
      have hD0 : Dc 40 sy M1 0 (fun _ => 0) (fun _ => 0) := ⟨by decide, fun k hk => absurd hk (Nat.not_lt_zero _)⟩
      by_cases e2 : x = 0
      · subst e2
        right
        refine ⟨(wy0, kd, 0, 0), b1, v1, sy, M1, a1, fun _ => 0, fun _ => 0, ?_, ?_, t1, by omega, hw1, hn, hD0, fun k hk => absurd hk (Nat.not_lt_zero _), rfl, rfl, Gr.refl 0 M1⟩
        · rw [f_P_Reader_takeSymbols]
          refine Eq.trans (bd_e hst) ?_
          refine Eq.trans (bd_e u1) ?_
          refine Eq.trans (if_neg (nI_m1 (by omega))) ?_
          refine Eq.trans (if_pos h40) ?_
          rw [lt', lt', l_P_Reader_takeSymbols_51]
          refine Eq.trans (if_pos (show nI 0 ≤ 0 by decide)) ?_
          exact if_pos (show nI 0 = 0 from rfl)
        · rw [f_Model_readClasses, l_Model_readClasses_4]
          exact if_pos (show nI 0 ≤ 0 by decide)
      · have hx0 : ¬ nI x = 0 := nI_ne0 (by omega) (by omega)
        obtain ⟨k73, k100, k108, hC, h73, h100, hk0, hk1⟩ : ∃ (k73 k100 k108 : Rd → Pb → Br → Sy → Option (Int32 × Rd × Pb × Br × Sy)), f_P_Reader_takeSymbols (wy0, kd, h0, w0) b v sy = l_P_Reader_takeSymbols_51 (nI x) k73 k100 k108 100000 (wy0, kd, nI 0, nI 0) b1 v1 sy (nI 0) ∧ (∀ rd b v sy, k73 rd b v sy = some (0, rd, b, v, sy)) ∧ (∀ rd b v sy, k100 rd b v sy = some (0, rd, b, v, sy)) ∧ (∀ rd b v sy b' v', f_P_PlainBits_takeBit b v (-1) = some (0, b', v') → k108 rd b v sy = some (1, rd, b', v', sy)) ∧ (∀ rd b v sy b' v', f_P_PlainBits_takeBit b v (-1) = some (1, b', v') → k108 rd b v sy = some (0, Rd_s_wy rd 0, b', v', sy)) := by
          rw [f_P_Reader_takeSymbols]
          exact ⟨_, _, _, (bd_e hst).trans ((bd_e u1).trans ((if_neg (nI_m1 (by omega))).trans ((if_pos h40).trans rfl))), fun _ _ _ _ => rfl, fun _ _ _ _ => rfl, fun _ _ _ _ _ _ h => (if_neg hx0).trans ((bd_e h).trans rfl), fun _ _ _ _ _ _ h => (if_neg hx0).trans ((bd_e h).trans rfl)⟩
        obtain ⟨F, G, T, S, hB, hF0, hF1, hG0, hG1, hS0, hT0, hT1⟩ := body_P (x2 := nI x) (at_ := 0) (k108 := k108) (n := 99999) (rd := (wy0, kd, nI 0, nI 0)) (b := b1) (v := v1) (sy := sy) h73 h100 (nI_ge (by omega) (by omega))
        have hts : f_P_Reader_takeSize (wy0, kd, nI 0, nI 0) b1 v1 sy = j_P_Reader_takeSize_23_4 (wy0, kd, nI 0, nI 0) sy b1 v1 1 := by
          rw [f_P_Reader_takeSize, if_pos hn]
        rw [hts] at hB
        have hC2 := hC.trans hB
        rw [hC2]
        have hS1 : St_P b1 v1 sy M1 m a1 0 0 0 kd (fun _ => 0) (fun _ => 0) := ⟨t1, hw1, hn, hD0, fun i hi => absurd hi (Nat.not_lt_zero _), fun k hk => absurd hk (Nat.not_lt_zero _), by rw [(Tm_s t4).2.2.2.2.2.2.2.2]; exact hkd⟩
        rw [f_Model_readClasses]
        exact newclass_P (at_ := 0) (many := x) (W := 0) (H := 0) (f := 99999) (k171 := fun mo_49 => some mo_49) (k175 := fun mo_50 => some mo_50) (by omega) e1 hm (by decide) hS1 (by omega) (fun _ => rfl) hF0 hF1 hG0 hG1 hS0 hT0 hT1 (fun H' w a' b' v' sy' mo' wd' ht' q1 q2 q3 q4 q5 q6 => loop_P (a0 := 80) (k171 := fun mo_49 => some mo_49) (k175 := fun mo_50 => some mo_50) e1 hm (by decide) (by decide) h73 h100 hk0 hk1 (fun _ => rfl) (fun _ => rfl) (x - 1) 1 0 H' w a' 99999 99999 99999 wy0 b' v' sy' mo' wd' ht' (by omega) (by omega) q1 q2 q3 (by omega) (by omega) (by omega) (by omega) (by omega) q5 q6 (by omega))
theorem takeExp_P {rd : Rd} {b : Pb} {v : Br} {sy : Sy} {M : Mo} {m a many : Nat} {wd ht : Nat → Nat} (hR : RcP b v M m a) (ha : a ≤ 71000000) (hwy : Mo_why M = -1) (hn : Sy_n sy = nI many) (hD : Dc 40 sy M many wd ht) :
    (∃ (rd' : Rd) (b' : Pb) (v' : Br) (sy' : Sy) (M' : Mo), f_P_Reader_takeExports rd b v sy = some (0, rd', b', v', sy') ∧ f_Model_readExports M (nI many) = some M' ∧ Rd_wy rd' = Mo_why M' ∧ ¬ Mo_why M' < 0 ∧ Rd_br rd' = Rd_br rd ∧ Br_byL v' = Br_byL v ∧ Gr 0 M M') ∨
    ∃ (b' : Pb) (v' : Br) (h : Nat → Int32) (M' : Mo), f_P_Reader_takeExports rd b v sy = some (1, rd, b', v', Sy_s_ex sy h) ∧ f_Model_readExports M (nI many) = some M' ∧ Mo_why M' = -1 ∧ Dc 40 (Sy_s_ex sy h) M' many wd ht ∧ Br_byL v' = Br_byL v ∧ Gr 0 M M' := by
  have h40 := hD.1
  obtain ⟨k39, k67, k121, hC, h39, h67, h121⟩ : ∃ (k39 k67 k121 : Pb → Br → Sy → Option (Int32 × Rd × Pb × Br × Sy)), f_P_Reader_takeExports rd b v sy = l_P_Reader_takeExports_7 rd k39 k67 k121 100000 b v sy (nI 0) (nI 0) (nI 0) ∧ (∀ b v sy, k39 b v sy = some (0, Rd_s_wy rd 7, b, v, sy)) ∧ (∀ b v sy, k67 b v sy = some (0, Rd_s_wy rd 6, b, v, sy)) ∧ (∀ b v sy, k121 b v sy = some (1, rd, b, v, sy)) := by
    rw [f_P_Reader_takeExports]
    exact ⟨_, _, _, rfl, fun _ _ _ => rfl, fun _ _ _ => rfl, fun _ _ _ => rfl⟩
  obtain ⟨j56, j104, hM, h56, h104⟩ : ∃ (j56 j104 : Mo → Option Mo), f_Model_readExports M (nI many) = l_Model_readExports_4 (nI many) j56 j104 100000 M (nI 0) (nI 0) ∧ (∀ M, j56 M = some M) ∧ (∀ M, j104 M = some M) := by
    rw [f_Model_readExports]
    exact ⟨_, _, rfl, fun _ => rfl, fun _ => rfl⟩
  rw [hC, hM]
  have hEx : ∀ g : Nat → Int32, (∀ j, j < 40 → g j = Mo_ex M j) → Gr 0 M (Mo_s_ex M g) := fun g hg => Gr_sm (Sx_ex M g) (fun j _ => rfl) (fun j _ => rfl) (fun j hj => hg j (by omega)) (fun j _ => rfl) (fun j _ => rfl) (fun j _ => rfl) (fun j _ => rfl)
  rcases exps_P (rd := rd) (k39 := k39) (k67 := k67) (k121 := k121) (j56 := j56) (j104 := j104) (m := m) (a0 := a) h40 (by omega) 100000 0 0 0 a b v sy M (by omega) (by omega) (Nat.zero_le _) (by decide) (fun _ => ⟨rfl, rfl⟩) (fun h => absurd h (by decide)) hR (by omega) hn hwy (fun j hj => absurd hj (Nat.not_lt_zero _)) with ⟨b', v', sy', mo', g, z1, z2, z3, z4⟩ | ⟨b', v', h9, g, mo', z1, z2, z3, z4, z5, z6⟩
  · left
    have hG := Gr.trans (hEx g z2) (Gr_fp z3)
    rcases z4 with ⟨y1, y2, y3⟩ | ⟨y1, y2, y3⟩
    · exact ⟨Rd_s_wy rd 7, b', v', sy', mo', y1.trans (h39 _ _ _), y2.trans (h56 _), y3.symm, by rw [y3]; decide, rfl, z1, hG⟩
    · exact ⟨Rd_s_wy rd 6, b', v', sy', mo', y1.trans (h67 _ _ _), y2.trans (h56 _), y3.symm, by rw [y3]; decide, rfl, z1, hG⟩
  · right
    obtain ⟨w1, w2, w3, w4, w5, w6, w7, w8, w9⟩ := Tm_s z5
    refine ⟨b', v', h9, mo', z1.trans (h121 _ _ _), z2.trans (h104 _), w8.trans hwy, ⟨h40, fun k hk => ?_⟩, z6, Gr.trans (hEx g z4) (Gr_tm z5)⟩
    obtain ⟨q1, q2, q3, q4⟩ := hD.2 k hk
    rw [w1, w2, w3, w4, w5, w6, w7]
    exact ⟨q1, q2, z3 k hk, q4⟩
theorem Q_read_P {kd : Int32} {sd : Sd} {cu sp : Sy} {w v : Br} {rd : Rd} {b : Pb} {mo : Mo} (h : RlB kd sd cu w v mo) (hkd0 : kd = 0 ∨ kd = 1) (hbr : (Rd_br rd = 0 ∧ ¬ kd = 1) ∨ (Rd_br rd = 1 ∧ kd = 1)) :
    (∃ (r : Int32) (rd' : Rd) (b' : Pb) (v' : Br) (sp' : Sy) (mo' : Mo), f_P_SD_readN sd rd b v cu sp = some (r, rd', b', v', sp') ∧ f_Model_read mo = some (r, mo') ∧ Br_byL v' = Br_byL v ∧ Rd_br rd' = Rd_br rd ∧ RlB kd sd cu w v' mo') ∨
    (∃ (r : Int32) (rd' : Rd) (b' : Pb) (v' : Br) (sp' : Sy) (mo' : Mo), f_P_SD_readY sd rd b v cu sp = some (r, rd', b', v', sp') ∧ f_Model_read mo = some (r, mo') ∧ Br_byL v' = Br_byL v ∧ Rd_br rd' = Rd_br rd ∧ RlB kd sd sp' w v' mo') := by
  have h0 := h
  obtain ⟨⟨k1, k2⟩, -, -, ⟨m, i1, i2, i3, i4, i5⟩⟩ := h
  obtain ⟨ch, g1, g2⟩ := m_begin (Mo_s_ia (Mo_s_why (Mo_s_code mo 0) (-1)) 0)
  obtain ⟨readK, hread0, read_K1, read_K2, read_K3⟩ := read_K0 g1
  obtain ⟨M0, hM0⟩ : ∃ z, z = Mo_s_tk (Mo_s_ch (Mo_s_hi (Mo_s_lo (Mo_s_ia (Mo_s_why (Mo_s_code mo 0) (-1)) 0) 0) 4294967295) ch) 0 := ⟨_, rfl⟩
  rw [← hM0] at hread0
  have m1 : Mo_kind M0 = kd := by subst hM0; exact (rz_kind mo _ _ _ _ _ _ _).trans k2
  have m2 : Mo_inn M0 = Mo_inn mo := by subst hM0; exact rz_inn mo _ _ _ _ _ _ _
  have m3 : Mo_inp M0 = Mo_inp mo := by subst hM0; exact rz_inp mo _ _ _ _ _ _ _
  have m4 : Mo_ia M0 = 0 := by subst hM0; exact rz_ia mo _ _ _ _ _ _ _
  have m5 : Mo_why M0 = -1 := by subst hM0; exact rz_why mo _ _ _ _ _ _ _
  have m6 : Mo_lo M0 = 0 := by subst hM0; exact rz_lo mo _ _ _ _ _ _ _
  have m7 : Mo_hi M0 = 4294967295 := by subst hM0; exact rz_hi mo _ _ _ _ _ _ _
  have m8 : Mo_ch M0 = ch := by subst hM0; exact rz_ch mo _ _ _ _ _ _ _
  have m9 : Mo_tk M0 = 0 := by subst hM0; exact rz_tk mo _ _ _ _ _ _ _
  have mH : Hm mo M0 := by subst hM0; exact Hm_0 mo _ _ _ _ _ _ _
  have mF : Fm 0 mo M0 40 := by
    intro k hk
    have q1 : Mo_wd M0 = Mo_wd mo := by subst hM0; exact rz_wd mo _ _ _ _ _ _ _
    have q2 : Mo_ht M0 = Mo_ht mo := by subst hM0; exact rz_ht mo _ _ _ _ _ _ _
    have q3 : Mo_ex M0 = Mo_ex mo := by subst hM0; exact rz_ex mo _ _ _ _ _ _ _
    have q4 : Mo_bs M0 = Mo_bs mo := by subst hM0; exact rz_bs mo _ _ _ _ _ _ _
    have q5 : Mo_dx M0 = Mo_dx mo := by subst hM0; exact rz_dx mo _ _ _ _ _ _ _
    have q6 : Mo_dy M0 = Mo_dy mo := by subst hM0; exact rz_dy mo _ _ _ _ _ _ _
    have q7 : Mo_rw M0 = Mo_rw mo := by subst hM0; exact rz_rw mo _ _ _ _ _ _ _
    rw [q1, q2, q3, q4, q5, q6, q7]
    exact ⟨rfl, rfl, rfl, rfl, rfl, rfl, fun _ _ => rfl⟩
  have hI : Ivm v M0 m := ⟨i1, i2, i3, m2.trans i4, by rw [m3]; exact i5⟩
  obtain ⟨b0, v0, M, a0, s1, s2, s3, s4, s5, s6⟩ := startR_P (K := readK) (by rw [m1]; rcases hkd0 with e | e <;> (rw [e]; decide)) hI m4 m6 m7 (by rw [m8]; exact g2) m9
  have hread : f_Model_read mo = readK M := hread0.trans s2
  have hMH : Hm mo M := Hm.trans mH (Hm.gm (Gm.tm s5))
  have hMF : Fm 0 mo M 40 := Fm_tr mF (Gr_tm (n := 0) s5).2
  obtain ⟨-, -, -, -, -, -, -, x8, x9⟩ := Tm_s s5
  obtain ⟨r, M1, hT, hcase⟩ := takeSym_P (rd := rd) (sy := Sy_s_n sp 0) s1 s3 s4 i1 (x8.trans m5) rfl (by rw [x9, m1]; exact hbr)
  have hrm : ∀ v' : Br, f_ByteRow_removeAll v' = some (Br_s_n v' 0) := fun _ => rfl
  rcases hcase with ⟨rd', b', v', sy', M2, c1, c2, c3, c4, c5, c6, c7⟩ | ⟨many, c1, c2, c3, c4⟩
  · left
    refine ⟨(-1) - Mo_why M2, rd', b', Br_s_n v' 0, sy', Mo_s_inn M2 0, ?_, ?_, c6.trans s6, c5, rl_no h0 (Hm.trans hMH (Hm.gm c7.1)) (Fm_tr hMF c7.2) (c6.trans (s6.trans i2))⟩
    · rw [f_P_SD_readN]
      refine Eq.trans (bd_e (show f_Symbols_removeAll sp = some (Sy_s_n sp 0) from rfl)) ?_
      refine Eq.trans (bd_e c1) ?_
      refine Eq.trans (if_pos rfl) ?_
      rw [j_P_SD_readN_40_12]
      refine Eq.trans (bd_e (hrm v')) ?_
      refine Eq.trans (if_pos rfl) ?_
      rw [c3]
    · rw [hread]
      rcases c2 with ⟨y1, y2⟩ | ⟨y1, y2, y3⟩
      · rw [read_K1 M r M1 hT y1, ← y2]; exact m_no r c4
      · rw [read_K3 M r M1 hT y1 y2, ← y3]; exact m_no r c4
  · subst c2
    have hKM := read_K2 M _ M1 hT c3 (nI_le (b := 40) c1 (by decide))
    rw [j_Model_read_85_22, if_neg c3] at hKM
    rcases c4 with ⟨rd', b', v', sy', M2, d1, d2, d3, d4, d5, d6, d7⟩ | ⟨rd', b', v', sy', M2, a', wd, ht, d1, d2, d3, d4, d5, d6, d7, d8, d9, d10, d11⟩
    · left
      refine ⟨(-1) - Mo_why M2, rd', b', Br_s_n v' 0, sy', Mo_s_inn M2 0, ?_, ?_, d6.trans s6, d5, rl_no h0 (Hm.trans hMH (Hm.gm d7.1)) (Fm_tr hMF d7.2) (d6.trans (s6.trans i2))⟩
      · rw [f_P_SD_readN]
        refine Eq.trans (bd_e (show f_Symbols_removeAll sp = some (Sy_s_n sp 0) from rfl)) ?_
        refine Eq.trans (bd_e d1) ?_
        refine Eq.trans (if_pos rfl) ?_
        rw [j_P_SD_readN_40_12]
        refine Eq.trans (bd_e (hrm v')) ?_
        refine Eq.trans (if_pos rfl) ?_
        rw [d3]
      · rw [hread, hKM]
        refine Eq.trans (bd_e d2) ?_
        exact m_no2 _ d4
    · have hKM2 : readK M = if 0 ≤ Mo_why M2 then j_Model_read_109_26 (nI many) M2 else bd (f_Model_readExports M2 (nI many)) (fun mo_72 => j_Model_read_109_26 (nI many) mo_72) := hKM.trans (bd_e d2)
      rw [if_neg (show ¬ (0 : Int32) ≤ Mo_why M2 by rw [d5]; decide)] at hKM2
      rcases takeExp_P (rd := rd') d3 d4 d5 d6 d7 with ⟨rd2, b2, v2, sy2, M3, e1, e2, e3, e4, e5, e6, e7⟩ | ⟨b2, v2, h9, M3, e1, e2, e3, e4, e5, e6⟩
      · left
        refine ⟨(-1) - Mo_why M3, rd2, b2, Br_s_n v2 0, sy2, Mo_s_inn M3 0, ?_, ?_, e6.trans (d10.trans s6), e5.trans d9, rl_no h0 (Hm.trans hMH (Hm.trans (Hm.gm d11.1) (Hm.gm e7.1))) (Fm_tr hMF (Fm_tr d11.2 e7.2)) (e6.trans (d10.trans (s6.trans i2)))⟩
        · rw [f_P_SD_readN]
          refine Eq.trans (bd_e (show f_Symbols_removeAll sp = some (Sy_s_n sp 0) from rfl)) ?_
          refine Eq.trans (bd_e d1) ?_
          refine Eq.trans (if_neg (show ¬ (1 : Int32) = 0 by decide)) ?_
          refine Eq.trans (bd_e e1) ?_
          refine Eq.trans (if_pos rfl) ?_
          rw [j_P_SD_readN_40_12]
          refine Eq.trans (bd_e (hrm v2)) ?_
          refine Eq.trans (if_pos rfl) ?_
          rw [e3]
        · rw [hread, hKM2]
          refine Eq.trans (bd_e e2) ?_
          exact m_no3 _ e4
      · right
        obtain ⟨mo', y1, y2⟩ := rl_yes (v1 := v2) (sy := Sy_s_ex sy' h9) h0 (Hm.trans hMH (Hm.trans (Hm.gm d11.1) (Hm.gm e6.1))) (e5.trans (d10.trans (s6.trans i2))) e3 d6 e4 d8
        refine ⟨nI many, rd', b2, Br_s_n v2 0, Sy_s_ex sy' h9, mo', ?_, ?_, e5.trans (d10.trans s6), d9, y2⟩
        · rw [f_P_SD_readY]
          refine Eq.trans (bd_e (show f_Symbols_removeAll sp = some (Sy_s_n sp 0) from rfl)) ?_
          refine Eq.trans (bd_e d1) ?_
          refine Eq.trans (if_neg (show ¬ (1 : Int32) = 0 by decide)) ?_
          refine Eq.trans (bd_e e1) ?_
          refine Eq.trans (if_neg (show ¬ (1 : Int32) = 0 by decide)) ?_
          rw [j_P_SD_readY_40_12]
          refine Eq.trans (bd_e (hrm v2)) ?_
          refine Eq.trans (if_neg (show ¬ (1 : Int32) = 0 by decide)) ?_
          rw [show Sy_n (Sy_s_ex sy' h9) = nI many from d6]
        · rw [hread, hKM2]
          refine Eq.trans (bd_e e2) ?_
          exact y1
theorem takeSym_C {rd : Rd} {b b0 : Cb} {v v0 : Br} {sy : Sy} {M : Mo} {m a0 : Nat} (hst : f_C_ChanceBits_startReading b v = some (b0, v0)) (hR : RcC b0 v0 M m a0) (ha : a0 ≤ 8) (hm : m ≤ 3000) (hwy : Mo_why M = -1) (hn : Sy_n sy = 0) (hkd : (Rd_br rd = 0 ∧ ¬ Mo_kind M = 1) ∨ (Rd_br rd = 1 ∧ Mo_kind M = 1)) :
    ∃ (r : Int32) (M1 : Mo), f_Model_takeNumber M = some (r, M1) ∧
      ((∃ (rd' : Rd) (b' : Cb) (v' : Br) (sy' : Sy) (M2 : Mo), f_C_Reader_takeSymbols rd b v sy = some (0, rd', b', v', sy') ∧ ((0 ≤ Mo_why M1 ∧ M2 = M1) ∨ (¬ 0 ≤ Mo_why M1 ∧ ¬ r ≤ 40 ∧ M2 = Mo_s_why M1 0)) ∧ Rd_wy rd' = Mo_why M2 ∧ ¬ Mo_why M2 < 0 ∧ Rd_br rd' = Rd_br rd ∧ Br_byL v' = Br_byL v0 ∧ Gr 0 M M2) ∨
      ∃ many : Nat, many ≤ 40 ∧ r = nI many ∧ ¬ 0 ≤ Mo_why M1 ∧ Out_C (f_C_Reader_takeSymbols rd b v sy) (f_Model_readClasses M1 (nI many)) (Rd_br rd) m many 71000000 v0 M) := by
  obtain ⟨wy0, kd, h0, w0⟩ := rd
  obtain ⟨a1, b1, v1, M1, t1, t2, t3, t4, t5, t6⟩ := takeNum_C hR (by omega)
  have hw1 : Mo_why M1 = -1 := (Tm_w t4).1.trans hwy
  rcases t6 with ⟨u1, u2⟩ | ⟨x, hx, u1, u2, -⟩
  · refine ⟨0, Mo_s_why M1 7, u2, Or.inl ⟨(7, kd, h0, w0), b1, v1, sy, Mo_s_why M1 7, ?_, Or.inl ⟨by rw [wz]; decide, rfl⟩, (wz M1 7).symm, by rw [wz]; decide, rfl, t5, Gr_fp (Fp.trans (Fp.of t4) (Fp_w M1 7))⟩⟩
    rw [f_C_Reader_takeSymbols]
    refine Eq.trans (bd_e hst) ?_
    refine Eq.trans (bd_e u1) ?_
    rfl
  · have hw0 : ¬ (0 : Int32) ≤ Mo_why M1 := by rw [hw1]; decide
    refine ⟨nI x, M1, u2, ?_⟩
    rcases (Decidable.em (x ≤ 40)).symm with e1 | e1
    · have h40 : ¬ nI x ≤ 40 := nI_ge (a := 40) (by omega) (by omega)
      refine Or.inl ⟨(0, kd, h0, w0), b1, v1, sy, Mo_s_why M1 0, ?_, Or.inr ⟨hw0, h40, rfl⟩, (wz M1 0).symm, by rw [wz]; decide, rfl, t5, Gr_fp (Fp.trans (Fp.of t4) (Fp_w M1 0))⟩
      rw [f_C_Reader_takeSymbols]
      refine Eq.trans (bd_e hst) ?_
      refine Eq.trans (bd_e u1) ?_
      refine Eq.trans (if_neg (nI_m1 (by omega))) ?_
      refine Eq.trans (if_neg h40) ?_
      rfl
    · have h40 : nI x ≤ 40 := nI_le (b := 40) e1 (by decide)
      refine Or.inr ⟨x, e1, rfl, hw0, ?_⟩
      refine Out_C.of ?_ t5 (Gr_tm t4)
      have hD0 : Dc 40 sy M1 0 (fun _ => 0) (fun _ => 0) := ⟨by decide, fun k hk => absurd hk (Nat.not_lt_zero _)⟩
      by_cases e2 : x = 0
      · subst e2
        right
        refine ⟨(wy0, kd, 0, 0), b1, v1, sy, M1, a1, fun _ => 0, fun _ => 0, ?_, ?_, t1, by omega, hw1, hn, hD0, fun k hk => absurd hk (Nat.not_lt_zero _), rfl, rfl, Gr.refl 0 M1⟩
        · rw [f_C_Reader_takeSymbols]
          refine Eq.trans (bd_e hst) ?_
          refine Eq.trans (bd_e u1) ?_
          refine Eq.trans (if_neg (nI_m1 (by omega))) ?_
          refine Eq.trans (if_pos h40) ?_
          rw [lt', lt', l_C_Reader_takeSymbols_51]
          refine Eq.trans (if_pos (show nI 0 ≤ 0 by decide)) ?_
          exact if_pos (show nI 0 = 0 from rfl)
        · rw [f_Model_readClasses, l_Model_readClasses_4]
          exact if_pos (show nI 0 ≤ 0 by decide)
      · have hx0 : ¬ nI x = 0 := nI_ne0 (by omega) (by omega)
        obtain ⟨k73, k100, k108, hC, h73, h100, hk0, hk1⟩ : ∃ (k73 k100 k108 : Rd → Cb → Br → Sy → Option (Int32 × Rd × Cb × Br × Sy)), f_C_Reader_takeSymbols (wy0, kd, h0, w0) b v sy = l_C_Reader_takeSymbols_51 (nI x) k73 k100 k108 100000 (wy0, kd, nI 0, nI 0) b1 v1 sy (nI 0) ∧ (∀ rd b v sy, k73 rd b v sy = some (0, rd, b, v, sy)) ∧ (∀ rd b v sy, k100 rd b v sy = some (0, rd, b, v, sy)) ∧ (∀ rd b v sy b' v', f_C_ChanceBits_takeBit b v (-1) = some (0, b', v') → k108 rd b v sy = some (1, rd, b', v', sy)) ∧ (∀ rd b v sy b' v', f_C_ChanceBits_takeBit b v (-1) = some (1, b', v') → k108 rd b v sy = some (0, Rd_s_wy rd 0, b', v', sy)) := by
          rw [f_C_Reader_takeSymbols]
          exact ⟨_, _, _, (bd_e hst).trans ((bd_e u1).trans ((if_neg (nI_m1 (by omega))).trans ((if_pos h40).trans rfl))), fun _ _ _ _ => rfl, fun _ _ _ _ => rfl, fun _ _ _ _ _ _ h => (if_neg hx0).trans ((bd_e h).trans rfl), fun _ _ _ _ _ _ h => (if_neg hx0).trans ((bd_e h).trans rfl)⟩
        obtain ⟨F, G, T, S, hB, hF0, hF1, hG0, hG1, hS0, hT0, hT1⟩ := body_C (x2 := nI x) (at_ := 0) (k108 := k108) (n := 99999) (rd := (wy0, kd, nI 0, nI 0)) (b := b1) (v := v1) (sy := sy) h73 h100 (nI_ge (by omega) (by omega))
        have hts : f_C_Reader_takeSize (wy0, kd, nI 0, nI 0) b1 v1 sy = j_C_Reader_takeSize_23_4 (wy0, kd, nI 0, nI 0) sy b1 v1 1 := by
          rw [f_C_Reader_takeSize, if_pos hn]
        rw [hts] at hB
        have hC2 := hC.trans hB
        rw [hC2]
        have hS1 : St_C b1 v1 sy M1 m a1 0 0 0 kd (fun _ => 0) (fun _ => 0) := ⟨t1, hw1, hn, hD0, fun i hi => absurd hi (Nat.not_lt_zero _), fun k hk => absurd hk (Nat.not_lt_zero _), by rw [(Tm_s t4).2.2.2.2.2.2.2.2]; exact hkd⟩
        rw [f_Model_readClasses]
        exact newclass_C (at_ := 0) (many := x) (W := 0) (H := 0) (f := 99999) (k171 := fun mo_49 => some mo_49) (k175 := fun mo_50 => some mo_50) (by omega) e1 hm (by decide) hS1 (by omega) (fun _ => rfl) hF0 hF1 hG0 hG1 hS0 hT0 hT1 (fun H' w a' b' v' sy' mo' wd' ht' q1 q2 q3 q4 q5 q6 => loop_C (a0 := 80) (k171 := fun mo_49 => some mo_49) (k175 := fun mo_50 => some mo_50) e1 hm (by decide) (by decide) h73 h100 hk0 hk1 (fun _ => rfl) (fun _ => rfl) (x - 1) 1 0 H' w a' 99999 99999 99999 wy0 b' v' sy' mo' wd' ht' (by omega) (by omega) q1 q2 q3 (by omega) (by omega) (by omega) (by omega) (by omega) q5 q6 (by omega))
theorem takeExp_C {rd : Rd} {b : Cb} {v : Br} {sy : Sy} {M : Mo} {m a many : Nat} {wd ht : Nat → Nat} (hR : RcC b v M m a) (ha : a ≤ 71000000) (hwy : Mo_why M = -1) (hn : Sy_n sy = nI many) (hD : Dc 40 sy M many wd ht) :
    (∃ (rd' : Rd) (b' : Cb) (v' : Br) (sy' : Sy) (M' : Mo), f_C_Reader_takeExports rd b v sy = some (0, rd', b', v', sy') ∧ f_Model_readExports M (nI many) = some M' ∧ Rd_wy rd' = Mo_why M' ∧ ¬ Mo_why M' < 0 ∧ Rd_br rd' = Rd_br rd ∧ Br_byL v' = Br_byL v ∧ Gr 0 M M') ∨
    ∃ (b' : Cb) (v' : Br) (h : Nat → Int32) (M' : Mo), f_C_Reader_takeExports rd b v sy = some (1, rd, b', v', Sy_s_ex sy h) ∧ f_Model_readExports M (nI many) = some M' ∧ Mo_why M' = -1 ∧ Dc 40 (Sy_s_ex sy h) M' many wd ht ∧ Br_byL v' = Br_byL v ∧ Gr 0 M M' := by
  have h40 := hD.1
  obtain ⟨k39, k67, k121, hC, h39, h67, h121⟩ : ∃ (k39 k67 k121 : Cb → Br → Sy → Option (Int32 × Rd × Cb × Br × Sy)), f_C_Reader_takeExports rd b v sy = l_C_Reader_takeExports_7 rd k39 k67 k121 100000 b v sy (nI 0) (nI 0) (nI 0) ∧ (∀ b v sy, k39 b v sy = some (0, Rd_s_wy rd 7, b, v, sy)) ∧ (∀ b v sy, k67 b v sy = some (0, Rd_s_wy rd 6, b, v, sy)) ∧ (∀ b v sy, k121 b v sy = some (1, rd, b, v, sy)) := by
    rw [f_C_Reader_takeExports]
    exact ⟨_, _, _, rfl, fun _ _ _ => rfl, fun _ _ _ => rfl, fun _ _ _ => rfl⟩
  obtain ⟨j56, j104, hM, h56, h104⟩ : ∃ (j56 j104 : Mo → Option Mo), f_Model_readExports M (nI many) = l_Model_readExports_4 (nI many) j56 j104 100000 M (nI 0) (nI 0) ∧ (∀ M, j56 M = some M) ∧ (∀ M, j104 M = some M) := by
    rw [f_Model_readExports]
    exact ⟨_, _, rfl, fun _ => rfl, fun _ => rfl⟩
  rw [hC, hM]
  have hEx : ∀ g : Nat → Int32, (∀ j, j < 40 → g j = Mo_ex M j) → Gr 0 M (Mo_s_ex M g) := fun g hg => Gr_sm (Sx_ex M g) (fun j _ => rfl) (fun j _ => rfl) (fun j hj => hg j (by omega)) (fun j _ => rfl) (fun j _ => rfl) (fun j _ => rfl) (fun j _ => rfl)
  rcases exps_C (rd := rd) (k39 := k39) (k67 := k67) (k121 := k121) (j56 := j56) (j104 := j104) (m := m) (a0 := a) h40 (by omega) 100000 0 0 0 a b v sy M (by omega) (by omega) (Nat.zero_le _) (by decide) (fun _ => ⟨rfl, rfl⟩) (fun h => absurd h (by decide)) hR (by omega) hn hwy (fun j hj => absurd hj (Nat.not_lt_zero _)) with ⟨b', v', sy', mo', g, z1, z2, z3, z4⟩ | ⟨b', v', h9, g, mo', z1, z2, z3, z4, z5, z6⟩
  · left
    have hG := Gr.trans (hEx g z2) (Gr_fp z3)
    rcases z4 with ⟨y1, y2, y3⟩ | ⟨y1, y2, y3⟩
    · exact ⟨Rd_s_wy rd 7, b', v', sy', mo', y1.trans (h39 _ _ _), y2.trans (h56 _), y3.symm, by rw [y3]; decide, rfl, z1, hG⟩
    · exact ⟨Rd_s_wy rd 6, b', v', sy', mo', y1.trans (h67 _ _ _), y2.trans (h56 _), y3.symm, by rw [y3]; decide, rfl, z1, hG⟩
  · right
    obtain ⟨w1, w2, w3, w4, w5, w6, w7, w8, w9⟩ := Tm_s z5
    refine ⟨b', v', h9, mo', z1.trans (h121 _ _ _), z2.trans (h104 _), w8.trans hwy, ⟨h40, fun k hk => ?_⟩, z6, Gr.trans (hEx g z4) (Gr_tm z5)⟩
    obtain ⟨q1, q2, q3, q4⟩ := hD.2 k hk
    rw [w1, w2, w3, w4, w5, w6, w7]
    exact ⟨q1, q2, z3 k hk, q4⟩
theorem Q_read_C {kd : Int32} {sd : Sd} {cu sp : Sy} {w v : Br} {rd : Rd} {b : Cb} {mo : Mo} (h : RlB kd sd cu w v mo) (hkd0 : kd = 2) (hbr : (Rd_br rd = 0 ∧ ¬ kd = 1) ∨ (Rd_br rd = 1 ∧ kd = 1)) :
    (∃ (r : Int32) (rd' : Rd) (b' : Cb) (v' : Br) (sp' : Sy) (mo' : Mo), f_C_SD_readN sd rd b v cu sp = some (r, rd', b', v', sp') ∧ f_Model_read mo = some (r, mo') ∧ Br_byL v' = Br_byL v ∧ Rd_br rd' = Rd_br rd ∧ RlB kd sd cu w v' mo') ∨
    (∃ (r : Int32) (rd' : Rd) (b' : Cb) (v' : Br) (sp' : Sy) (mo' : Mo), f_C_SD_readY sd rd b v cu sp = some (r, rd', b', v', sp') ∧ f_Model_read mo = some (r, mo') ∧ Br_byL v' = Br_byL v ∧ Rd_br rd' = Rd_br rd ∧ RlB kd sd sp' w v' mo') := by
  have h0 := h
  obtain ⟨⟨k1, k2⟩, -, -, ⟨m, i1, i2, i3, i4, i5⟩⟩ := h
  obtain ⟨ch, g1, g2⟩ := m_begin (Mo_s_ia (Mo_s_why (Mo_s_code mo 0) (-1)) 0)
  obtain ⟨readK, hread0, read_K1, read_K2, read_K3⟩ := read_K0 g1
  obtain ⟨M0, hM0⟩ : ∃ z, z = Mo_s_tk (Mo_s_ch (Mo_s_hi (Mo_s_lo (Mo_s_ia (Mo_s_why (Mo_s_code mo 0) (-1)) 0) 0) 4294967295) ch) 0 := ⟨_, rfl⟩
  rw [← hM0] at hread0
  have m1 : Mo_kind M0 = kd := by subst hM0; exact (rz_kind mo _ _ _ _ _ _ _).trans k2
  have m2 : Mo_inn M0 = Mo_inn mo := by subst hM0; exact rz_inn mo _ _ _ _ _ _ _
  have m3 : Mo_inp M0 = Mo_inp mo := by subst hM0; exact rz_inp mo _ _ _ _ _ _ _
  have m4 : Mo_ia M0 = 0 := by subst hM0; exact rz_ia mo _ _ _ _ _ _ _
  have m5 : Mo_why M0 = -1 := by subst hM0; exact rz_why mo _ _ _ _ _ _ _
  have m6 : Mo_lo M0 = 0 := by subst hM0; exact rz_lo mo _ _ _ _ _ _ _
  have m7 : Mo_hi M0 = 4294967295 := by subst hM0; exact rz_hi mo _ _ _ _ _ _ _
  have m8 : Mo_ch M0 = ch := by subst hM0; exact rz_ch mo _ _ _ _ _ _ _
  have m9 : Mo_tk M0 = 0 := by subst hM0; exact rz_tk mo _ _ _ _ _ _ _
  have mH : Hm mo M0 := by subst hM0; exact Hm_0 mo _ _ _ _ _ _ _
  have mF : Fm 0 mo M0 40 := by
    intro k hk
    have q1 : Mo_wd M0 = Mo_wd mo := by subst hM0; exact rz_wd mo _ _ _ _ _ _ _
    have q2 : Mo_ht M0 = Mo_ht mo := by subst hM0; exact rz_ht mo _ _ _ _ _ _ _
    have q3 : Mo_ex M0 = Mo_ex mo := by subst hM0; exact rz_ex mo _ _ _ _ _ _ _
    have q4 : Mo_bs M0 = Mo_bs mo := by subst hM0; exact rz_bs mo _ _ _ _ _ _ _
    have q5 : Mo_dx M0 = Mo_dx mo := by subst hM0; exact rz_dx mo _ _ _ _ _ _ _
    have q6 : Mo_dy M0 = Mo_dy mo := by subst hM0; exact rz_dy mo _ _ _ _ _ _ _
    have q7 : Mo_rw M0 = Mo_rw mo := by subst hM0; exact rz_rw mo _ _ _ _ _ _ _
    rw [q1, q2, q3, q4, q5, q6, q7]
    exact ⟨rfl, rfl, rfl, rfl, rfl, rfl, fun _ _ => rfl⟩
  have hI : Ivm v M0 m := ⟨i1, i2, i3, m2.trans i4, by rw [m3]; exact i5⟩
  obtain ⟨b0, v0, M, a0, s1, s2, s3, s4, s5, s6⟩ := startR_C (K := readK) (m1.trans hkd0) hI m4 m6 m7 (by rw [m8]; exact g2) m9
  have hread : f_Model_read mo = readK M := hread0.trans s2
  have hMH : Hm mo M := Hm.trans mH (Hm.gm (Gm.tm s5))
  have hMF : Fm 0 mo M 40 := Fm_tr mF (Gr_tm (n := 0) s5).2
  obtain ⟨-, -, -, -, -, -, -, x8, x9⟩ := Tm_s s5
  obtain ⟨r, M1, hT, hcase⟩ := takeSym_C (rd := rd) (sy := Sy_s_n sp 0) s1 s3 s4 i1 (x8.trans m5) rfl (by rw [x9, m1]; exact hbr)
  have hrm : ∀ v' : Br, f_ByteRow_removeAll v' = some (Br_s_n v' 0) := fun _ => rfl
  rcases hcase with ⟨rd', b', v', sy', M2, c1, c2, c3, c4, c5, c6, c7⟩ | ⟨many, c1, c2, c3, c4⟩
  · left
    refine ⟨(-1) - Mo_why M2, rd', b', Br_s_n v' 0, sy', Mo_s_inn M2 0, ?_, ?_, c6.trans s6, c5, rl_no h0 (Hm.trans hMH (Hm.gm c7.1)) (Fm_tr hMF c7.2) (c6.trans (s6.trans i2))⟩
    · rw [f_C_SD_readN]
      refine Eq.trans (bd_e (show f_Symbols_removeAll sp = some (Sy_s_n sp 0) from rfl)) ?_
      refine Eq.trans (bd_e c1) ?_
      refine Eq.trans (if_pos rfl) ?_
      rw [j_C_SD_readN_40_12]
      refine Eq.trans (bd_e (hrm v')) ?_
      refine Eq.trans (if_pos rfl) ?_
      rw [c3]
    · rw [hread]
      rcases c2 with ⟨y1, y2⟩ | ⟨y1, y2, y3⟩
      · rw [read_K1 M r M1 hT y1, ← y2]; exact m_no r c4
      · rw [read_K3 M r M1 hT y1 y2, ← y3]; exact m_no r c4
  · subst c2
    have hKM := read_K2 M _ M1 hT c3 (nI_le (b := 40) c1 (by decide))
    rw [j_Model_read_85_22, if_neg c3] at hKM
    rcases c4 with ⟨rd', b', v', sy', M2, d1, d2, d3, d4, d5, d6, d7⟩ | ⟨rd', b', v', sy', M2, a', wd, ht, d1, d2, d3, d4, d5, d6, d7, d8, d9, d10, d11⟩
    · left
      refine ⟨(-1) - Mo_why M2, rd', b', Br_s_n v' 0, sy', Mo_s_inn M2 0, ?_, ?_, d6.trans s6, d5, rl_no h0 (Hm.trans hMH (Hm.gm d7.1)) (Fm_tr hMF d7.2) (d6.trans (s6.trans i2))⟩
      · rw [f_C_SD_readN]
        refine Eq.trans (bd_e (show f_Symbols_removeAll sp = some (Sy_s_n sp 0) from rfl)) ?_
        refine Eq.trans (bd_e d1) ?_
        refine Eq.trans (if_pos rfl) ?_
        rw [j_C_SD_readN_40_12]
        refine Eq.trans (bd_e (hrm v')) ?_
        refine Eq.trans (if_pos rfl) ?_
        rw [d3]
      · rw [hread, hKM]
        refine Eq.trans (bd_e d2) ?_
        exact m_no2 _ d4
    · have hKM2 : readK M = if 0 ≤ Mo_why M2 then j_Model_read_109_26 (nI many) M2 else bd (f_Model_readExports M2 (nI many)) (fun mo_72 => j_Model_read_109_26 (nI many) mo_72) := hKM.trans (bd_e d2)
      rw [if_neg (show ¬ (0 : Int32) ≤ Mo_why M2 by rw [d5]; decide)] at hKM2
      rcases takeExp_C (rd := rd') d3 d4 d5 d6 d7 with ⟨rd2, b2, v2, sy2, M3, e1, e2, e3, e4, e5, e6, e7⟩ | ⟨b2, v2, h9, M3, e1, e2, e3, e4, e5, e6⟩
      · left
        refine ⟨(-1) - Mo_why M3, rd2, b2, Br_s_n v2 0, sy2, Mo_s_inn M3 0, ?_, ?_, e6.trans (d10.trans s6), e5.trans d9, rl_no h0 (Hm.trans hMH (Hm.trans (Hm.gm d11.1) (Hm.gm e7.1))) (Fm_tr hMF (Fm_tr d11.2 e7.2)) (e6.trans (d10.trans (s6.trans i2)))⟩
        · rw [f_C_SD_readN]
          refine Eq.trans (bd_e (show f_Symbols_removeAll sp = some (Sy_s_n sp 0) from rfl)) ?_
          refine Eq.trans (bd_e d1) ?_
          refine Eq.trans (if_neg (show ¬ (1 : Int32) = 0 by decide)) ?_
          refine Eq.trans (bd_e e1) ?_
          refine Eq.trans (if_pos rfl) ?_
          rw [j_C_SD_readN_40_12]
          refine Eq.trans (bd_e (hrm v2)) ?_
          refine Eq.trans (if_pos rfl) ?_
          rw [e3]
        · rw [hread, hKM2]
          refine Eq.trans (bd_e e2) ?_
          exact m_no3 _ e4
      · right
        obtain ⟨mo', y1, y2⟩ := rl_yes (v1 := v2) (sy := Sy_s_ex sy' h9) h0 (Hm.trans hMH (Hm.trans (Hm.gm d11.1) (Hm.gm e6.1))) (e5.trans (d10.trans (s6.trans i2))) e3 d6 e4 d8
        refine ⟨nI many, rd', b2, Br_s_n v2 0, Sy_s_ex sy' h9, mo', ?_, ?_, e5.trans (d10.trans s6), d9, y2⟩
        · rw [f_C_SD_readY]
          refine Eq.trans (bd_e (show f_Symbols_removeAll sp = some (Sy_s_n sp 0) from rfl)) ?_
          refine Eq.trans (bd_e d1) ?_
          refine Eq.trans (if_neg (show ¬ (1 : Int32) = 0 by decide)) ?_
          refine Eq.trans (bd_e e1) ?_
          refine Eq.trans (if_neg (show ¬ (1 : Int32) = 0 by decide)) ?_
          rw [j_C_SD_readY_40_12]
          refine Eq.trans (bd_e (hrm v2)) ?_
          refine Eq.trans (if_neg (show ¬ (1 : Int32) = 0 by decide)) ?_
          rw [show Sy_n (Sy_s_ex sy' h9) = nI many from d6]
        · rw [hread, hKM2]
          refine Eq.trans (bd_e e2) ?_
          exact y1
theorem t_P_read {sd : Sd} {cu sp : Sy} {w v : Br} {wr : Wr} {rd : Rd} {pb : Pb} {mo : Mo} (h : Rl_P sd cu sp w v wr rd pb mo) : T_P_read Rl_P sd cu sp w v wr rd pb mo := by
  obtain ⟨kd, hkd, hw, hr, h⟩ := h
  rcases Q_read_P (sp := sp) (rd := rd) (b := pb) h hkd (by rw [hr]; rcases hkd with e | e <;> rw [e] <;> decide) with ⟨r, rd', b', v', sp', mo', e1, e2, e3, e4, e5⟩ | ⟨r, rd', b', v', sp', mo', e1, e2, e3, e4, e5⟩
  · exact Or.inl ⟨r, rd', b', v', sp', mo', e1, e2, e3, kd, hkd, hw, e4.trans hr, e5⟩
  · exact Or.inr ⟨r, rd', b', v', sp', mo', e1, e2, e3, kd, hkd, hw, e4.trans hr, e5⟩
theorem t_C_read {sd : Sd} {cu sp : Sy} {w v : Br} {wr : Wr} {rd : Rd} {cb : Cb} {mo : Mo} (h : Rl_C sd cu sp w v wr rd cb mo) : T_C_read Rl_C sd cu sp w v wr rd cb mo := by
  obtain ⟨hw, hr, h⟩ := h
  rcases Q_read_C (sp := sp) (rd := rd) (b := cb) h rfl (Or.inl ⟨hr, by decide⟩) with ⟨r, rd', b', v', sp', mo', e1, e2, e3, e4, e5⟩ | ⟨r, rd', b', v', sp', mo', e1, e2, e3, e4, e5⟩
  · exact Or.inl ⟨r, rd', b', v', sp', mo', e1, e2, e3, hw, e4.trans hr, e5⟩
  · exact Or.inr ⟨r, rd', b', v', sp', mo', e1, e2, e3, hw, e4.trans hr, e5⟩
