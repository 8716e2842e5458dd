/-! What a part of the reference may change while it reads -/
def Mo_g (mo : Mo) (z_wd : (Nat → Int32)) (z_ht : (Nat → Int32)) (z_rw : (Nat → Int32)) (z_ex : (Nat → Int32)) (z_bs : (Nat → Int32)) (z_dx : (Nat → Int32)) (z_dy : (Nat → Int32)) (z_ia : Int32) (z_ch : (Nat → Int32)) (z_lo : Int64) (z_hi : Int64) (z_tk : Int64) (z_pl : (Nat → Int32)) (z_why : Int32) : Mo := (Mo_code mo, Mo_kind mo, Mo_n mo, z_wd, z_ht, z_rw, z_ex, z_bs, z_dx, z_dy, Mo_pc mo, Mo_od mo, Mo_cl mo, Mo_co mo, Mo_fc mo, Mo_on mo, Mo_ob mo, Mo_out mo, Mo_inn mo, z_ia, Mo_inp mo, z_ch, z_lo, z_hi, z_tk, z_pl, z_why)
def Gm (mo mo' : Mo) : Prop := ∃ (z_wd : (Nat → Int32)) (z_ht : (Nat → Int32)) (z_rw : (Nat → Int32)) (z_ex : (Nat → Int32)) (z_bs : (Nat → Int32)) (z_dx : (Nat → Int32)) (z_dy : (Nat → Int32)) (z_ia : Int32) (z_ch : (Nat → Int32)) (z_lo : Int64) (z_hi : Int64) (z_tk : Int64) (z_pl : (Nat → Int32)) (z_why : Int32), mo' = Mo_g mo z_wd z_ht z_rw z_ex z_bs z_dx z_dy z_ia z_ch z_lo z_hi z_tk z_pl z_why
theorem Gm.refl (mo : Mo) : Gm mo mo := ⟨Mo_wd mo, Mo_ht mo, Mo_rw mo, Mo_ex mo, Mo_bs mo, Mo_dx mo, Mo_dy mo, Mo_ia mo, Mo_ch mo, Mo_lo mo, Mo_hi mo, Mo_tk mo, Mo_pl mo, Mo_why mo, rfl⟩
theorem Gm_2 (mo : Mo) (a_wd b_wd : (Nat → Int32)) (a_ht b_ht : (Nat → Int32)) (a_rw b_rw : (Nat → Int32)) (a_ex b_ex : (Nat → Int32)) (a_bs b_bs : (Nat → Int32)) (a_dx b_dx : (Nat → Int32)) (a_dy b_dy : (Nat → Int32)) (a_ia b_ia : Int32) (a_ch b_ch : (Nat → Int32)) (a_lo b_lo : Int64) (a_hi b_hi : Int64) (a_tk b_tk : Int64) (a_pl b_pl : (Nat → Int32)) (a_why b_why : Int32) : Mo_g (Mo_g mo a_wd a_ht a_rw a_ex a_bs a_dx a_dy a_ia a_ch a_lo a_hi a_tk a_pl a_why) b_wd b_ht b_rw b_ex b_bs b_dx b_dy b_ia b_ch b_lo b_hi b_tk b_pl b_why = Mo_g mo b_wd b_ht b_rw b_ex b_bs b_dx b_dy b_ia b_ch b_lo b_hi b_tk b_pl b_why := by
  obtain ⟨m1, m2, m3, m4, m5, m6, m7, m8, m9, m10, m11, m12, m13, m14, m15, m16, m17, m18, m19, m20, m21, m22, m23, m24, m25, m26, m27⟩ := mo
  exact Eq.trans (b := (m1, m2, m3, b_wd, b_ht, b_rw, b_ex, b_bs, b_dx, b_dy, m11, m12, m13, m14, m15, m16, m17, m18, m19, b_ia, m21, b_ch, b_lo, b_hi, b_tk, b_pl, b_why)) rfl rfl
theorem Gm.trans {a b c : Mo} (h1 : Gm a b) (h2 : Gm b c) : Gm a c := by
  obtain ⟨a_wd, a_ht, a_rw, a_ex, a_bs, a_dx, a_dy, a_ia, a_ch, a_lo, a_hi, a_tk, a_pl, a_why, rfl⟩ := h1
  obtain ⟨b_wd, b_ht, b_rw, b_ex, b_bs, b_dx, b_dy, b_ia, b_ch, b_lo, b_hi, b_tk, b_pl, b_why, rfl⟩ := h2
  exact ⟨b_wd, b_ht, b_rw, b_ex, b_bs, b_dx, b_dy, b_ia, b_ch, b_lo, b_hi, b_tk, b_pl, b_why, Gm_2 a a_wd b_wd a_ht b_ht a_rw b_rw a_ex b_ex a_bs b_bs a_dx b_dx a_dy b_dy a_ia b_ia a_ch b_ch a_lo b_lo a_hi b_hi a_tk b_tk a_pl b_pl a_why b_why⟩
def Mo_sx (mo : Mo) (z_wd : (Nat → Int32)) (z_ht : (Nat → Int32)) (z_rw : (Nat → Int32)) (z_ex : (Nat → Int32)) (z_bs : (Nat → Int32)) (z_dx : (Nat → Int32)) (z_dy : (Nat → Int32)) (z_pl : (Nat → Int32)) : Mo := (Mo_code mo, Mo_kind mo, Mo_n mo, z_wd, z_ht, z_rw, z_ex, z_bs, z_dx, z_dy, Mo_pc mo, Mo_od mo, Mo_cl mo, Mo_co mo, Mo_fc mo, Mo_on mo, Mo_ob mo, Mo_out mo, Mo_inn mo, Mo_ia mo, Mo_inp mo, Mo_ch mo, Mo_lo mo, Mo_hi mo, Mo_tk mo, z_pl, Mo_why mo)
def Sx (mo mo' : Mo) : Prop := ∃ (z_wd : (Nat → Int32)) (z_ht : (Nat → Int32)) (z_rw : (Nat → Int32)) (z_ex : (Nat → Int32)) (z_bs : (Nat → Int32)) (z_dx : (Nat → Int32)) (z_dy : (Nat → Int32)) (z_pl : (Nat → Int32)), mo' = Mo_sx mo z_wd z_ht z_rw z_ex z_bs z_dx z_dy z_pl
theorem Sx.refl (mo : Mo) : Sx mo mo := ⟨Mo_wd mo, Mo_ht mo, Mo_rw mo, Mo_ex mo, Mo_bs mo, Mo_dx mo, Mo_dy mo, Mo_pl mo, rfl⟩
theorem Sx_2 (mo : Mo) (a_wd b_wd : (Nat → Int32)) (a_ht b_ht : (Nat → Int32)) (a_rw b_rw : (Nat → Int32)) (a_ex b_ex : (Nat → Int32)) (a_bs b_bs : (Nat → Int32)) (a_dx b_dx : (Nat → Int32)) (a_dy b_dy : (Nat → Int32)) (a_pl b_pl : (Nat → Int32)) : Mo_sx (Mo_sx mo a_wd a_ht a_rw a_ex a_bs a_dx a_dy a_pl) b_wd b_ht b_rw b_ex b_bs b_dx b_dy b_pl = Mo_sx mo b_wd b_ht b_rw b_ex b_bs b_dx b_dy b_pl := by
  obtain ⟨m1, m2, m3, m4, m5, m6, m7, m8, m9, m10, m11, m12, m13, m14, m15, m16, m17, m18, m19, m20, m21, m22, m23, m24, m25, m26, m27⟩ := mo
  exact Eq.trans (b := (m1, m2, m3, b_wd, b_ht, b_rw, b_ex, b_bs, b_dx, b_dy, m11, m12, m13, m14, m15, m16, m17, m18, m19, m20, m21, m22, m23, m24, m25, b_pl, m27)) rfl rfl
theorem Sx.trans {a b c : Mo} (h1 : Sx a b) (h2 : Sx b c) : Sx a c := by
  obtain ⟨a_wd, a_ht, a_rw, a_ex, a_bs, a_dx, a_dy, a_pl, rfl⟩ := h1
  obtain ⟨b_wd, b_ht, b_rw, b_ex, b_bs, b_dx, b_dy, b_pl, rfl⟩ := h2
  exact ⟨b_wd, b_ht, b_rw, b_ex, b_bs, b_dx, b_dy, b_pl, Sx_2 a a_wd b_wd a_ht b_ht a_rw b_rw a_ex b_ex a_bs b_bs a_dx b_dx a_dy b_dy a_pl b_pl⟩
theorem Gm.tm {mo mo' : Mo} (h : Tm mo mo') : Gm mo mo' := by
  obtain ⟨a_ia, a_ch, a_lo, a_hi, a_tk, rfl⟩ := h
  refine ⟨Mo_wd mo, Mo_ht mo, Mo_rw mo, Mo_ex mo, Mo_bs mo, Mo_dx mo, Mo_dy mo, a_ia, a_ch, a_lo, a_hi, a_tk, Mo_pl mo, Mo_why mo, ?_⟩
  obtain ⟨m1, m2, m3, m4, m5, m6, m7, m8, m9, m10, m11, m12, m13, m14, m15, m16, m17, m18, m19, m20, m21, m22, m23, m24, m25, m26, m27⟩ := mo
  exact Eq.trans (b := (m1, m2, m3, m4, m5, m6, m7, m8, m9, m10, m11, m12, m13, m14, m15, m16, m17, m18, m19, a_ia, m21, a_ch, a_lo, a_hi, a_tk, m26, m27)) rfl rfl
theorem Gm.fp {mo mo' : Mo} (h : Fp mo mo') : Gm mo mo' := by
  obtain ⟨a_pl, a_why, a_ia, a_ch, a_lo, a_hi, a_tk, rfl⟩ := h
  refine ⟨Mo_wd mo, Mo_ht mo, Mo_rw mo, Mo_ex mo, Mo_bs mo, Mo_dx mo, Mo_dy mo, a_ia, a_ch, a_lo, a_hi, a_tk, a_pl, a_why, ?_⟩
  obtain ⟨m1, m2, m3, m4, m5, m6, m7, m8, m9, m10, m11, m12, m13, m14, m15, m16, m17, m18, m19, m20, m21, m22, m23, m24, m25, m26, m27⟩ := mo
  exact Eq.trans (b := (m1, m2, m3, m4, m5, m6, m7, m8, m9, m10, m11, m12, m13, m14, m15, m16, m17, m18, m19, a_ia, m21, a_ch, a_lo, a_hi, a_tk, a_pl, a_why)) rfl rfl
theorem Gm.sx {mo mo' : Mo} (h : Sx mo mo') : Gm mo mo' := by
  obtain ⟨a_wd, a_ht, a_rw, a_ex, a_bs, a_dx, a_dy, a_pl, rfl⟩ := h
  refine ⟨a_wd, a_ht, a_rw, a_ex, a_bs, a_dx, a_dy, Mo_ia mo, Mo_ch mo, Mo_lo mo, Mo_hi mo, Mo_tk mo, a_pl, Mo_why mo, ?_⟩
  obtain ⟨m1, m2, m3, m4, m5, m6, m7, m8, m9, m10, m11, m12, m13, m14, m15, m16, m17, m18, m19, m20, m21, m22, m23, m24, m25, m26, m27⟩ := mo
  exact Eq.trans (b := (m1, m2, m3, a_wd, a_ht, a_rw, a_ex, a_bs, a_dx, a_dy, m11, m12, m13, m14, m15, m16, m17, m18, m19, m20, m21, m22, m23, m24, m25, a_pl, m27)) rfl rfl
theorem Sx_wd (mo : Mo) (y_wd : (Nat → Int32)) : Sx mo (Mo_s_wd mo y_wd) := by
  refine ⟨y_wd, Mo_ht mo, Mo_rw mo, Mo_ex mo, Mo_bs mo, Mo_dx mo, Mo_dy mo, Mo_pl mo, ?_⟩
  obtain ⟨m1, m2, m3, m4, m5, m6, m7, m8, m9, m10, m11, m12, m13, m14, m15, m16, m17, m18, m19, m20, m21, m22, m23, m24, m25, m26, m27⟩ := mo
  exact Eq.trans (b := (m1, m2, m3, y_wd, m5, m6, m7, m8, m9, m10, m11, m12, m13, m14, m15, m16, m17, m18, m19, m20, m21, m22, m23, m24, m25, m26, m27)) rfl rfl
theorem Sx_bs (mo : Mo) (y_bs : (Nat → Int32)) : Sx mo (Mo_s_bs mo y_bs) := by
  refine ⟨Mo_wd mo, Mo_ht mo, Mo_rw mo, Mo_ex mo, y_bs, Mo_dx mo, Mo_dy mo, Mo_pl mo, ?_⟩
  obtain ⟨m1, m2, m3, m4, m5, m6, m7, m8, m9, m10, m11, m12, m13, m14, m15, m16, m17, m18, m19, m20, m21, m22, m23, m24, m25, m26, m27⟩ := mo
  exact Eq.trans (b := (m1, m2, m3, m4, m5, m6, m7, y_bs, m9, m10, m11, m12, m13, m14, m15, m16, m17, m18, m19, m20, m21, m22, m23, m24, m25, m26, m27)) rfl rfl
theorem Sx_dx (mo : Mo) (y_dx : (Nat → Int32)) : Sx mo (Mo_s_dx mo y_dx) := by
  refine ⟨Mo_wd mo, Mo_ht mo, Mo_rw mo, Mo_ex mo, Mo_bs mo, y_dx, Mo_dy mo, Mo_pl mo, ?_⟩
  obtain ⟨m1, m2, m3, m4, m5, m6, m7, m8, m9, m10, m11, m12, m13, m14, m15, m16, m17, m18, m19, m20, m21, m22, m23, m24, m25, m26, m27⟩ := mo
  exact Eq.trans (b := (m1, m2, m3, m4, m5, m6, m7, m8, y_dx, m10, m11, m12, m13, m14, m15, m16, m17, m18, m19, m20, m21, m22, m23, m24, m25, m26, m27)) rfl rfl
theorem Sx_dy (mo : Mo) (y_dy : (Nat → Int32)) : Sx mo (Mo_s_dy mo y_dy) := by
  refine ⟨Mo_wd mo, Mo_ht mo, Mo_rw mo, Mo_ex mo, Mo_bs mo, Mo_dx mo, y_dy, Mo_pl mo, ?_⟩
  obtain ⟨m1, m2, m3, m4, m5, m6, m7, m8, m9, m10, m11, m12, m13, m14, m15, m16, m17, m18, m19, m20, m21, m22, m23, m24, m25, m26, m27⟩ := mo
  exact Eq.trans (b := (m1, m2, m3, m4, m5, m6, m7, m8, m9, y_dy, m11, m12, m13, m14, m15, m16, m17, m18, m19, m20, m21, m22, m23, m24, m25, m26, m27)) rfl rfl
theorem Sx_5 (mo : Mo) (y_ht : (Nat → Int32)) (y_ex : (Nat → Int32)) (y_bs : (Nat → Int32)) (y_dx : (Nat → Int32)) (y_dy : (Nat → Int32)) : Sx mo (Mo_s_dy (Mo_s_dx (Mo_s_bs (Mo_s_ex (Mo_s_ht mo y_ht) y_ex) y_bs) y_dx) y_dy) := by
  refine ⟨Mo_wd mo, y_ht, Mo_rw mo, y_ex, y_bs, y_dx, y_dy, Mo_pl mo, ?_⟩
  obtain ⟨m1, m2, m3, m4, m5, m6, m7, m8, m9, m10, m11, m12, m13, m14, m15, m16, m17, m18, m19, m20, m21, m22, m23, m24, m25, m26, m27⟩ := mo
  exact Eq.trans (b := (m1, m2, m3, m4, y_ht, m6, y_ex, y_bs, y_dx, y_dy, m11, m12, m13, m14, m15, m16, m17, m18, m19, m20, m21, m22, m23, m24, m25, m26, m27)) rfl rfl
theorem Sx_pr (mo : Mo) (y_pl : (Nat → Int32)) (y_rw : (Nat → Int32)) : Sx mo (Mo_s_rw (Mo_s_pl mo y_pl) y_rw) := by
  refine ⟨Mo_wd mo, Mo_ht mo, y_rw, Mo_ex mo, Mo_bs mo, Mo_dx mo, Mo_dy mo, y_pl, ?_⟩
  obtain ⟨m1, m2, m3, m4, m5, m6, m7, m8, m9, m10, m11, m12, m13, m14, m15, m16, m17, m18, m19, m20, m21, m22, m23, m24, m25, m26, m27⟩ := mo
  exact Eq.trans (b := (m1, m2, m3, m4, m5, y_rw, m7, m8, m9, m10, m11, m12, m13, m14, m15, m16, m17, m18, m19, m20, m21, m22, m23, m24, m25, y_pl, m27)) rfl rfl
theorem sz_wd (mo : Mo) (y_ht : (Nat → Int32)) (y_ex : (Nat → Int32)) (y_bs : (Nat → Int32)) (y_dx : (Nat → Int32)) (y_dy : (Nat → Int32)) : Mo_wd (Mo_s_dy (Mo_s_dx (Mo_s_bs (Mo_s_ex (Mo_s_ht mo y_ht) y_ex) y_bs) y_dx) y_dy) = Mo_wd mo := by
  obtain ⟨m1, m2, m3, m4, m5, m6, m7, m8, m9, m10, m11, m12, m13, m14, m15, m16, m17, m18, m19, m20, m21, m22, m23, m24, m25, m26, m27⟩ := mo
  exact Eq.trans (b := m4) rfl rfl
theorem sz_ht (mo : Mo) (y_ht : (Nat → Int32)) (y_ex : (Nat → Int32)) (y_bs : (Nat → Int32)) (y_dx : (Nat → Int32)) (y_dy : (Nat → Int32)) : Mo_ht (Mo_s_dy (Mo_s_dx (Mo_s_bs (Mo_s_ex (Mo_s_ht mo y_ht) y_ex) y_bs) y_dx) y_dy) = y_ht := rfl
theorem sz_ex (mo : Mo) (y_ht : (Nat → Int32)) (y_ex : (Nat → Int32)) (y_bs : (Nat → Int32)) (y_dx : (Nat → Int32)) (y_dy : (Nat → Int32)) : Mo_ex (Mo_s_dy (Mo_s_dx (Mo_s_bs (Mo_s_ex (Mo_s_ht mo y_ht) y_ex) y_bs) y_dx) y_dy) = y_ex := rfl
theorem sz_bs (mo : Mo) (y_ht : (Nat → Int32)) (y_ex : (Nat → Int32)) (y_bs : (Nat → Int32)) (y_dx : (Nat → Int32)) (y_dy : (Nat → Int32)) : Mo_bs (Mo_s_dy (Mo_s_dx (Mo_s_bs (Mo_s_ex (Mo_s_ht mo y_ht) y_ex) y_bs) y_dx) y_dy) = y_bs := rfl
theorem sz_dx (mo : Mo) (y_ht : (Nat → Int32)) (y_ex : (Nat → Int32)) (y_bs : (Nat → Int32)) (y_dx : (Nat → Int32)) (y_dy : (Nat → Int32)) : Mo_dx (Mo_s_dy (Mo_s_dx (Mo_s_bs (Mo_s_ex (Mo_s_ht mo y_ht) y_ex) y_bs) y_dx) y_dy) = y_dx := rfl
theorem sz_dy (mo : Mo) (y_ht : (Nat → Int32)) (y_ex : (Nat → Int32)) (y_bs : (Nat → Int32)) (y_dx : (Nat → Int32)) (y_dy : (Nat → Int32)) : Mo_dy (Mo_s_dy (Mo_s_dx (Mo_s_bs (Mo_s_ex (Mo_s_ht mo y_ht) y_ex) y_bs) y_dx) y_dy) = y_dy := rfl
theorem sz_rw (mo : Mo) (y_ht : (Nat → Int32)) (y_ex : (Nat → Int32)) (y_bs : (Nat → Int32)) (y_dx : (Nat → Int32)) (y_dy : (Nat → Int32)) : Mo_rw (Mo_s_dy (Mo_s_dx (Mo_s_bs (Mo_s_ex (Mo_s_ht mo y_ht) y_ex) y_bs) y_dx) y_dy) = Mo_rw mo := by
  obtain ⟨m1, m2, m3, m4, m5, m6, m7, m8, m9, m10, m11, m12, m13, m14, m15, m16, m17, m18, m19, m20, m21, m22, m23, m24, m25, m26, m27⟩ := mo
  exact Eq.trans (b := m6) rfl rfl
theorem sq_ex (mo : Mo) (y_ht : (Nat → Int32)) : Mo_ex (Mo_s_ht mo y_ht) = Mo_ex mo := by
  obtain ⟨m1, m2, m3, m4, m5, m6, m7, m8, m9, m10, m11, m12, m13, m14, m15, m16, m17, m18, m19, m20, m21, m22, m23, m24, m25, m26, m27⟩ := mo
  exact Eq.trans (b := m7) rfl rfl
theorem sq_bs (mo : Mo) (y_ht : (Nat → Int32)) (y_ex : (Nat → Int32)) : Mo_bs (Mo_s_ex (Mo_s_ht mo y_ht) y_ex) = Mo_bs mo := by
  obtain ⟨m1, m2, m3, m4, m5, m6, m7, m8, m9, m10, m11, m12, m13, m14, m15, m16, m17, m18, m19, m20, m21, m22, m23, m24, m25, m26, m27⟩ := mo
  exact Eq.trans (b := m8) rfl rfl
theorem sq_dx (mo : Mo) (y_ht : (Nat → Int32)) (y_ex : (Nat → Int32)) (y_bs : (Nat → Int32)) : Mo_dx (Mo_s_bs (Mo_s_ex (Mo_s_ht mo y_ht) y_ex) y_bs) = Mo_dx mo := by
  obtain ⟨m1, m2, m3, m4, m5, m6, m7, m8, m9, m10, m11, m12, m13, m14, m15, m16, m17, m18, m19, m20, m21, m22, m23, m24, m25, m26, m27⟩ := mo
  exact Eq.trans (b := m9) rfl rfl
theorem sq_dy (mo : Mo) (y_ht : (Nat → Int32)) (y_ex : (Nat → Int32)) (y_bs : (Nat → Int32)) (y_dx : (Nat → Int32)) : Mo_dy (Mo_s_dx (Mo_s_bs (Mo_s_ex (Mo_s_ht mo y_ht) y_ex) y_bs) y_dx) = Mo_dy mo := by
  obtain ⟨m1, m2, m3, m4, m5, m6, m7, m8, m9, m10, m11, m12, m13, m14, m15, m16, m17, m18, m19, m20, m21, m22, m23, m24, m25, m26, m27⟩ := mo
  exact Eq.trans (b := m10) rfl rfl
theorem py_wd (mo : Mo) (y_pl : (Nat → Int32)) (y_rw : (Nat → Int32)) : Mo_wd (Mo_s_rw (Mo_s_pl mo y_pl) y_rw) = Mo_wd mo := by
  obtain ⟨m1, m2, m3, m4, m5, m6, m7, m8, m9, m10, m11, m12, m13, m14, m15, m16, m17, m18, m19, m20, m21, m22, m23, m24, m25, m26, m27⟩ := mo
  exact Eq.trans (b := m4) rfl rfl
theorem py_ht (mo : Mo) (y_pl : (Nat → Int32)) (y_rw : (Nat → Int32)) : Mo_ht (Mo_s_rw (Mo_s_pl mo y_pl) y_rw) = Mo_ht mo := by
  obtain ⟨m1, m2, m3, m4, m5, m6, m7, m8, m9, m10, m11, m12, m13, m14, m15, m16, m17, m18, m19, m20, m21, m22, m23, m24, m25, m26, m27⟩ := mo
  exact Eq.trans (b := m5) rfl rfl
theorem py_ex (mo : Mo) (y_pl : (Nat → Int32)) (y_rw : (Nat → Int32)) : Mo_ex (Mo_s_rw (Mo_s_pl mo y_pl) y_rw) = Mo_ex mo := by
  obtain ⟨m1, m2, m3, m4, m5, m6, m7, m8, m9, m10, m11, m12, m13, m14, m15, m16, m17, m18, m19, m20, m21, m22, m23, m24, m25, m26, m27⟩ := mo
  exact Eq.trans (b := m7) rfl rfl
theorem py_bs (mo : Mo) (y_pl : (Nat → Int32)) (y_rw : (Nat → Int32)) : Mo_bs (Mo_s_rw (Mo_s_pl mo y_pl) y_rw) = Mo_bs mo := by
  obtain ⟨m1, m2, m3, m4, m5, m6, m7, m8, m9, m10, m11, m12, m13, m14, m15, m16, m17, m18, m19, m20, m21, m22, m23, m24, m25, m26, m27⟩ := mo
  exact Eq.trans (b := m8) rfl rfl
theorem py_dx (mo : Mo) (y_pl : (Nat → Int32)) (y_rw : (Nat → Int32)) : Mo_dx (Mo_s_rw (Mo_s_pl mo y_pl) y_rw) = Mo_dx mo := by
  obtain ⟨m1, m2, m3, m4, m5, m6, m7, m8, m9, m10, m11, m12, m13, m14, m15, m16, m17, m18, m19, m20, m21, m22, m23, m24, m25, m26, m27⟩ := mo
  exact Eq.trans (b := m9) rfl rfl
theorem py_dy (mo : Mo) (y_pl : (Nat → Int32)) (y_rw : (Nat → Int32)) : Mo_dy (Mo_s_rw (Mo_s_pl mo y_pl) y_rw) = Mo_dy mo := by
  obtain ⟨m1, m2, m3, m4, m5, m6, m7, m8, m9, m10, m11, m12, m13, m14, m15, m16, m17, m18, m19, m20, m21, m22, m23, m24, m25, m26, m27⟩ := mo
  exact Eq.trans (b := m10) rfl rfl
theorem py_rw (mo : Mo) (y_pl : (Nat → Int32)) (y_rw : (Nat → Int32)) : Mo_rw (Mo_s_rw (Mo_s_pl mo y_pl) y_rw) = y_rw := rfl
theorem Sx_w {mo M : Mo} (h : Sx mo M) : Mo_why M = Mo_why mo ∧ Mo_kind M = Mo_kind mo := by
  obtain ⟨_, _, _, _, _, _, _, _, rfl⟩ := h
  exact ⟨rfl, rfl⟩
theorem Gm_k {mo M : Mo} (h : Gm mo M) : Mo_kind M = Mo_kind mo := by
  obtain ⟨_, _, _, _, _, _, _, _, _, _, _, _, _, _, rfl⟩ := h
  rfl
theorem Tm_s {mo M : Mo} (h : Tm mo M) : Mo_wd M = Mo_wd mo ∧ Mo_ht M = Mo_ht mo ∧ Mo_ex M = Mo_ex mo ∧ Mo_bs M = Mo_bs mo ∧ Mo_dx M = Mo_dx mo ∧ Mo_dy M = Mo_dy mo ∧ Mo_rw M = Mo_rw mo ∧ Mo_why M = Mo_why mo ∧ Mo_kind M = Mo_kind mo := by
  obtain ⟨_, _, _, _, _, rfl⟩ := h
  exact ⟨rfl, rfl, rfl, rfl, rfl, rfl, rfl, rfl, rfl⟩
theorem Rs_P {b : Pb} {v : Br} {mo M : Mo} {m a : Nat} (h : Sx mo M) (hR : RcP b v mo m a) : RcP b v M m a := by
  obtain ⟨_, _, _, _, _, _, _, _, rfl⟩ := h
  exact hR
theorem Rs_C {b : Cb} {v : Br} {mo M : Mo} {m a : Nat} (h : Sx mo M) (hR : RcC b v mo m a) : RcC b v M m a := by
  obtain ⟨_, _, _, _, _, _, _, _, rfl⟩ := h
  exact hR
/-- kept: all that reading does not touch, and the symbols before the n-th of those being read -/
def Gr (n : Nat) (mo mo' : Mo) : Prop := Gm mo mo' ∧ Fm 0 mo mo' (n + 40)
theorem Gr.refl (n : Nat) (mo : Mo) : Gr n mo mo := ⟨Gm.refl mo, fun k _ => ⟨rfl, rfl, rfl, rfl, rfl, rfl, fun _ _ => rfl⟩⟩
theorem Gr.trans {n : Nat} {a b c : Mo} (h1 : Gr n a b) (h2 : Gr n b c) : Gr n a c := ⟨Gm.trans h1.1 h2.1, fun k hk => by
  obtain ⟨p1, p2, p3, p4, p5, p6, p7⟩ := h1.2 k hk
  obtain ⟨q1, q2, q3, q4, q5, q6, q7⟩ := h2.2 k hk
  exact ⟨q1.trans p1, q2.trans p2, q3.trans p3, q4.trans p4, q5.trans p5, q6.trans p6, fun y hy => (q7 y hy).trans (p7 y hy)⟩⟩
theorem Gr.mono {n n' : Nat} {a b : Mo} (h : Gr n a b) (hn : n' ≤ n) : Gr n' a b := ⟨h.1, fun k hk => h.2 k (by omega)⟩
theorem Gr.fm {n : Nat} {a b : Mo} (h : Gr n a b) : Fm 40 a b n := fun k hk => h.2 (k + 40) (by omega)
theorem Gr_tm {n : Nat} {a b : Mo} (h : Tm a b) : Gr n a b := by
  have hG := Gm.tm h
  obtain ⟨_, _, _, _, _, rfl⟩ := h
  exact ⟨hG, fun k _ => ⟨rfl, rfl, rfl, rfl, rfl, rfl, fun _ _ => rfl⟩⟩
theorem Gr_fp {n : Nat} {a b : Mo} (h : Fp a b) : Gr n a b := by
  have hG := Gm.fp h
  obtain ⟨_, _, _, _, _, _, _, rfl⟩ := h
  exact ⟨hG, fun k _ => ⟨rfl, rfl, rfl, rfl, rfl, rfl, fun _ _ => rfl⟩⟩
theorem Gr_sm {n : Nat} {mo M : Mo} (h : Sx mo M) (h1 : ∀ j, j < n + 40 → Mo_wd M j = Mo_wd mo j) (h2 : ∀ j, j < n + 40 → Mo_ht M j = Mo_ht mo j) (h3 : ∀ j, j < n + 40 → Mo_ex M j = Mo_ex mo j) (h4 : ∀ j, j < n + 40 → Mo_bs M j = Mo_bs mo j) (h5 : ∀ j, j < n + 40 → Mo_dx M j = Mo_dx mo j) (h6 : ∀ j, j < n + 40 → Mo_dy M j = Mo_dy mo j) (h7 : ∀ j, j < 16 * (n + 40) → Mo_rw M j = Mo_rw mo j) : Gr n mo M :=
  ⟨Gm.sx h, fun k hk => ⟨h1 k hk, h2 k hk, h3 k hk, h4 k hk, h5 k hk, h6 k hk, fun y hy => h7 (16 * k + y) (by omega)⟩⟩
theorem Gr_wd (mo : Mo) (n : Nat) (x : Int32) : Gr n mo (Mo_s_wd mo (upd (Mo_wd mo) (n + 40) x)) := Gr_sm (Sx_wd mo _) (fun j hj => pk_un (by omega)) (fun j _ => rfl) (fun j _ => rfl) (fun j _ => rfl) (fun j _ => rfl) (fun j _ => rfl) (fun j _ => rfl)
theorem Gr_bs (mo : Mo) (n : Nat) (x : Int32) : Gr n mo (Mo_s_bs mo (upd (Mo_bs mo) (n + 40) x)) := Gr_sm (Sx_bs mo _) (fun j _ => rfl) (fun j _ => rfl) (fun j _ => rfl) (fun j hj => pk_un (by omega)) (fun j _ => rfl) (fun j _ => rfl) (fun j _ => rfl)
theorem Gr_dx (mo : Mo) (n : Nat) (x : Int32) : Gr n mo (Mo_s_dx mo (upd (Mo_dx mo) (n + 40) x)) := Gr_sm (Sx_dx mo _) (fun j _ => rfl) (fun j _ => rfl) (fun j _ => rfl) (fun j _ => rfl) (fun j hj => pk_un (by omega)) (fun j _ => rfl) (fun j _ => rfl)
theorem Gr_dy (mo : Mo) (n : Nat) (x : Int32) : Gr n mo (Mo_s_dy mo (upd (Mo_dy mo) (n + 40) x)) := Gr_sm (Sx_dy mo _) (fun j _ => rfl) (fun j _ => rfl) (fun j _ => rfl) (fun j _ => rfl) (fun j _ => rfl) (fun j hj => pk_un (by omega)) (fun j _ => rfl)
theorem bd_e {α β : Type} {x : Option α} {a : α} {k : α → Option β} (h : x = some a) : bd x k = k a := by rw [h]; rfl
theorem sh8 : ∀ q, q < 16 → (q ≤ 8 → ¬ 4 < nI q - 4 ∧ nI q - 4 ≤ 4) ∧ (8 < q → 4 < nI q - 4 ∧ ¬ nI q - 4 ≤ 4) := by decide +kernel
theorem bsub (a r : Nat) : (nI a - 1) - nI r = nI a - nI (r + 1) := by
  rw [← nI_1 r]
  apply Int32.toBitVec_inj.1
  rw [Int32.toBitVec_sub, Int32.toBitVec_sub, Int32.toBitVec_sub, Int32.toBitVec_add]
  generalize (nI a).toBitVec = x
  generalize (nI r).toBitVec = y
  generalize (1 : Int32).toBitVec = z
  bv_omega
/-- a function with another value at one place -/
def ins (f : Nat → Nat) (k x : Nat) : Nat → Nat := fun j => if j = k then x else f j
theorem ins_s (f : Nat → Nat) (k x : Nat) : ins f k x k = x := if_pos rfl
theorem ins_n (f : Nat → Nat) {k j : Nat} (x : Nat) (h : j ≠ k) : ins f k x j = f j := if_neg h
/-- a symbol is read: both dictionaries have it -/
theorem sym_done {sy2 : Sy} {mo2 mo3 : Mo} {at_ w H ax ay : Nat} {wd ht V F : Nat → Nat} {B : Int32} {g f pl : Nat → Int32} (hat : at_ < 40) (hw1 : 1 ≤ w) (hw : w ≤ 16) (hH1 : 1 ≤ H) (hH : H ≤ 16) (hax : ax ≤ 8) (hay : ay ≤ 8) (hD : Dc 40 sy2 mo2 at_ wd ht)
    (s1 : Sy_wd sy2 at_ = nI w) (s2 : Sy_ht sy2 at_ = nI H) (s3 : Sy_ex sy2 at_ = 0) (s4 : Sy_bs sy2 at_ = B) (s5 : Sy_dx sy2 at_ = nI ax - 4) (s6 : Sy_dy sy2 at_ = nI ay - 4)
    (m1 : Mo_wd mo2 (at_ + 40) = nI w) (m2 : Mo_ht mo2 (at_ + 40) = nI H) (m3 : Mo_ex mo2 (at_ + 40) = 0) (m4 : Mo_bs mo2 (at_ + 40) = B) (m5 : Mo_dx mo2 (at_ + 40) = nI ax - 4) (m6 : Mo_dy mo2 (at_ + 40) = nI ay - 4)
    (hB : B = -1 ∨ ∃ b, b < at_ ∧ B = nI b ∧ (ht b < H ∨ (ht b = H ∧ wd b ≤ w))) (hr : ∀ y, y < H → V y < 2 ^ w ∧ g (16 * at_ + y) = nI (V y ^^^ F y) ∧ f (16 * (at_ + 40) + y) = nI (V y ^^^ F y)) (hF : ∀ y, F y < 2 ^ w) (hz : ∀ y, H ≤ y → y < 16 → f (16 * (at_ + 40) + y) = 0) (hg : ∀ j, j < 16 * at_ → g j = Sy_rw sy2 j) (hf : ∀ j, j < 16 * (at_ + 40) → f j = Mo_rw mo2 j) (hT : Tm (Mo_s_rw (Mo_s_pl mo2 pl) f) mo3) :
    Dc 40 (Sy_s_rw sy2 g) mo3 (at_ + 1) (ins wd at_ w) (ins ht at_ H) ∧ Gr at_ mo2 mo3 ∧ Mo_why mo3 = Mo_why mo2 ∧ Mo_wd mo3 (at_ + 40) = nI w := by
  obtain ⟨t1, t2, t3, t4, t5, t6, t7, t8, t9⟩ := Tm_s hT
  have q1 : Mo_wd mo3 = Mo_wd mo2 := t1.trans (py_wd mo2 pl f)
  have q2 : Mo_ht mo3 = Mo_ht mo2 := t2.trans (py_ht mo2 pl f)
  have q3 : Mo_ex mo3 = Mo_ex mo2 := t3.trans (py_ex mo2 pl f)
  have q4 : Mo_bs mo3 = Mo_bs mo2 := t4.trans (py_bs mo2 pl f)
  have q5 : Mo_dx mo3 = Mo_dx mo2 := t5.trans (py_dx mo2 pl f)
  have q6 : Mo_dy mo3 = Mo_dy mo2 := t6.trans (py_dy mo2 pl f)
  have q7 : Mo_rw mo3 = f := t7.trans (py_rw mo2 pl f)
  have hS := Sx_pr mo2 pl f
  have hG : Gr at_ mo2 mo3 := Gr.trans (Gr_sm hS (fun j _ => by rw [py_wd]) (fun j _ => by rw [py_ht]) (fun j _ => by rw [py_ex]) (fun j _ => by rw [py_bs]) (fun j _ => by rw [py_dx]) (fun j _ => by rw [py_dy]) (fun j hj => by rw [py_rw]; exact hf j hj)) (Gr_tm hT)
  refine ⟨?_, hG, t8.trans (Sx_w hS).1, by rw [q1]; exact m1⟩
  have hD3 : Dc 40 (Sy_s_rw sy2 g) mo3 at_ wd ht := Dc_keep hD (fun k hk => ⟨rfl, rfl, rfl, rfl, rfl, rfl, fun y hy => hg _ (by omega)⟩) hG.fm
  refine Dc_succ hD3 hat (fun j hj => ⟨ins_n wd w (by omega), ins_n ht H (by omega)⟩) ?_
  rw [q1, q2, q3, q4, q5, q6, q7, m1, m2, m3, m4, m5, m6]
  unfold Sv
  rw [ins_s, ins_s]
  refine ⟨⟨s1, rfl, hw1, hw⟩, ⟨s2, rfl, hH1, hH⟩, ⟨s3, Or.inl rfl⟩, ⟨s4, ?_⟩, ⟨s5, ax, hax, rfl⟩, ⟨s6, ay, hay, rfl⟩, fun y hy => ?_, fun y h1 h2 => hz y h1 h2⟩
  · rcases hB with e | ⟨b, hb, e, h⟩
    · exact Or.inl e
    · refine Or.inr ⟨b, by omega, e, ?_⟩
      unfold bef
      rw [ins_s, ins_s, ins_n wd w (by omega), ins_n ht H (by omega)]
      exact decide_eq_true (by omega)
  · obtain ⟨h1, h2, h3⟩ := hr y hy
    refine ⟨h2.trans h3.symm, V y ^^^ F y, Nat.xor_lt_two_pow h1 (hF y), h3⟩
theorem bit_P {m a : Nat} {b : Pb} {v : Br} {mo : Mo} (hR : RcP b v mo m a) (ha : a + 4 < 2 ^ 30) : ∃ (r : Int32) (b' : Pb) (v' : Br) (mo' : Mo) (a' : Nat), f_P_PlainBits_takeBit b v (-1) = some (r, b', v') ∧ f_Model_take mo 32768 = some (r, mo') ∧ RcP b' v' mo' m a' ∧ (r = 0 ∨ r = 1) ∧ Tm mo mo' ∧ Br_byL v' = Br_byL v ∧ a ≤ a' ∧ a' ≤ a + 4 := by
  obtain ⟨r, b', v', mo', a', t1, t2, t3, t4, t5, t6, t7, t8⟩ := takeP (c := -1) hR ha (Or.inl rfl)
  refine ⟨r, b', v', mo', a', t1, ?_, t3, t4, t5, t6, Nat.le_of_lt t8.1, t7⟩
  rw [mT, if_pos rfl] at t2
  exact t2
theorem width_P {m at_ H W a : Nat} {wy0 kd : Int32} {b : Pb} {v : Br} {mo : Mo} {sy : Sy} (hat : at_ < 40) (hH : H ≤ 16) (hW : W ≤ 16) (hn : Sy_n sy = nI at_) (hR : RcP b v mo m a) (ha : a + 80 < 2 ^ 30) (hwy : Mo_why mo = -1) :
    (∃ (wy w' : Int32) (b' : Pb) (v' : Br) (mo' : Mo), j_P_Reader_takeSize_37_8 sy (wy0, kd, nI H, nI W) b v = some (0, (wy, kd, nI H, w'), b', v', sy) ∧ f_Model_readSymbol mo (nI at_) (nI H) (nI W) = some mo' ∧ Mo_why mo' = wy ∧ ¬ wy < 0 ∧ Gr at_ mo mo' ∧ Br_byL v' = Br_byL v) ∨
    ∃ (w a' : Nat) (b' : Pb) (v' : Br) (M : Mo) (g : Nat → Int32), W ≤ w ∧ 1 ≤ w ∧ w ≤ 16 ∧ j_P_Reader_takeSize_37_8 sy (wy0, kd, nI H, nI W) b v = some (1, (wy0, kd, nI H, nI w), b', v', (upd (Sy_wd sy) at_ (nI w), upd (Sy_ht sy) at_ (nI H), upd (Sy_ex sy) at_ (vp_nar .boolean 0), upd (Sy_bs sy) at_ (-1), upd (Sy_dx sy) at_ 0, upd (Sy_dy sy) at_ 0, upd (Sy_co sy) at_ (-1), nI (at_ + 1), g, Sy_fc sy)) ∧ (∀ y, y < H → g (16 * at_ + y) = 0) ∧ (∀ j, j < 16 * at_ → g j = Sy_rw sy j) ∧ f_Model_readSymbol mo (nI at_) (nI H) (nI W) = j_Model_readSymbol_53_8 (nI at_) (nI H) (nI (at_ + 40)) M ∧ RcP b' v' M m a' ∧ a ≤ a' ∧ a' ≤ a + 72 ∧ Mo_why M = -1 ∧ Gr at_ mo M ∧ Mo_wd M (at_ + 40) = nI w ∧ Br_byL v' = Br_byL v := by
  have e40 : (40 : Int32) + nI at_ = nI (at_ + 40) := by rw [show (40 : Int32) = nI 40 from rfl, nI_add, Nat.add_comm]
  have cK : (nI (at_ + 40)).toNatClampNeg = at_ + 40 := nI_clamp (by omega)
  have hK8 : at_ + 40 < 80 := by omega
  obtain ⟨a1, b1, v1, mo1, t1, t2, t3, t4, t5, t6⟩ := takeNum_P hR (by omega)
  have hw1 : Mo_why mo1 = -1 := (Tm_w t4).1.trans hwy
  rcases t6 with ⟨u1, u2⟩ | ⟨x, hx, u1, u2, -⟩
  · left
    obtain ⟨N, hN⟩ : ∃ z, z = Mo_s_why mo1 7 := ⟨_, rfl⟩
    rw [← hN] at u2
    have N1 : Mo_why N = 7 := by subst hN; exact wz mo1 7
    have N2 : Fp mo1 N := by subst hN; exact Fp_w mo1 7
    obtain ⟨M, hM⟩ : ∃ z, z = Mo_s_wd N (upd (Mo_wd N) (at_ + 40) (nI W + 0)) := ⟨_, rfl⟩
    have M1 : Mo_why M = 7 := by subst hM; exact N1
    have M2 : Gr at_ N M := by subst hM; exact Gr_wd N at_ _
    refine ⟨7, nI W, b1, v1, M, ?_, ?_, M1, by decide, Gr.trans (Gr_fp (Fp.trans (Fp.of t4) N2)) M2, t5⟩
    · rw [j_P_Reader_takeSize_37_8]
      refine Eq.trans (bd_e u1) ?_
      rfl
    · rw [f_Model_readSymbol, e40, lt']
      refine Eq.trans (bd_e u2) ?_
      refine Eq.trans (gd_in hK8 (by decide)) ?_
      rw [cK, lt', ← hM]
      refine Eq.trans (if_pos (show (0 : Int32) ≤ Mo_why M by rw [M1]; decide)) ?_
      rw [j_Model_readSymbol_53_8]
      exact if_neg (show ¬ Mo_why M < 0 by rw [M1]; decide)
  · obtain ⟨M, hM⟩ : ∃ z, z = Mo_s_wd mo1 (upd (Mo_wd mo1) (at_ + 40) (nI (W + x))) := ⟨_, rfl⟩
    have M0 : Sx mo1 M := by subst hM; exact Sx_wd mo1 _
    have M1 : Mo_why M = -1 := (Sx_w M0).1.trans hw1
    have M2 : Gr at_ mo M := Gr.trans (Gr_tm t4) (by subst hM; exact Gr_wd mo1 at_ _)
    have M3 : Mo_wd M (at_ + 40) = nI (W + x) := by subst hM; exact pk_us
    have hrd : Rd_s_w (wy0, kd, nI H, nI W) (Rd_w (wy0, kd, nI H, nI W) + nI x) = (wy0, kd, nI H, nI (W + x)) := congrArg (fun z => (wy0, kd, nI H, z)) (nI_add W x)
    have hM0 : ¬ (0 : Int32) ≤ Mo_why M := by rw [M1]; decide
    have hmo : f_Model_readSymbol mo (nI at_) (nI H) (nI W) = if 16 < nI (W + x) then j_Model_readSymbol_53_8 (nI at_) (nI H) (nI (at_ + 40)) (Mo_s_why M 2) else if nI (W + x) = 0 then j_Model_readSymbol_53_8 (nI at_) (nI H) (nI (at_ + 40)) (Mo_s_why M 2) else j_Model_readSymbol_53_8 (nI at_) (nI H) (nI (at_ + 40)) M := by
      rw [f_Model_readSymbol, e40, lt']
      refine Eq.trans (bd_e u2) ?_
      refine Eq.trans (gd_in hK8 (by decide)) ?_
      rw [cK, nI_add, lt', ← hM]
      refine Eq.trans (if_neg hM0) ?_
      rw [gd_in hK8 (by decide), M3, gd_in hK8 (by decide)]
      rfl
    have hno : ∀ (b' : Pb), (j_P_Reader_takeSize_37_8 sy (wy0, kd, nI H, nI W) b v = j_P_Reader_takeSize_83_15 sy b1 v1 (wy0, kd, nI H, nI (W + x))) → f_Model_readSymbol mo (nI at_) (nI H) (nI W) = j_Model_readSymbol_53_8 (nI at_) (nI H) (nI (at_ + 40)) (Mo_s_why M 2) → ∃ (wy w' : Int32) (b' : Pb) (v' : Br) (mo' : Mo), j_P_Reader_takeSize_37_8 sy (wy0, kd, nI H, nI W) b v = some (0, (wy, kd, nI H, w'), b', v', sy) ∧ f_Model_readSymbol mo (nI at_) (nI H) (nI W) = some mo' ∧ Mo_why mo' = wy ∧ ¬ wy < 0 ∧ Gr at_ mo mo' ∧ Br_byL v' = Br_byL v := by
      intro _ h1 h2
      refine ⟨2, nI (W + x), b1, v1, Mo_s_why M 2, h1.trans rfl, h2.trans ?_, wz M 2, by decide, Gr.trans M2 (Gr_fp (Fp_w M 2)), t5⟩
      rw [j_Model_readSymbol_53_8]
      exact if_neg (show ¬ Mo_why (Mo_s_why M 2) < 0 by rw [wz]; decide)
    by_cases e1 : 16 < W + x
    · left
      refine hno b1 ?_ ?_
      · rw [j_P_Reader_takeSize_37_8]
        refine Eq.trans (bd_e u1) ?_
        refine Eq.trans (if_neg (nI_m1 (by omega))) ?_
        rw [lt', hrd]
        refine Eq.trans (if_neg (show ¬ nI (W + x) = 0 from nI_ne0 (by omega) (by omega))) ?_
        exact if_neg (show ¬ nI (W + x) ≤ 16 from nI_ge (a := 16) e1 (by omega))
      · rw [hmo]; exact if_pos (show (16 : Int32) < nI (W + x) from nI_lt (a := 16) e1 (by omega))
    have hmo2 := hmo.trans (if_neg (show ¬ (16 : Int32) < nI (W + x) from nI_nlt (a := 16) (by omega) (by decide)))
    by_cases e2 : W + x = 0
    · left
      refine hno b1 ?_ ?_
      · rw [j_P_Reader_takeSize_37_8]
        refine Eq.trans (bd_e u1) ?_
        refine Eq.trans (if_neg (nI_m1 (by omega))) ?_
        rw [lt', hrd]
        exact if_pos (show nI (W + x) = 0 by rw [e2]; rfl)
      · rw [hmo2]; exact if_pos (show nI (W + x) = 0 by rw [e2]; rfl)
    · right
      obtain ⟨g, g1, g2, g3⟩ := s_add (sy := sy) (w := W + x) (h := H) hn hat (by omega) hH
      refine ⟨W + x, a1, b1, v1, M, g, by omega, by omega, by omega, ?_, g2, g3, ?_, Rs_P M0 t1, t2, t3, M1, M2, M3, t5⟩
      · rw [j_P_Reader_takeSize_37_8]
        refine Eq.trans (bd_e u1) ?_
        refine Eq.trans (if_neg (nI_m1 (by omega))) ?_
        rw [lt', hrd]
        refine Eq.trans (if_neg (show ¬ nI (W + x) = 0 from nI_ne0 (by omega) (by omega))) ?_
        refine Eq.trans (if_pos (show nI (W + x) ≤ 16 from nI_le (b := 16) (by omega) (by decide))) ?_
        exact bd_e g1
      · rw [hmo2]; exact if_neg (show ¬ nI (W + x) = 0 from nI_ne0 (by omega) (by omega))
theorem base_P {m at_ H a : Nat} {wy0 kd xh xw : Int32} {b : Pb} {v : Br} {mo : Mo} {sy : Sy} (hat : at_ < 40) (p1 : Sy_bs sy at_ = -1) (p2 : Sy_dx sy at_ = 0) (p3 : Sy_dy sy at_ = 0) (hR : RcP b v mo m a) (ha : a + 200 < 2 ^ 30) (hwy : Mo_why mo = -1) :
    (∃ (wy : Int32) (b' : Pb) (v' : Br) (mo' : Mo), f_P_Reader_takeBase (wy0, kd, xh, xw) b v sy (nI at_) = some (0, (wy, kd, xh, xw), b', v', sy) ∧ j_Model_readSymbol_53_8 (nI at_) (nI H) (nI (at_ + 40)) mo = some mo' ∧ Mo_why mo' = wy ∧ ¬ wy < 0 ∧ Gr at_ mo mo' ∧ Br_byL v' = Br_byL v) ∨
    ∃ (a' ax ay : Nat) (b' : Pb) (v' : Br) (sy' : Sy) (M : Mo) (B Bx : Int32), ax ≤ 8 ∧ ay ≤ 8 ∧ f_P_Reader_takeBase (wy0, kd, xh, xw) b v sy (nI at_) = some (1, (wy0, kd, xh, xw), b', v', sy') ∧ ((B = -1 ∧ Bx = -1) ∨ ∃ bb, bb < at_ ∧ B = nI bb ∧ Bx = nI (bb + 40)) ∧ j_Model_readSymbol_53_8 (nI at_) (nI H) (nI (at_ + 40)) mo = bd (f_Model_readPlane M (nI (at_ + 40)) Bx) (fun mo_32 => some mo_32) ∧ RcP b' v' M m a' ∧ a ≤ a' ∧ a' ≤ a + 150 ∧ Mo_why M = -1 ∧ Gr at_ mo M ∧ Br_byL v' = Br_byL v ∧
      (Sy_wd sy' = Sy_wd sy ∧ Sy_ht sy' = Sy_ht sy ∧ Sy_ex sy' = Sy_ex sy ∧ Sy_rw sy' = Sy_rw sy ∧ Sy_co sy' = Sy_co sy ∧ Sy_n sy' = Sy_n sy) ∧ (∀ k, k ≠ at_ → Sy_bs sy' k = Sy_bs sy k ∧ Sy_dx sy' k = Sy_dx sy k ∧ Sy_dy sy' k = Sy_dy sy k) ∧ (Sy_bs sy' at_ = B ∧ Sy_dx sy' at_ = nI ax - 4 ∧ Sy_dy sy' at_ = nI ay - 4) ∧
      Mo_wd M (at_ + 40) = Mo_wd mo (at_ + 40) ∧ Mo_ht M (at_ + 40) = nI H ∧ Mo_ex M (at_ + 40) = 0 ∧ Mo_bs M (at_ + 40) = B ∧ Mo_dx M (at_ + 40) = nI ax - 4 ∧ Mo_dy M (at_ + 40) = nI ay - 4 := by
  have cK : (nI (at_ + 40)).toNatClampNeg = at_ + 40 := nI_clamp (by omega)
  have hK8 : at_ + 40 < 80 := by omega
  obtain ⟨M, hM⟩ : ∃ z, z = Mo_s_dy (Mo_s_dx (Mo_s_bs (Mo_s_ex (Mo_s_ht mo (upd (Mo_ht mo) (at_ + 40) (nI H))) (upd (Mo_ex mo) (at_ + 40) (vp_nar .boolean 0))) (upd (Mo_bs mo) (at_ + 40) (-1))) (upd (Mo_dx mo) (at_ + 40) 0)) (upd (Mo_dy mo) (at_ + 40) 0) := ⟨_, rfl⟩
  have M1 : Mo_wd M = Mo_wd mo := by subst hM; exact sz_wd mo _ _ _ _ _
  have M2 : Mo_ht M = upd (Mo_ht mo) (at_ + 40) (nI H) := by subst hM; exact sz_ht mo _ _ _ _ _
  have M3 : Mo_ex M = upd (Mo_ex mo) (at_ + 40) (vp_nar .boolean 0) := by subst hM; exact sz_ex mo _ _ _ _ _
  have M4 : Mo_bs M = upd (Mo_bs mo) (at_ + 40) (-1) := by subst hM; exact sz_bs mo _ _ _ _ _
  have M5 : Mo_dx M = upd (Mo_dx mo) (at_ + 40) 0 := by subst hM; exact sz_dx mo _ _ _ _ _
  have M6 : Mo_dy M = upd (Mo_dy mo) (at_ + 40) 0 := by subst hM; exact sz_dy mo _ _ _ _ _
  have M7 : Mo_rw M = Mo_rw mo := by subst hM; exact sz_rw mo _ _ _ _ _
  have M8 : Sx mo M := by subst hM; exact Sx_5 mo _ _ _ _ _
  have M9 : Gr at_ mo M := Gr_sm M8 (fun j _ => by rw [M1]) (fun j hj => by rw [M2]; exact pk_un (by omega)) (fun j hj => by rw [M3]; exact pk_un (by omega)) (fun j hj => by rw [M4]; exact pk_un (by omega)) (fun j hj => by rw [M5]; exact pk_un (by omega)) (fun j hj => by rw [M6]; exact pk_un (by omega)) (fun j _ => by rw [M7])
  have Mw : Mo_why M = -1 := (Sx_w M8).1.trans hwy
  obtain ⟨r, b1, v1, mo1, a1, r1, r2, r3, r4, r5, r6, r7, r8⟩ := bit_P (Rs_P M8 hR) (by omega)
  obtain ⟨w1, w2, w3, w4, w5, w6, w7, w8, w9⟩ := Tm_s r5
  have hw1 : Mo_why mo1 = -1 := w8.trans Mw
  have hst : ∀ y, (if r = 1 then bd (f_Model_takeNumber mo1) (fun p => if 0 ≤ Mo_why p.2 then j_Model_readSymbol_135_39 (nI at_) (nI (at_ + 40)) p.1 p.2 else if p.1 < nI at_ then j_Model_readSymbol_135_39 (nI at_) (nI (at_ + 40)) p.1 p.2 else j_Model_readSymbol_135_39 (nI at_) (nI (at_ + 40)) p.1 (Mo_s_why p.2 3)) else j_Model_readSymbol_227_28 (nI (at_ + 40)) mo1) = y → j_Model_readSymbol_53_8 (nI at_) (nI H) (nI (at_ + 40)) mo = y := by
    intro y hy
    rw [j_Model_readSymbol_53_8, if_pos (show Mo_why mo < 0 by rw [hwy]; decide), gd_in hK8 (by decide), cK, lt', sq_ex, gd_in hK8 (by decide), lt', sq_bs, gd_in hK8 (by decide), lt', sq_dx, gd_in hK8 (by decide), lt', sq_dy, gd_in hK8 (by decide), lt', ← hM]
    refine Eq.trans (bd_e r2) ?_
    exact hy
  rcases r4 with rfl | rfl
  · right
    refine ⟨a1, 4, 4, b1, v1, sy, mo1, -1, -1, by decide, by decide, ?_, Or.inl ⟨rfl, rfl⟩, hst _ ?_, r3, r7, by omega, hw1, Gr.trans M9 (Gr_tm r5), r6, ⟨rfl, rfl, rfl, rfl, rfl, rfl⟩, fun k _ => ⟨rfl, rfl, rfl⟩, ⟨p1, p2.trans (by decide +kernel), p3.trans (by decide +kernel)⟩, by rw [w1, M1], by rw [w2, M2]; exact pk_us, by rw [w3, M3]; exact pk_us.trans nb0, by rw [w4, M4]; exact pk_us, by rw [w5, M5]; exact pk_us.trans (by decide +kernel), by rw [w6, M6]; exact pk_us.trans (by decide +kernel)⟩
    · rw [f_P_Reader_takeBase]
      refine Eq.trans (bd_e r1) ?_
      rfl
    · refine Eq.trans (if_neg (show ¬ (0 : Int32) = 1 by decide)) ?_
      rw [j_Model_readSymbol_227_28, gd_in hK8 (by decide), cK, if_neg (show ¬ 0 ≤ Mo_bs mo1 (at_ + 40) by rw [w4, M4, pk_us]; decide), j_Model_readSymbol_254_31]
  · obtain ⟨a2, b2, v2, mo2, t1, t2, t3, t4, t5, t6⟩ := takeNum_P r3 (by omega)
    obtain ⟨x1, x2, x3, x4, x5, x6, x7, x8, x9⟩ := Tm_s t4
    have hw2 : Mo_why mo2 = -1 := x8.trans hw1
    have hG2 : Gr at_ mo mo2 := Gr.trans M9 (Gr.trans (Gr_tm r5) (Gr_tm t4))
    rcases t6 with ⟨u1, u2⟩ | ⟨x, hx, u1, u2, -⟩
    · left
      obtain ⟨N, hN⟩ : ∃ z, z = Mo_s_why mo2 7 := ⟨_, rfl⟩
      rw [← hN] at u2
      have N1 : Mo_why N = 7 := by subst hN; exact wz mo2 7
      have N2 : Fp mo2 N := by subst hN; exact Fp_w mo2 7
      refine ⟨7, b2, v2, N, ?_, hst _ ?_, N1, by decide, Gr.trans hG2 (Gr_fp N2), t5.trans r6⟩
      · rw [f_P_Reader_takeBase]
        refine Eq.trans (bd_e r1) ?_
        refine Eq.trans (if_neg (show ¬ (1 : Int32) = 0 by decide)) ?_
        refine Eq.trans (bd_e u1) ?_
        rfl
      · refine Eq.trans (if_pos rfl) ?_
        refine Eq.trans (bd_e u2) ?_
        refine Eq.trans (if_pos (show (0 : Int32) ≤ Mo_why N by rw [N1]; decide)) ?_
        show j_Model_readSymbol_135_39 (nI at_) (nI (at_ + 40)) 0 N = some N
        rw [j_Model_readSymbol_135_39]
        exact if_neg (show ¬ Mo_why N < 0 by rw [N1]; decide)
    · rcases (Decidable.em (x < at_)).symm with e1 | e1
      · left
        obtain ⟨N, hN⟩ : ∃ z, z = Mo_s_why mo2 3 := ⟨_, rfl⟩
        have N1 : Mo_why N = 3 := by subst hN; exact wz mo2 3
        have N2 : Fp mo2 N := by subst hN; exact Fp_w mo2 3
        refine ⟨3, b2, v2, N, ?_, hst _ ?_, N1, by decide, Gr.trans hG2 (Gr_fp N2), t5.trans r6⟩
        · rw [f_P_Reader_takeBase]
          refine Eq.trans (bd_e r1) ?_
          refine Eq.trans (if_neg (show ¬ (1 : Int32) = 0 by decide)) ?_
          refine Eq.trans (bd_e u1) ?_
          refine Eq.trans (if_neg (nI_m1 (by omega))) ?_
          rw [lt', bsub]
          refine Eq.trans (if_neg (show ¬ (0 : Int32) ≤ nI at_ - nI (x + 1) from lt_nle (pk_sneg (by omega) (by omega)))) ?_
          rfl
        · refine Eq.trans (if_pos rfl) ?_
          refine Eq.trans (bd_e u2) ?_
          refine Eq.trans (if_neg (show ¬ (0 : Int32) ≤ Mo_why mo2 by rw [hw2]; decide)) ?_
          refine Eq.trans (if_neg (show ¬ nI x < nI at_ from nI_nlt (by omega) (by omega))) ?_
          show j_Model_readSymbol_135_39 (nI at_) (nI (at_ + 40)) (nI x) (Mo_s_why mo2 3) = some N
          rw [← hN, j_Model_readSymbol_135_39]
          exact if_neg (show ¬ Mo_why N < 0 by rw [N1]; decide)
      · have hb : (nI at_ - 1) - nI x = nI (at_ - (x + 1)) := by rw [bsub, pk_sub (by omega)]
        obtain ⟨Mb, hMb⟩ : ∃ z, z = Mo_s_bs mo2 (upd (Mo_bs mo2) (at_ + 40) (nI (at_ - (x + 1)))) := ⟨_, rfl⟩
        have k0 : Sx mo2 Mb := by subst hMb; exact Sx_bs mo2 _
        have k1 : Mo_wd Mb = Mo_wd mo2 := by subst hMb; rfl
        have k2 : Mo_ht Mb = Mo_ht mo2 := by subst hMb; rfl
        have k3 : Mo_ex Mb = Mo_ex mo2 := by subst hMb; rfl
        have k4 : Mo_bs Mb (at_ + 40) = nI (at_ - (x + 1)) := by subst hMb; exact pk_us
        have k6 : Gr at_ mo2 Mb := by subst hMb; exact Gr_bs mo2 at_ _
        obtain ⟨q1, a3, b3, v3, mo3, f1, f2, f3, f4, f5, f6, f7, f8⟩ := takeBits_P (k := 4) (by decide) (Rs_P k0 t1) (by omega)
        obtain ⟨y1, y2, y3, y4, y5, y6, y7, y8, y9⟩ := Tm_s f7
        obtain ⟨Mx, hMx⟩ : ∃ z, z = Mo_s_dx mo3 (upd (Mo_dx mo3) (at_ + 40) (nI q1 - 4)) := ⟨_, rfl⟩
        have l0 : Sx mo3 Mx := by subst hMx; exact Sx_dx mo3 _
        have l1 : Mo_wd Mx = Mo_wd mo3 := by subst hMx; rfl
        have l2 : Mo_ht Mx = Mo_ht mo3 := by subst hMx; rfl
        have l3 : Mo_ex Mx = Mo_ex mo3 := by subst hMx; rfl
        have l4 : Mo_bs Mx = Mo_bs mo3 := by subst hMx; rfl
        have l5 : Mo_dx Mx (at_ + 40) = nI q1 - 4 := by subst hMx; exact pk_us
        have l6 : Gr at_ mo3 Mx := by subst hMx; exact Gr_dx mo3 at_ _
        have hG3 : Gr at_ mo Mx := Gr.trans hG2 (Gr.trans k6 (Gr.trans (Gr_tm f7) l6))
        have hw3 : Mo_why Mx = -1 := (Sx_w l0).1.trans (y8.trans ((Sx_w k0).1.trans hw2))
        have hst2 : ∀ y, (if Mo_dx Mx (at_ + 40) ≤ 4 then bd (f_Model_takeBits Mx 4) (fun p => j_Model_readSymbol_198_52 (nI (at_ + 40)) p.2 (p.1 - 4)) else j_Model_readSymbol_198_52 (nI (at_ + 40)) Mx 5) = y → j_Model_readSymbol_53_8 (nI at_) (nI H) (nI (at_ + 40)) mo = y := by
          intro y hy
          refine hst _ ?_
          refine Eq.trans (if_pos rfl) ?_
          refine Eq.trans (bd_e u2) ?_
          refine Eq.trans (if_neg (show ¬ (0 : Int32) ≤ Mo_why mo2 by rw [hw2]; decide)) ?_
          refine Eq.trans (if_pos (show nI x < nI at_ from nI_lt e1 (by omega))) ?_
          show j_Model_readSymbol_135_39 (nI at_) (nI (at_ + 40)) (nI x) mo2 = y
          rw [j_Model_readSymbol_135_39, if_pos (show Mo_why mo2 < 0 by rw [hw2]; decide), gd_in hK8 (by decide), cK, hb, lt', ← hMb]
          refine Eq.trans (bd_e f2) ?_
          refine Eq.trans (gd_in hK8 (by decide)) ?_
          rw [lt', ← hMx, gd_in hK8 (by decide)]
          exact hy
        have hcl : ∀ (q2 : Nat) (b4 : Pb) (v4 : Br) (y : Option (Int32 × Rd × Pb × Br × Sy)), f_P_Bits_takeBits b3 v3 4 = some (nI q2, b4, v4) → (if 4 < nI q1 - 4 then j_P_Reader_takeBase_87_19 (wy0, kd, xh, xw) sy b4 v4 else if nI q2 - 4 ≤ 4 then bd (f_Symbols_refine sy (nI at_) (nI (at_ - (x + 1))) (nI q1 - 4) (nI q2 - 4)) (fun sy_24 => some (1, (wy0, kd, xh, xw), b4, v4, sy_24)) else j_P_Reader_takeBase_87_19 (wy0, kd, xh, xw) sy b4 v4) = y → f_P_Reader_takeBase (wy0, kd, xh, xw) b v sy (nI at_) = y := by
          intro q2 b4 v4 y h4 hy
          rw [f_P_Reader_takeBase]
          refine Eq.trans (bd_e r1) ?_
          refine Eq.trans (if_neg (show ¬ (1 : Int32) = 0 by decide)) ?_
          refine Eq.trans (bd_e u1) ?_
          refine Eq.trans (if_neg (nI_m1 (by omega))) ?_
          rw [lt', hb]
          refine Eq.trans (if_pos (show (0 : Int32) ≤ nI (at_ - (x + 1)) from nI_pos' (by omega))) ?_
          refine Eq.trans (bd_e f1) ?_
          refine Eq.trans (bd_e h4) ?_
          exact hy
        have hrf : ∀ (b4 : Pb) (v4 : Br), j_P_Reader_takeBase_87_19 (wy0, kd, xh, xw) sy b4 v4 = some (0, (4, kd, xh, xw), b4, v4, sy) := fun _ _ => rfl
        have hd15 : q1 < 16 := f4
        rcases (Decidable.em (q1 ≤ 8)).symm with e2 | e2
        · left
          obtain ⟨q2, a4, b4, v4, mo4, g1, -, -, -, -, -, -, g8⟩ := takeBits_P (k := 4) (by decide) f3 (by omega)
          obtain ⟨My, hMy⟩ : ∃ z, z = Mo_s_dy Mx (upd (Mo_dy Mx) (at_ + 40) 5) := ⟨_, rfl⟩
          have z5 : Mo_dx My (at_ + 40) = nI q1 - 4 := by subst hMy; exact l5
          have z6 : Gr at_ Mx My := by subst hMy; exact Gr_dy Mx at_ _
          refine ⟨4, b4, v4, Mo_s_why My 4, ?_, ?_, wz My 4, by decide, Gr.trans hG3 (Gr.trans z6 (Gr_fp (Fp_w My 4))), g8.trans (f8.trans (t5.trans r6))⟩
          · refine hcl q2 b4 v4 _ g1 ?_
            exact Eq.trans (if_pos ((sh8 q1 hd15).2 (by omega)).1) (hrf b4 v4)
          · refine hst2 _ ?_
            rw [l5]
            refine Eq.trans (if_neg ((sh8 q1 hd15).2 (by omega)).2) ?_
            rw [j_Model_readSymbol_198_52, gd_in hK8 (by decide), cK, lt', ← hMy, gd_in hK8 (by decide), z5]
            exact if_pos ((sh8 q1 hd15).2 (by omega)).1
        · obtain ⟨q2, a4, b4, v4, mo4, g1, g2, g3, g4, g5, g6, g7, g8⟩ := takeBits_P (k := 4) (by decide) (Rs_P l0 f3) (by omega)
          obtain ⟨d1, d2, d3, d4, d5, d6, d7, d8, d9⟩ := Tm_s g7
          have hd16 : q2 < 16 := g4
          obtain ⟨My, hMy⟩ : ∃ z, z = Mo_s_dy mo4 (upd (Mo_dy mo4) (at_ + 40) (nI q2 - 4)) := ⟨_, rfl⟩
          have z0 : Sx mo4 My := by subst hMy; exact Sx_dy mo4 _
          have z1 : Mo_wd My = Mo_wd mo4 := by subst hMy; rfl
          have z2 : Mo_ht My = Mo_ht mo4 := by subst hMy; rfl
          have z3 : Mo_ex My = Mo_ex mo4 := by subst hMy; rfl
          have z4 : Mo_bs My = Mo_bs mo4 := by subst hMy; rfl
          have z5 : Mo_dx My (at_ + 40) = nI q1 - 4 := by subst hMy; exact (congrFun d5 _).trans l5
          have z6 : Mo_dy My (at_ + 40) = nI q2 - 4 := by subst hMy; exact pk_us
          have z7 : Gr at_ mo My := Gr.trans hG3 (Gr.trans (Gr_tm g7) (by subst hMy; exact Gr_dy mo4 at_ _))
          have z8 : Mo_why My = -1 := (Sx_w z0).1.trans (d8.trans hw3)
          have z9 : Mo_bs My (at_ + 40) = nI (at_ - (x + 1)) := by rw [z4, d4, l4, y4]; exact k4
          have hst3 : ∀ y, (if nI q2 - 4 ≤ 4 then j_Model_readSymbol_227_28 (nI (at_ + 40)) My else some (Mo_s_why My 4)) = y → j_Model_readSymbol_53_8 (nI at_) (nI H) (nI (at_ + 40)) mo = y := by
            intro y hy
            refine hst2 _ ?_
            rw [l5]
            refine Eq.trans (if_pos ((sh8 q1 hd15).1 e2).2) ?_
            refine Eq.trans (bd_e g2) ?_
            show j_Model_readSymbol_198_52 (nI (at_ + 40)) mo4 (nI q2 - 4) = y
            rw [j_Model_readSymbol_198_52, gd_in hK8 (by decide), cK, lt', ← hMy, gd_in hK8 (by decide), z5]
            refine Eq.trans (if_neg ((sh8 q1 hd15).1 e2).1) ?_
            rw [gd_in hK8 (by decide), z6]
            exact hy
          rcases (Decidable.em (q2 ≤ 8)).symm with e3 | e3
          · left
            refine ⟨4, b4, v4, Mo_s_why My 4, ?_, hst3 _ (if_neg ((sh8 q2 hd16).2 (by omega)).2), wz My 4, by decide, Gr.trans z7 (Gr_fp (Fp_w My 4)), g8.trans (f8.trans (t5.trans r6))⟩
            refine hcl q2 b4 v4 _ g1 ?_
            refine Eq.trans (if_neg ((sh8 q1 hd15).1 e2).1) ?_
            exact Eq.trans (if_neg ((sh8 q2 hd16).2 (by omega)).2) (hrf b4 v4)
          · right
            have e40 : (40 : Int32) + nI (at_ - (x + 1)) = nI (at_ - (x + 1) + 40) := by rw [show (40 : Int32) = nI 40 from rfl, nI_add, Nat.add_comm]
            refine ⟨a4, q1, q2, b4, v4, Sy_s_dy (Sy_s_dx (Sy_s_bs sy (upd (Sy_bs sy) at_ (nI (at_ - (x + 1))))) (upd (Sy_dx sy) at_ (nI q1 - 4))) (upd (Sy_dy sy) at_ (nI q2 - 4)), My, nI (at_ - (x + 1)), nI (at_ - (x + 1) + 40), e2, e3, ?_, Or.inr ⟨at_ - (x + 1), by omega, rfl, rfl⟩, ?_, Rs_P z0 g3, by omega, by omega, z8, z7, g8.trans (f8.trans (t5.trans r6)), ⟨rfl, rfl, rfl, rfl, rfl, rfl⟩, fun k hk => ⟨pk_un hk, pk_un hk, pk_un hk⟩, ⟨pk_us, pk_us, pk_us⟩, ?_, ?_, ?_, z9, z5, z6⟩
            · refine hcl q2 b4 v4 _ g1 ?_
              refine Eq.trans (if_neg ((sh8 q1 hd15).1 e2).1) ?_
              refine Eq.trans (if_pos ((sh8 q2 hd16).1 e3).2) ?_
              exact bd_e (s_refine _ _ _ hat)
            · refine hst3 _ ?_
              refine Eq.trans (if_pos ((sh8 q2 hd16).1 e3).2) ?_
              rw [j_Model_readSymbol_227_28, gd_in hK8 (by decide), cK, z9, if_pos (nI_pos' (show at_ - (x + 1) < 2 ^ 31 by omega)), gd_in hK8 (by decide), e40, j_Model_readSymbol_254_31]
            · rw [z1, d1, l1, y1, k1, x1, w1, M1]
            · rw [z2, d2, l2, y2, k2, x2, w2, M2]; exact pk_us
            · rw [z3, d3, l3, y3, k3, x3, w3, M3]; exact pk_us.trans nb0
theorem bit_C {m a : Nat} {b : Cb} {v : Br} {mo : Mo} (hR : RcC b v mo m a) (ha : a + 4 < 2 ^ 30) : ∃ (r : Int32) (b' : Cb) (v' : Br) (mo' : Mo) (a' : Nat), f_C_ChanceBits_takeBit b v (-1) = some (r, b', v') ∧ f_Model_take mo 32768 = some (r, mo') ∧ RcC b' v' mo' m a' ∧ (r = 0 ∨ r = 1) ∧ Tm mo mo' ∧ Br_byL v' = Br_byL v ∧ a ≤ a' ∧ a' ≤ a + 4 := by
  obtain ⟨r, b', v', mo', a', t1, t2, t3, t4, t5, t6, t7, t8⟩ := takeC (c := -1) hR ha (Or.inl rfl)
  refine ⟨r, b', v', mo', a', t1, ?_, t3, t4, t5, t6, t8, t7⟩
  rw [mT, if_pos rfl] at t2
  exact t2
theorem width_C {m at_ H W a : Nat} {wy0 kd : Int32} {b : Cb} {v : Br} {mo : Mo} {sy : Sy} (hat : at_ < 40) (hH : H ≤ 16) (hW : W ≤ 16) (hn : Sy_n sy = nI at_) (hR : RcC b v mo m a) (ha : a + 80 < 2 ^ 30) (hwy : Mo_why mo = -1) :
    (∃ (wy w' : Int32) (b' : Cb) (v' : Br) (mo' : Mo), j_C_Reader_takeSize_37_8 sy (wy0, kd, nI H, nI W) b v = some (0, (wy, kd, nI H, w'), b', v', sy) ∧ f_Model_readSymbol mo (nI at_) (nI H) (nI W) = some mo' ∧ Mo_why mo' = wy ∧ ¬ wy < 0 ∧ Gr at_ mo mo' ∧ Br_byL v' = Br_byL v) ∨
    ∃ (w a' : Nat) (b' : Cb) (v' : Br) (M : Mo) (g : Nat → Int32), W ≤ w ∧ 1 ≤ w ∧ w ≤ 16 ∧ j_C_Reader_takeSize_37_8 sy (wy0, kd, nI H, nI W) b v = some (1, (wy0, kd, nI H, nI w), b', v', (upd (Sy_wd sy) at_ (nI w), upd (Sy_ht sy) at_ (nI H), upd (Sy_ex sy) at_ (vp_nar .boolean 0), upd (Sy_bs sy) at_ (-1), upd (Sy_dx sy) at_ 0, upd (Sy_dy sy) at_ 0, upd (Sy_co sy) at_ (-1), nI (at_ + 1), g, Sy_fc sy)) ∧ (∀ y, y < H → g (16 * at_ + y) = 0) ∧ (∀ j, j < 16 * at_ → g j = Sy_rw sy j) ∧ f_Model_readSymbol mo (nI at_) (nI H) (nI W) = j_Model_readSymbol_53_8 (nI at_) (nI H) (nI (at_ + 40)) M ∧ RcC b' v' M m a' ∧ a ≤ a' ∧ a' ≤ a + 72 ∧ Mo_why M = -1 ∧ Gr at_ mo M ∧ Mo_wd M (at_ + 40) = nI w ∧ Br_byL v' = Br_byL v := by
  have e40 : (40 : Int32) + nI at_ = nI (at_ + 40) := by rw [show (40 : Int32) = nI 40 from rfl, nI_add, Nat.add_comm]
  have cK : (nI (at_ + 40)).toNatClampNeg = at_ + 40 := nI_clamp (by omega)
  have hK8 : at_ + 40 < 80 := by omega
  obtain ⟨a1, b1, v1, mo1, t1, t2, t3, t4, t5, t6⟩ := takeNum_C hR (by omega)
  have hw1 : Mo_why mo1 = -1 := (Tm_w t4).1.trans hwy
  rcases t6 with ⟨u1, u2⟩ | ⟨x, hx, u1, u2, -⟩
  · left
    obtain ⟨N, hN⟩ : ∃ z, z = Mo_s_why mo1 7 := ⟨_, rfl⟩
    rw [← hN] at u2
    have N1 : Mo_why N = 7 := by subst hN; exact wz mo1 7
    have N2 : Fp mo1 N := by subst hN; exact Fp_w mo1 7
    obtain ⟨M, hM⟩ : ∃ z, z = Mo_s_wd N (upd (Mo_wd N) (at_ + 40) (nI W + 0)) := ⟨_, rfl⟩
    have M1 : Mo_why M = 7 := by subst hM; exact N1
    have M2 : Gr at_ N M := by subst hM; exact Gr_wd N at_ _
    refine ⟨7, nI W, b1, v1, M, ?_, ?_, M1, by decide, Gr.trans (Gr_fp (Fp.trans (Fp.of t4) N2)) M2, t5⟩
    · rw [j_C_Reader_takeSize_37_8]
      refine Eq.trans (bd_e u1) ?_
      rfl
    · rw [f_Model_readSymbol, e40, lt']
      refine Eq.trans (bd_e u2) ?_
      refine Eq.trans (gd_in hK8 (by decide)) ?_
      rw [cK, lt', ← hM]
      refine Eq.trans (if_pos (show (0 : Int32) ≤ Mo_why M by rw [M1]; decide)) ?_
      rw [j_Model_readSymbol_53_8]
      exact if_neg (show ¬ Mo_why M < 0 by rw [M1]; decide)
  · obtain ⟨M, hM⟩ : ∃ z, z = Mo_s_wd mo1 (upd (Mo_wd mo1) (at_ + 40) (nI (W + x))) := ⟨_, rfl⟩
    have M0 : Sx mo1 M := by subst hM; exact Sx_wd mo1 _
    have M1 : Mo_why M = -1 := (Sx_w M0).1.trans hw1
    have M2 : Gr at_ mo M := Gr.trans (Gr_tm t4) (by subst hM; exact Gr_wd mo1 at_ _)
    have M3 : Mo_wd M (at_ + 40) = nI (W + x) := by subst hM; exact pk_us
    have hrd : Rd_s_w (wy0, kd, nI H, nI W) (Rd_w (wy0, kd, nI H, nI W) + nI x) = (wy0, kd, nI H, nI (W + x)) := congrArg (fun z => (wy0, kd, nI H, z)) (nI_add W x)
    have hM0 : ¬ (0 : Int32) ≤ Mo_why M := by rw [M1]; decide
    have hmo : f_Model_readSymbol mo (nI at_) (nI H) (nI W) = if 16 < nI (W + x) then j_Model_readSymbol_53_8 (nI at_) (nI H) (nI (at_ + 40)) (Mo_s_why M 2) else if nI (W + x) = 0 then j_Model_readSymbol_53_8 (nI at_) (nI H) (nI (at_ + 40)) (Mo_s_why M 2) else j_Model_readSymbol_53_8 (nI at_) (nI H) (nI (at_ + 40)) M := by
      rw [f_Model_readSymbol, e40, lt']
      refine Eq.trans (bd_e u2) ?_
      refine Eq.trans (gd_in hK8 (by decide)) ?_
      rw [cK, nI_add, lt', ← hM]
      refine Eq.trans (if_neg hM0) ?_
      rw [gd_in hK8 (by decide), M3, gd_in hK8 (by decide)]
      rfl
    have hno : ∀ (b' : Cb), (j_C_Reader_takeSize_37_8 sy (wy0, kd, nI H, nI W) b v = j_C_Reader_takeSize_83_15 sy b1 v1 (wy0, kd, nI H, nI (W + x))) → f_Model_readSymbol mo (nI at_) (nI H) (nI W) = j_Model_readSymbol_53_8 (nI at_) (nI H) (nI (at_ + 40)) (Mo_s_why M 2) → ∃ (wy w' : Int32) (b' : Cb) (v' : Br) (mo' : Mo), j_C_Reader_takeSize_37_8 sy (wy0, kd, nI H, nI W) b v = some (0, (wy, kd, nI H, w'), b', v', sy) ∧ f_Model_readSymbol mo (nI at_) (nI H) (nI W) = some mo' ∧ Mo_why mo' = wy ∧ ¬ wy < 0 ∧ Gr at_ mo mo' ∧ Br_byL v' = Br_byL v := by
      intro _ h1 h2
      refine ⟨2, nI (W + x), b1, v1, Mo_s_why M 2, h1.trans rfl, h2.trans ?_, wz M 2, by decide, Gr.trans M2 (Gr_fp (Fp_w M 2)), t5⟩
      rw [j_Model_readSymbol_53_8]
      exact if_neg (show ¬ Mo_why (Mo_s_why M 2) < 0 by rw [wz]; decide)
    by_cases e1 : 16 < W + x
    · left
      refine hno b1 ?_ ?_
      · rw [j_C_Reader_takeSize_37_8]
        refine Eq.trans (bd_e u1) ?_
        refine Eq.trans (if_neg (nI_m1 (by omega))) ?_
        rw [lt', hrd]
        refine Eq.trans (if_neg (show ¬ nI (W + x) = 0 from nI_ne0 (by omega) (by omega))) ?_
        exact if_neg (show ¬ nI (W + x) ≤ 16 from nI_ge (a := 16) e1 (by omega))
      · rw [hmo]; exact if_pos (show (16 : Int32) < nI (W + x) from nI_lt (a := 16) e1 (by omega))
    have hmo2 := hmo.trans (if_neg (show ¬ (16 : Int32) < nI (W + x) from nI_nlt (a := 16) (by omega) (by decide)))
    by_cases e2 : W + x = 0
    · left
      refine hno b1 ?_ ?_
      · rw [j_C_Reader_takeSize_37_8]
        refine Eq.trans (bd_e u1) ?_
        refine Eq.trans (if_neg (nI_m1 (by omega))) ?_
        rw [lt', hrd]
        exact if_pos (show nI (W + x) = 0 by rw [e2]; rfl)
      · rw [hmo2]; exact if_pos (show nI (W + x) = 0 by rw [e2]; rfl)
    · right
      obtain ⟨g, g1, g2, g3⟩ := s_add (sy := sy) (w := W + x) (h := H) hn hat (by omega) hH
      refine ⟨W + x, a1, b1, v1, M, g, by omega, by omega, by omega, ?_, g2, g3, ?_, Rs_C M0 t1, t2, t3, M1, M2, M3, t5⟩
      · rw [j_C_Reader_takeSize_37_8]
        refine Eq.trans (bd_e u1) ?_
        refine Eq.trans (if_neg (nI_m1 (by omega))) ?_
        rw [lt', hrd]
        refine Eq.trans (if_neg (show ¬ nI (W + x) = 0 from nI_ne0 (by omega) (by omega))) ?_
        refine Eq.trans (if_pos (show nI (W + x) ≤ 16 from nI_le (b := 16) (by omega) (by decide))) ?_
        exact bd_e g1
      · rw [hmo2]; exact if_neg (show ¬ nI (W + x) = 0 from nI_ne0 (by omega) (by omega))
theorem base_C {m at_ H a : Nat} {wy0 kd xh xw : Int32} {b : Cb} {v : Br} {mo : Mo} {sy : Sy} (hat : at_ < 40) (p1 : Sy_bs sy at_ = -1) (p2 : Sy_dx sy at_ = 0) (p3 : Sy_dy sy at_ = 0) (hR : RcC b v mo m a) (ha : a + 200 < 2 ^ 30) (hwy : Mo_why mo = -1) :
    (∃ (wy : Int32) (b' : Cb) (v' : Br) (mo' : Mo), f_C_Reader_takeBase (wy0, kd, xh, xw) b v sy (nI at_) = some (0, (wy, kd, xh, xw), b', v', sy) ∧ j_Model_readSymbol_53_8 (nI at_) (nI H) (nI (at_ + 40)) mo = some mo' ∧ Mo_why mo' = wy ∧ ¬ wy < 0 ∧ Gr at_ mo mo' ∧ Br_byL v' = Br_byL v) ∨
    ∃ (a' ax ay : Nat) (b' : Cb) (v' : Br) (sy' : Sy) (M : Mo) (B Bx : Int32), ax ≤ 8 ∧ ay ≤ 8 ∧ f_C_Reader_takeBase (wy0, kd, xh, xw) b v sy (nI at_) = some (1, (wy0, kd, xh, xw), b', v', sy') ∧ ((B = -1 ∧ Bx = -1) ∨ ∃ bb, bb < at_ ∧ B = nI bb ∧ Bx = nI (bb + 40)) ∧ j_Model_readSymbol_53_8 (nI at_) (nI H) (nI (at_ + 40)) mo = bd (f_Model_readPlane M (nI (at_ + 40)) Bx) (fun mo_32 => some mo_32) ∧ RcC b' v' M m a' ∧ a ≤ a' ∧ a' ≤ a + 150 ∧ Mo_why M = -1 ∧ Gr at_ mo M ∧ Br_byL v' = Br_byL v ∧
      (Sy_wd sy' = Sy_wd sy ∧ Sy_ht sy' = Sy_ht sy ∧ Sy_ex sy' = Sy_ex sy ∧ Sy_rw sy' = Sy_rw sy ∧ Sy_co sy' = Sy_co sy ∧ Sy_n sy' = Sy_n sy) ∧ (∀ k, k ≠ at_ → Sy_bs sy' k = Sy_bs sy k ∧ Sy_dx sy' k = Sy_dx sy k ∧ Sy_dy sy' k = Sy_dy sy k) ∧ (Sy_bs sy' at_ = B ∧ Sy_dx sy' at_ = nI ax - 4 ∧ Sy_dy sy' at_ = nI ay - 4) ∧
      Mo_wd M (at_ + 40) = Mo_wd mo (at_ + 40) ∧ Mo_ht M (at_ + 40) = nI H ∧ Mo_ex M (at_ + 40) = 0 ∧ Mo_bs M (at_ + 40) = B ∧ Mo_dx M (at_ + 40) = nI ax - 4 ∧ Mo_dy M (at_ + 40) = nI ay - 4 := by
  have cK : (nI (at_ + 40)).toNatClampNeg = at_ + 40 := nI_clamp (by omega)
  have hK8 : at_ + 40 < 80 := by omega
  obtain ⟨M, hM⟩ : ∃ z, z = Mo_s_dy (Mo_s_dx (Mo_s_bs (Mo_s_ex (Mo_s_ht mo (upd (Mo_ht mo) (at_ + 40) (nI H))) (upd (Mo_ex mo) (at_ + 40) (vp_nar .boolean 0))) (upd (Mo_bs mo) (at_ + 40) (-1))) (upd (Mo_dx mo) (at_ + 40) 0)) (upd (Mo_dy mo) (at_ + 40) 0) := ⟨_, rfl⟩
  have M1 : Mo_wd M = Mo_wd mo := by subst hM; exact sz_wd mo _ _ _ _ _
  have M2 : Mo_ht M = upd (Mo_ht mo) (at_ + 40) (nI H) := by subst hM; exact sz_ht mo _ _ _ _ _
  have M3 : Mo_ex M = upd (Mo_ex mo) (at_ + 40) (vp_nar .boolean 0) := by subst hM; exact sz_ex mo _ _ _ _ _
  have M4 : Mo_bs M = upd (Mo_bs mo) (at_ + 40) (-1) := by subst hM; exact sz_bs mo _ _ _ _ _
  have M5 : Mo_dx M = upd (Mo_dx mo) (at_ + 40) 0 := by subst hM; exact sz_dx mo _ _ _ _ _
  have M6 : Mo_dy M = upd (Mo_dy mo) (at_ + 40) 0 := by subst hM; exact sz_dy mo _ _ _ _ _
  have M7 : Mo_rw M = Mo_rw mo := by subst hM; exact sz_rw mo _ _ _ _ _
  have M8 : Sx mo M := by subst hM; exact Sx_5 mo _ _ _ _ _
  have M9 : Gr at_ mo M := Gr_sm M8 (fun j _ => by rw [M1]) (fun j hj => by rw [M2]; exact pk_un (by omega)) (fun j hj => by rw [M3]; exact pk_un (by omega)) (fun j hj => by rw [M4]; exact pk_un (by omega)) (fun j hj => by rw [M5]; exact pk_un (by omega)) (fun j hj => by rw [M6]; exact pk_un (by omega)) (fun j _ => by rw [M7])
  have Mw : Mo_why M = -1 := (Sx_w M8).1.trans hwy
  obtain ⟨r, b1, v1, mo1, a1, r1, r2, r3, r4, r5, r6, r7, r8⟩ := bit_C (Rs_C M8 hR) (by omega)
  obtain ⟨w1, w2, w3, w4, w5, w6, w7, w8, w9⟩ := Tm_s r5
  have hw1 : Mo_why mo1 = -1 := w8.trans Mw
  have hst : ∀ y, (if r = 1 then bd (f_Model_takeNumber mo1) (fun p => if 0 ≤ Mo_why p.2 then j_Model_readSymbol_135_39 (nI at_) (nI (at_ + 40)) p.1 p.2 else if p.1 < nI at_ then j_Model_readSymbol_135_39 (nI at_) (nI (at_ + 40)) p.1 p.2 else j_Model_readSymbol_135_39 (nI at_) (nI (at_ + 40)) p.1 (Mo_s_why p.2 3)) else j_Model_readSymbol_227_28 (nI (at_ + 40)) mo1) = y → j_Model_readSymbol_53_8 (nI at_) (nI H) (nI (at_ + 40)) mo = y := by
    intro y hy
    rw [j_Model_readSymbol_53_8, if_pos (show Mo_why mo < 0 by rw [hwy]; decide), gd_in hK8 (by decide), cK, lt', sq_ex, gd_in hK8 (by decide), lt', sq_bs, gd_in hK8 (by decide), lt', sq_dx, gd_in hK8 (by decide), lt', sq_dy, gd_in hK8 (by decide), lt', ← hM]
    refine Eq.trans (bd_e r2) ?_
    exact hy
  rcases r4 with rfl | rfl
  · right
    refine ⟨a1, 4, 4, b1, v1, sy, mo1, -1, -1, by decide, by decide, ?_, Or.inl ⟨rfl, rfl⟩, hst _ ?_, r3, r7, by omega, hw1, Gr.trans M9 (Gr_tm r5), r6, ⟨rfl, rfl, rfl, rfl, rfl, rfl⟩, fun k _ => ⟨rfl, rfl, rfl⟩, ⟨p1, p2.trans (by decide +kernel), p3.trans (by decide +kernel)⟩, by rw [w1, M1], by rw [w2, M2]; exact pk_us, by rw [w3, M3]; exact pk_us.trans nb0, by rw [w4, M4]; exact pk_us, by rw [w5, M5]; exact pk_us.trans (by decide +kernel), by rw [w6, M6]; exact pk_us.trans (by decide +kernel)⟩
    · rw [f_C_Reader_takeBase]
      refine Eq.trans (bd_e r1) ?_
      rfl
    · refine Eq.trans (if_neg (show ¬ (0 : Int32) = 1 by decide)) ?_
      rw [j_Model_readSymbol_227_28, gd_in hK8 (by decide), cK, if_neg (show ¬ 0 ≤ Mo_bs mo1 (at_ + 40) by rw [w4, M4, pk_us]; decide), j_Model_readSymbol_254_31]
  · obtain ⟨a2, b2, v2, mo2, t1, t2, t3, t4, t5, t6⟩ := takeNum_C r3 (by omega)
    obtain ⟨x1, x2, x3, x4, x5, x6, x7, x8, x9⟩ := Tm_s t4
    have hw2 : Mo_why mo2 = -1 := x8.trans hw1
    have hG2 : Gr at_ mo mo2 := Gr.trans M9 (Gr.trans (Gr_tm r5) (Gr_tm t4))
    rcases t6 with ⟨u1, u2⟩ | ⟨x, hx, u1, u2, -⟩
    · left
      obtain ⟨N, hN⟩ : ∃ z, z = Mo_s_why mo2 7 := ⟨_, rfl⟩
      rw [← hN] at u2
      have N1 : Mo_why N = 7 := by subst hN; exact wz mo2 7
      have N2 : Fp mo2 N := by subst hN; exact Fp_w mo2 7
      refine ⟨7, b2, v2, N, ?_, hst _ ?_, N1, by decide, Gr.trans hG2 (Gr_fp N2), t5.trans r6⟩
      · rw [f_C_Reader_takeBase]
        refine Eq.trans (bd_e r1) ?_
        refine Eq.trans (if_neg (show ¬ (1 : Int32) = 0 by decide)) ?_
        refine Eq.trans (bd_e u1) ?_
        rfl
      · refine Eq.trans (if_pos rfl) ?_
        refine Eq.trans (bd_e u2) ?_
        refine Eq.trans (if_pos (show (0 : Int32) ≤ Mo_why N by rw [N1]; decide)) ?_
        show j_Model_readSymbol_135_39 (nI at_) (nI (at_ + 40)) 0 N = some N
        rw [j_Model_readSymbol_135_39]
        exact if_neg (show ¬ Mo_why N < 0 by rw [N1]; decide)
    · rcases (Decidable.em (x < at_)).symm with e1 | e1
      · left
        obtain ⟨N, hN⟩ : ∃ z, z = Mo_s_why mo2 3 := ⟨_, rfl⟩
        have N1 : Mo_why N = 3 := by subst hN; exact wz mo2 3
        have N2 : Fp mo2 N := by subst hN; exact Fp_w mo2 3
        refine ⟨3, b2, v2, N, ?_, hst _ ?_, N1, by decide, Gr.trans hG2 (Gr_fp N2), t5.trans r6⟩
        · rw [f_C_Reader_takeBase]
          refine Eq.trans (bd_e r1) ?_
          refine Eq.trans (if_neg (show ¬ (1 : Int32) = 0 by decide)) ?_
          refine Eq.trans (bd_e u1) ?_
          refine Eq.trans (if_neg (nI_m1 (by omega))) ?_
          rw [lt', bsub]
          refine Eq.trans (if_neg (show ¬ (0 : Int32) ≤ nI at_ - nI (x + 1) from lt_nle (pk_sneg (by omega) (by omega)))) ?_
          rfl
        · refine Eq.trans (if_pos rfl) ?_
          refine Eq.trans (bd_e u2) ?_
          refine Eq.trans (if_neg (show ¬ (0 : Int32) ≤ Mo_why mo2 by rw [hw2]; decide)) ?_
          refine Eq.trans (if_neg (show ¬ nI x < nI at_ from nI_nlt (by omega) (by omega))) ?_
          show j_Model_readSymbol_135_39 (nI at_) (nI (at_ + 40)) (nI x) (Mo_s_why mo2 3) = some N
          rw [← hN, j_Model_readSymbol_135_39]
          exact if_neg (show ¬ Mo_why N < 0 by rw [N1]; decide)
      · have hb : (nI at_ - 1) - nI x = nI (at_ - (x + 1)) := by rw [bsub, pk_sub (by omega)]
        obtain ⟨Mb, hMb⟩ : ∃ z, z = Mo_s_bs mo2 (upd (Mo_bs mo2) (at_ + 40) (nI (at_ - (x + 1)))) := ⟨_, rfl⟩
        have k0 : Sx mo2 Mb := by subst hMb; exact Sx_bs mo2 _
        have k1 : Mo_wd Mb = Mo_wd mo2 := by subst hMb; rfl
        have k2 : Mo_ht Mb = Mo_ht mo2 := by subst hMb; rfl
        have k3 : Mo_ex Mb = Mo_ex mo2 := by subst hMb; rfl
        have k4 : Mo_bs Mb (at_ + 40) = nI (at_ - (x + 1)) := by subst hMb; exact pk_us
        have k6 : Gr at_ mo2 Mb := by subst hMb; exact Gr_bs mo2 at_ _
        obtain ⟨q1, a3, b3, v3, mo3, f1, f2, f3, f4, f5, f6, f7, f8⟩ := takeBits_C (k := 4) (by decide) (Rs_C k0 t1) (by omega)
        obtain ⟨y1, y2, y3, y4, y5, y6, y7, y8, y9⟩ := Tm_s f7
        obtain ⟨Mx, hMx⟩ : ∃ z, z = Mo_s_dx mo3 (upd (Mo_dx mo3) (at_ + 40) (nI q1 - 4)) := ⟨_, rfl⟩
        have l0 : Sx mo3 Mx := by subst hMx; exact Sx_dx mo3 _
        have l1 : Mo_wd Mx = Mo_wd mo3 := by subst hMx; rfl
        have l2 : Mo_ht Mx = Mo_ht mo3 := by subst hMx; rfl
        have l3 : Mo_ex Mx = Mo_ex mo3 := by subst hMx; rfl
        have l4 : Mo_bs Mx = Mo_bs mo3 := by subst hMx; rfl
        have l5 : Mo_dx Mx (at_ + 40) = nI q1 - 4 := by subst hMx; exact pk_us
        have l6 : Gr at_ mo3 Mx := by subst hMx; exact Gr_dx mo3 at_ _
        have hG3 : Gr at_ mo Mx := Gr.trans hG2 (Gr.trans k6 (Gr.trans (Gr_tm f7) l6))
        have hw3 : Mo_why Mx = -1 := (Sx_w l0).1.trans (y8.trans ((Sx_w k0).1.trans hw2))
        have hst2 : ∀ y, (if Mo_dx Mx (at_ + 40) ≤ 4 then bd (f_Model_takeBits Mx 4) (fun p => j_Model_readSymbol_198_52 (nI (at_ + 40)) p.2 (p.1 - 4)) else j_Model_readSymbol_198_52 (nI (at_ + 40)) Mx 5) = y → j_Model_readSymbol_53_8 (nI at_) (nI H) (nI (at_ + 40)) mo = y := by
          intro y hy
          refine hst _ ?_
          refine Eq.trans (if_pos rfl) ?_
          refine Eq.trans (bd_e u2) ?_
          refine Eq.trans (if_neg (show ¬ (0 : Int32) ≤ Mo_why mo2 by rw [hw2]; decide)) ?_
          refine Eq.trans (if_pos (show nI x < nI at_ from nI_lt e1 (by omega))) ?_
          show j_Model_readSymbol_135_39 (nI at_) (nI (at_ + 40)) (nI x) mo2 = y
          rw [j_Model_readSymbol_135_39, if_pos (show Mo_why mo2 < 0 by rw [hw2]; decide), gd_in hK8 (by decide), cK, hb, lt', ← hMb]
          refine Eq.trans (bd_e f2) ?_
          refine Eq.trans (gd_in hK8 (by decide)) ?_
          rw [lt', ← hMx, gd_in hK8 (by decide)]
          exact hy
        have hcl : ∀ (q2 : Nat) (b4 : Cb) (v4 : Br) (y : Option (Int32 × Rd × Cb × Br × Sy)), f_C_Bits_takeBits b3 v3 4 = some (nI q2, b4, v4) → (if 4 < nI q1 - 4 then j_C_Reader_takeBase_87_19 (wy0, kd, xh, xw) sy b4 v4 else if nI q2 - 4 ≤ 4 then bd (f_Symbols_refine sy (nI at_) (nI (at_ - (x + 1))) (nI q1 - 4) (nI q2 - 4)) (fun sy_24 => some (1, (wy0, kd, xh, xw), b4, v4, sy_24)) else j_C_Reader_takeBase_87_19 (wy0, kd, xh, xw) sy b4 v4) = y → f_C_Reader_takeBase (wy0, kd, xh, xw) b v sy (nI at_) = y := by
          intro q2 b4 v4 y h4 hy
          rw [f_C_Reader_takeBase]
          refine Eq.trans (bd_e r1) ?_
          refine Eq.trans (if_neg (show ¬ (1 : Int32) = 0 by decide)) ?_
          refine Eq.trans (bd_e u1) ?_
          refine Eq.trans (if_neg (nI_m1 (by omega))) ?_
          rw [lt', hb]
          refine Eq.trans (if_pos (show (0 : Int32) ≤ nI (at_ - (x + 1)) from nI_pos' (by omega))) ?_
          refine Eq.trans (bd_e f1) ?_
          refine Eq.trans (bd_e h4) ?_
          exact hy
        have hrf : ∀ (b4 : Cb) (v4 : Br), j_C_Reader_takeBase_87_19 (wy0, kd, xh, xw) sy b4 v4 = some (0, (4, kd, xh, xw), b4, v4, sy) := fun _ _ => rfl
        have hd15 : q1 < 16 := f4
        rcases (Decidable.em (q1 ≤ 8)).symm with e2 | e2
        · left
          obtain ⟨q2, a4, b4, v4, mo4, g1, -, -, -, -, -, -, g8⟩ := takeBits_C (k := 4) (by decide) f3 (by omega)
          obtain ⟨My, hMy⟩ : ∃ z, z = Mo_s_dy Mx (upd (Mo_dy Mx) (at_ + 40) 5) := ⟨_, rfl⟩
          have z5 : Mo_dx My (at_ + 40) = nI q1 - 4 := by subst hMy; exact l5
          have z6 : Gr at_ Mx My := by subst hMy; exact Gr_dy Mx at_ _
          refine ⟨4, b4, v4, Mo_s_why My 4, ?_, ?_, wz My 4, by decide, Gr.trans hG3 (Gr.trans z6 (Gr_fp (Fp_w My 4))), g8.trans (f8.trans (t5.trans r6))⟩
          · refine hcl q2 b4 v4 _ g1 ?_
            exact Eq.trans (if_pos ((sh8 q1 hd15).2 (by omega)).1) (hrf b4 v4)
          · refine hst2 _ ?_
            rw [l5]
            refine Eq.trans (if_neg ((sh8 q1 hd15).2 (by omega)).2) ?_
            rw [j_Model_readSymbol_198_52, gd_in hK8 (by decide), cK, lt', ← hMy, gd_in hK8 (by decide), z5]
            exact if_pos ((sh8 q1 hd15).2 (by omega)).1
        · obtain ⟨q2, a4, b4, v4, mo4, g1, g2, g3, g4, g5, g6, g7, g8⟩ := takeBits_C (k := 4) (by decide) (Rs_C l0 f3) (by omega)
          obtain ⟨d1, d2, d3, d4, d5, d6, d7, d8, d9⟩ := Tm_s g7
          have hd16 : q2 < 16 := g4
          obtain ⟨My, hMy⟩ : ∃ z, z = Mo_s_dy mo4 (upd (Mo_dy mo4) (at_ + 40) (nI q2 - 4)) := ⟨_, rfl⟩
          have z0 : Sx mo4 My := by subst hMy; exact Sx_dy mo4 _
          have z1 : Mo_wd My = Mo_wd mo4 := by subst hMy; rfl
          have z2 : Mo_ht My = Mo_ht mo4 := by subst hMy; rfl
          have z3 : Mo_ex My = Mo_ex mo4 := by subst hMy; rfl
          have z4 : Mo_bs My = Mo_bs mo4 := by subst hMy; rfl
          have z5 : Mo_dx My (at_ + 40) = nI q1 - 4 := by subst hMy; exact (congrFun d5 _).trans l5
          have z6 : Mo_dy My (at_ + 40) = nI q2 - 4 := by subst hMy; exact pk_us
          have z7 : Gr at_ mo My := Gr.trans hG3 (Gr.trans (Gr_tm g7) (by subst hMy; exact Gr_dy mo4 at_ _))
          have z8 : Mo_why My = -1 := (Sx_w z0).1.trans (d8.trans hw3)
          have z9 : Mo_bs My (at_ + 40) = nI (at_ - (x + 1)) := by rw [z4, d4, l4, y4]; exact k4
          have hst3 : ∀ y, (if nI q2 - 4 ≤ 4 then j_Model_readSymbol_227_28 (nI (at_ + 40)) My else some (Mo_s_why My 4)) = y → j_Model_readSymbol_53_8 (nI at_) (nI H) (nI (at_ + 40)) mo = y := by
            intro y hy
            refine hst2 _ ?_
            rw [l5]
            refine Eq.trans (if_pos ((sh8 q1 hd15).1 e2).2) ?_
            refine Eq.trans (bd_e g2) ?_
            show j_Model_readSymbol_198_52 (nI (at_ + 40)) mo4 (nI q2 - 4) = y
            rw [j_Model_readSymbol_198_52, gd_in hK8 (by decide), cK, lt', ← hMy, gd_in hK8 (by decide), z5]
            refine Eq.trans (if_neg ((sh8 q1 hd15).1 e2).1) ?_
            rw [gd_in hK8 (by decide), z6]
            exact hy
          rcases (Decidable.em (q2 ≤ 8)).symm with e3 | e3
          · left
            refine ⟨4, b4, v4, Mo_s_why My 4, ?_, hst3 _ (if_neg ((sh8 q2 hd16).2 (by omega)).2), wz My 4, by decide, Gr.trans z7 (Gr_fp (Fp_w My 4)), g8.trans (f8.trans (t5.trans r6))⟩
            refine hcl q2 b4 v4 _ g1 ?_
            refine Eq.trans (if_neg ((sh8 q1 hd15).1 e2).1) ?_
            exact Eq.trans (if_neg ((sh8 q2 hd16).2 (by omega)).2) (hrf b4 v4)
          · right
            have e40 : (40 : Int32) + nI (at_ - (x + 1)) = nI (at_ - (x + 1) + 40) := by rw [show (40 : Int32) = nI 40 from rfl, nI_add, Nat.add_comm]
            refine ⟨a4, q1, q2, b4, v4, Sy_s_dy (Sy_s_dx (Sy_s_bs sy (upd (Sy_bs sy) at_ (nI (at_ - (x + 1))))) (upd (Sy_dx sy) at_ (nI q1 - 4))) (upd (Sy_dy sy) at_ (nI q2 - 4)), My, nI (at_ - (x + 1)), nI (at_ - (x + 1) + 40), e2, e3, ?_, Or.inr ⟨at_ - (x + 1), by omega, rfl, rfl⟩, ?_, Rs_C z0 g3, by omega, by omega, z8, z7, g8.trans (f8.trans (t5.trans r6)), ⟨rfl, rfl, rfl, rfl, rfl, rfl⟩, fun k hk => ⟨pk_un hk, pk_un hk, pk_un hk⟩, ⟨pk_us, pk_us, pk_us⟩, ?_, ?_, ?_, z9, z5, z6⟩
            · refine hcl q2 b4 v4 _ g1 ?_
              refine Eq.trans (if_neg ((sh8 q1 hd15).1 e2).1) ?_
              refine Eq.trans (if_pos ((sh8 q2 hd16).1 e3).2) ?_
              exact bd_e (s_refine _ _ _ hat)
            · refine hst3 _ ?_
              refine Eq.trans (if_pos ((sh8 q2 hd16).1 e3).2) ?_
              rw [j_Model_readSymbol_227_28, gd_in hK8 (by decide), cK, z9, if_pos (nI_pos' (show at_ - (x + 1) < 2 ^ 31 by omega)), gd_in hK8 (by decide), e40, j_Model_readSymbol_254_31]
            · rw [z1, d1, l1, y1, k1, x1, w1, M1]
            · rw [z2, d2, l2, y2, k2, x2, w2, M2]; exact pk_us
            · rw [z3, d3, l3, y3, k3, x3, w3, M3]; exact pk_us.trans nb0
