/-! Writing as a whole -/
theorem m_sample {mo : Mo} {k w h x y : Nat} {r : Nat → Nat} (hk : k < 80) (hw : w ≤ 16) (hh : h ≤ 16) (hwd : Mo_wd mo k = nI w) (hht : Mo_ht mo k = nI h) (hr : ∀ y, y < h → r y < 2 ^ w ∧ Mo_rw mo (16 * k + y) = nI (r y)) (hx : x < w) (hy : y < h) : f_Model_sample mo (nI k) (nI x) (nI y) = some (nI (r y / 2 ^ x % 2)) := by
  have ck : (nI k).toNatClampNeg = k := nI_clamp (by omega)
  obtain ⟨r1, r2⟩ := hr y hy
  have r3 := pow16 hw r1
  rw [f_Model_sample, if_neg (nI_pos (by omega)), if_neg (nI_pos (by omega)), gd_in hk (by decide), ck, hwd, if_neg (nI_ge hx (by omega)), gd_in hk (by decide), hht, if_neg (nI_ge hy (by omega)), j_Model_sample_33_2, if_neg i10, rixM, gd_in (show 16 * k + y < 1280 by omega) (by decide), nI_clamp (show 16 * k + y < 2 ^ 31 by omega), r2, n_bit (by omega) (by omega)]
theorem bs_of {sy : Sy} {mo : Mo} {n k : Nat} {wd ht : Nat → Nat} (hD : Dc 0 sy mo n wd ht) (hk : k < n) : ∃ q, bsOf wd ht n (Sy_bs sy k) (Sy_dx sy k) (Sy_dy sy k) (rank wd ht n k) q ∧ bsOf wd ht n (Mo_bs mo k) (Mo_dx mo k) (Mo_dy mo k) (rank wd ht n k) q := by
  obtain ⟨-, -, -, ⟨b1, b2⟩, ⟨x1, ax, hax, x2⟩, ⟨y1, ay, hay, y2⟩, -, -⟩ := D0 hD hk
  rw [b1, x1, y1]
  rcases b2 with b2 | ⟨b, hb, b2, b3⟩
  · exact ⟨none, Or.inl ⟨b2, rfl⟩, Or.inl ⟨b2, rfl⟩⟩
  · have hr := rank_lt (wd := wd) (ht := ht) hb b3
    exact ⟨_, Or.inr ⟨b, ax, ay, hb, b2, hr, hax, hay, x2, y2, rfl⟩, Or.inr ⟨b, ax, ay, hb, b2, hr, hax, hay, x2, y2, rfl⟩⟩
theorem Dc_Ep {sy : Sy} {mo mo' : Mo} {n : Nat} {wd ht : Nat → Nat} (hD : Dc 0 sy mo n wd ht) (h : Ep mo mo') : Dc 0 sy mo' n wd ht := by
  obtain ⟨_, _, _, _, _, _, _, rfl⟩ := h
  exact hD
theorem m_j152 {ht ord : Nat → Nat} {n i : Nat} {rc : Mo → Int32 → Int32 → Option (Int32 × Mo)} {mo mo3 : Mo} {z : Int32} (hn : n ≤ 40) (hi : i < n) (ho : ∀ i, i < n → ord i < n) (hht : ∀ k, k < n → Mo_ht mo3 k = nI (ht k) ∧ ht k ≤ 16) (hN : Mo_n mo3 = nI n) (hod : ∀ i, i < n → Mo_od mo3 i = nI (ord i)) (hw : f_Model_writeSymbol mo (nI (ord i)) z = some mo3) : j_Model_write_152_32 (nI i) rc (nI (ord i)) mo (nI (ht (ord i))) z = bd (mF (zzT ht ord n (i + 1)) mo3) (fun mo4 => rc mo4 (nI (ht (ord i))) (nI (i + 1))) := by
  have hh : hbO ht ord (i + 1) = ht (ord i) := if_neg (by omega)
  have hj : j_Model_write_182_34 (nI i) rc (nI (ht (ord i))) mo3 = bd (mF [(0, -1)] mo3) (fun mo4 => rc mo4 (nI (ht (ord i))) (nI (i + 1))) := by
    rw [j_Model_write_182_34, m_emit1, nI_1]
    rfl
  have hzz : zzT ht ord n (i + 1) = if i + 1 = n then [(0, -1)] else if ht (ord (i + 1)) = ht (ord i) then [] else [(0, -1)] := by
    unfold zzT
    rw [if_neg (show ¬ i + 1 = 0 by omega), hh]
  rw [j_Model_write_152_32, hw, bd_s, hN, nI_1, hj, hzz]
  by_cases e : i + 1 = n
  · rw [if_pos e, if_pos (show nI (i + 1) = nI n from congrArg nI e)]
  · obtain ⟨q1, q2⟩ := hht (ord (i + 1)) (ho (i + 1) (by omega))
    obtain ⟨p1, p2⟩ := hht (ord i) (ho i hi)
    have o1 := ho (i + 1) (by omega)
    rw [if_neg e, if_neg (show ¬ nI (i + 1) = nI n from fun z => e ((nI_eq (by omega) (by omega)).mp z)), gd_in (show i + 1 < 40 by omega) (by decide), nI_clamp (show i + 1 < 2 ^ 31 by omega), hod (i + 1) (by omega), gd_in (show ord (i + 1) < 80 by omega) (by decide), nI_clamp (show ord (i + 1) < 2 ^ 31 by omega), q1]
    by_cases e2 : ht (ord (i + 1)) = ht (ord i)
    · rw [if_pos e2, if_pos (show nI (ht (ord (i + 1))) = nI (ht (ord i)) from congrArg nI e2)]
      rfl
    · rw [if_neg e2, if_neg (show ¬ nI (ht (ord (i + 1))) = nI (ht (ord i)) from fun z => e2 ((nI_eq (by omega) (by omega)).mp z))]
def Mo_x (mo : Mo) (z_code : Int32) (z_pc : (Nat → Int32)) (z_od : (Nat → Int32)) (z_on : Int32) (z_ob : Int32) (z_out : (Nat → Int32)) (z_ch : (Nat → Int32)) (z_lo : Int64) (z_hi : Int64) (z_pl : (Nat → Int32)) : Mo := (z_code, Mo_kind mo, Mo_n mo, Mo_wd mo, Mo_ht mo, Mo_rw mo, Mo_ex mo, Mo_bs mo, Mo_dx mo, Mo_dy mo, z_pc, z_od, Mo_cl mo, Mo_co mo, Mo_fc mo, z_on, z_ob, z_out, Mo_inn mo, Mo_ia mo, Mo_inp mo, z_ch, z_lo, z_hi, Mo_tk mo, z_pl, Mo_why mo)
def Ex (mo mo' : Mo) : Prop := ∃ (z_code : Int32) (z_pc : (Nat → Int32)) (z_od : (Nat → Int32)) (z_on : Int32) (z_ob : Int32) (z_out : (Nat → Int32)) (z_ch : (Nat → Int32)) (z_lo : Int64) (z_hi : Int64) (z_pl : (Nat → Int32)), mo' = Mo_x mo z_code z_pc z_od z_on z_ob z_out z_ch z_lo z_hi z_pl
theorem Ex.refl (mo : Mo) : Ex mo mo := ⟨Mo_code mo, Mo_pc mo, Mo_od mo, Mo_on mo, Mo_ob mo, Mo_out mo, Mo_ch mo, Mo_lo mo, Mo_hi mo, Mo_pl mo, rfl⟩
theorem Ex_2 (mo : Mo) (a_code b_code : Int32) (a_pc b_pc : (Nat → Int32)) (a_od b_od : (Nat → Int32)) (a_on b_on : Int32) (a_ob b_ob : Int32) (a_out b_out : (Nat → Int32)) (a_ch b_ch : (Nat → Int32)) (a_lo b_lo : Int64) (a_hi b_hi : Int64) (a_pl b_pl : (Nat → Int32)) : Mo_x (Mo_x mo a_code a_pc a_od a_on a_ob a_out a_ch a_lo a_hi a_pl) b_code b_pc b_od b_on b_ob b_out b_ch b_lo b_hi b_pl = Mo_x mo b_code b_pc b_od b_on b_ob b_out b_ch b_lo b_hi b_pl := by
  obtain ⟨m1, m2, m3, m4, m5, m6, m7, m8, m9, m10, m11, m12, m13, m14, m15, m16, m17, m18, m19, m20, m21, m22, m23, m24, m25, m26, m27⟩ := mo
  exact Eq.trans (b := (b_code, m2, m3, m4, m5, m6, m7, m8, m9, m10, b_pc, b_od, m13, m14, m15, b_on, b_ob, b_out, m19, m20, m21, b_ch, b_lo, b_hi, m25, b_pl, m27)) rfl rfl
theorem Ex.trans {a b c : Mo} (h1 : Ex a b) (h2 : Ex b c) : Ex a c := by
  obtain ⟨a_code, a_pc, a_od, a_on, a_ob, a_out, a_ch, a_lo, a_hi, a_pl, rfl⟩ := h1
  obtain ⟨b_code, b_pc, b_od, b_on, b_ob, b_out, b_ch, b_lo, b_hi, b_pl, rfl⟩ := h2
  exact ⟨b_code, b_pc, b_od, b_on, b_ob, b_out, b_ch, b_lo, b_hi, b_pl, Ex_2 a a_code b_code a_pc b_pc a_od b_od a_on b_on a_ob b_ob a_out b_out a_ch b_ch a_lo b_lo a_hi b_hi a_pl b_pl⟩
theorem Ex.em {mo mo' : Mo} (h : Em mo mo') : Ex mo mo' := by
  obtain ⟨a_out, a_on, a_ob, a_lo, a_hi, a_ch, rfl⟩ := h
  refine ⟨Mo_code mo, Mo_pc mo, Mo_od mo, a_on, a_ob, a_out, a_ch, a_lo, a_hi, Mo_pl mo, ?_⟩
  obtain ⟨m1, m2, m3, m4, m5, m6, m7, m8, m9, m10, m11, m12, m13, m14, m15, m16, m17, m18, m19, m20, m21, m22, m23, m24, m25, m26, m27⟩ := mo
  exact Eq.trans (b := (m1, m2, m3, m4, m5, m6, m7, m8, m9, m10, m11, m12, m13, m14, m15, a_on, a_ob, a_out, m19, m20, m21, a_ch, a_lo, a_hi, m25, m26, m27)) rfl rfl
theorem Ex.ep {mo mo' : Mo} (h : Ep mo mo') : Ex mo mo' := by
  obtain ⟨a_pl, a_out, a_on, a_ob, a_lo, a_hi, a_ch, rfl⟩ := h
  refine ⟨Mo_code mo, Mo_pc mo, Mo_od mo, a_on, a_ob, a_out, a_ch, a_lo, a_hi, a_pl, ?_⟩
  obtain ⟨m1, m2, m3, m4, m5, m6, m7, m8, m9, m10, m11, m12, m13, m14, m15, m16, m17, m18, m19, m20, m21, m22, m23, m24, m25, m26, m27⟩ := mo
  exact Eq.trans (b := (m1, m2, m3, m4, m5, m6, m7, m8, m9, m10, m11, m12, m13, m14, m15, a_on, a_ob, a_out, m19, m20, m21, a_ch, a_lo, a_hi, m25, a_pl, m27)) rfl rfl
theorem Ex.od {mo mo' : Mo} (h : Od mo mo') : Ex mo mo' := by
  obtain ⟨a_pc, a_od, rfl⟩ := h
  refine ⟨Mo_code mo, a_pc, a_od, Mo_on mo, Mo_ob mo, Mo_out mo, Mo_ch mo, Mo_lo mo, Mo_hi mo, Mo_pl mo, ?_⟩
  obtain ⟨m1, m2, m3, m4, m5, m6, m7, m8, m9, m10, m11, m12, m13, m14, m15, m16, m17, m18, m19, m20, m21, m22, m23, m24, m25, m26, m27⟩ := mo
  exact Eq.trans (b := (m1, m2, m3, m4, m5, m6, m7, m8, m9, m10, a_pc, a_od, m13, m14, m15, m16, m17, m18, m19, m20, m21, m22, m23, m24, m25, m26, m27)) rfl rfl
theorem Ex_s (mo : Mo) (y_code : Int32) (y_on : Int32) (y_ob : Int32) (y_lo : Int64) (y_hi : Int64) (y_ch : (Nat → Int32)) : Ex mo (Mo_s_ch (Mo_s_hi (Mo_s_lo (Mo_s_ob (Mo_s_on (Mo_s_code mo y_code) y_on) y_ob) y_lo) y_hi) y_ch) := by
  refine ⟨y_code, Mo_pc mo, Mo_od mo, y_on, y_ob, Mo_out mo, y_ch, y_lo, y_hi, Mo_pl mo, ?_⟩
  obtain ⟨m1, m2, m3, m4, m5, m6, m7, m8, m9, m10, m11, m12, m13, m14, m15, m16, m17, m18, m19, m20, m21, m22, m23, m24, m25, m26, m27⟩ := mo
  exact Eq.trans (b := (y_code, m2, m3, m4, m5, m6, m7, m8, m9, m10, m11, m12, m13, m14, m15, y_on, y_ob, m18, m19, m20, m21, y_ch, y_lo, y_hi, m25, m26, m27)) rfl rfl
theorem Ex_k {mo mo' : Mo} (h : Ex mo mo') : Mo_kind mo' = Mo_kind mo := by
  obtain ⟨_, _, _, _, _, _, _, _, _, _, rfl⟩ := h
  rfl
theorem Ex_n {mo mo' : Mo} (h : Ex mo mo') : Mo_n mo' = Mo_n mo := by
  obtain ⟨_, _, _, _, _, _, _, _, _, _, rfl⟩ := h
  rfl
theorem Ex_D {sy : Sy} {mo mo' : Mo} {n : Nat} {wd ht : Nat → Nat} (h : Ex mo mo') (hD : Dc 0 sy mo n wd ht) : Dc 0 sy mo' n wd ht := by
  obtain ⟨_, _, _, _, _, _, _, _, _, _, rfl⟩ := h
  exact hD
theorem Ex_I {v : Br} {mo mo' : Mo} (h : Ex mo mo') (hD : Iv v mo) : Iv v mo' := by
  obtain ⟨_, _, _, _, _, _, _, _, _, _, rfl⟩ := h
  exact hD
theorem Ex_C {cu : Sy} {mo mo' : Mo} {n : Nat} (h : Ex mo mo') (hD : Cn cu mo n) : Cn cu mo' n := by
  obtain ⟨_, _, _, _, _, _, _, _, _, _, rfl⟩ := h
  exact hD
theorem symStep_P {kd : Int32} {wd ht ord : Nat → Nat} {n i : Nat} {sy : Sy} {wr : Wr} {b : Pb} {w : Br} {mo : Mo} {c : Nat} (hK : ¬ 2 ≤ Mo_kind mo) (hkd : Mo_kind mo = kd) (hn : Sy_n sy = nI n) (hD : Dc 0 sy mo n wd ht) (ho : ∀ i, i < n → ord i < n ∧ rank wd ht n (ord i) = i) (hW : ∀ i, i < n → Wr_od wr i = nI (ord i)) (hpc : ∀ j, j < n → Mo_pc mo j = nI (rank wd ht n j)) (hi : i < n) (hbf : wbO wd ht ord i ≤ wd (ord i)) (h : WcP b w mo c) (hc : c + 2904 ≤ 127000) :
    ∃ (b1 b2 b3 : Pb) (w1 w2 w3 : Br) (f : Nat → Int32) (mo3 : Mo) (c3 : Nat), cF_P (wdT wd ht ord i) b w = some (b1, w1) ∧ f_P_Writer_tellBase wr b1 w1 sy (nI i) = some (b2, w2) ∧ f_P_Writer_layPlane wr sy (nI (ord i)) = some (Wr_s_pl wr f) ∧ (if (if kd = 1 then (1 : Int32) else 0) = 0 then f_P_Writer_tellSamples (Wr_s_pl wr f) b2 w2 sy (nI (ord i)) else f_P_Writer_tellRuns (Wr_s_pl wr f) b2 w2 sy (nI (ord i))) = some (b3, w3) ∧ f_Model_writeSymbol mo (nI (ord i)) (nI (wbO wd ht ord i)) = some mo3 ∧ WcP b3 w3 mo3 c3 ∧ c3 ≤ c + 2904 ∧ Ep mo mo3 := by
  have h40 := hD.1
  obtain ⟨o1, o2⟩ := ho i hi
  have o4 : ord i < 40 := by omega
  have hSv := D0 hD o1
  obtain ⟨⟨a1, a2, a3, a4⟩, ⟨d1, d2, d3, d4⟩, -, ⟨g1, g2⟩, ⟨x1, ax, hax, x2⟩, ⟨y1, ay, hay, y2⟩, -, -⟩ := hSv
  obtain ⟨q, q1, q2⟩ := bs_of hD o1
  rw [o2] at q1 q2
  obtain ⟨R, hR⟩ := Rw_of hD
  have hBB : (Sy_bs sy (ord i) = -1 ∧ Mo_bs mo (ord i) = -1) ∨ ∃ k, k < n ∧ Sy_bs sy (ord i) = nI k ∧ Mo_bs mo (ord i) = nI (k + 0) := by
    rcases g2 with g | ⟨k, hk, g, -⟩
    · exact Or.inl ⟨g1.trans g, g⟩
    · exact Or.inr ⟨k, hk, g1.trans g, g⟩
  obtain ⟨F, F1, F2, F3⟩ := fore_gen (o := 0) (k := ord i) (w := wd (ord i)) (ax := ax) (ay := ay) (B := Mo_bs mo (ord i)) hD (by decide) o4 a4 a1 hBB hax hay (x1.trans x2) x2 (y1.trans y2) y2
  have hV : ∀ y, y < ht (ord i) → R (ord i) y ^^^ F y < 2 ^ wd (ord i) := fun y hy => Nat.xor_lt_two_pow (hR _ o1 y hy).1 (F1 y)
  have hb16 : ∃ bs : Nat, bs ≤ 16 ∧ ((Sy_bs sy (ord i) = -1 ∧ bs = 0) ∨ (¬ Sy_bs sy (ord i) = -1 ∧ bs = 16)) ∧ ((Mo_bs mo (ord i) < 0 ∧ bs = 0) ∨ (¬ Mo_bs mo (ord i) < 0 ∧ bs = 16)) := by
    rcases hBB with ⟨e1, e2⟩ | ⟨k, hk, e1, e2⟩
    · exact ⟨0, by decide, Or.inl ⟨e1, rfl⟩, Or.inl ⟨by rw [e2]; decide, rfl⟩⟩
    · exact ⟨16, by decide, Or.inr ⟨by rw [e1]; exact nI_m1 (by omega), rfl⟩, Or.inr ⟨by rw [e2]; exact nI_pos (by omega), rfl⟩⟩
  obtain ⟨bs, hbs, hb1, hb2⟩ := hb16
  have t1 := wdT_ok (wd := wd) (ht := ht) (ord := ord) (i := i) a4
  have t2 := bsT_ok (i := i) (by omega) q
  have t3 := plT_ok (kd := kd) (V := fun y => R (ord i) y ^^^ F y) (b := bs) a4 d4 hbs
  obtain ⟨b1, w1, mo1, e1, e2, e3, e4⟩ := fold_P (wdT wd ht ord i) b w mo c hK h t1.1 (by omega)
  have hK1 : (fun mo : Mo => ¬ 2 ≤ Mo_kind mo) mo1 := by obtain ⟨_, _, _, _, _, _, rfl⟩ := e4; exact hK
  obtain ⟨b2, w2, mo2, f1, f2, f3, f4⟩ := fold_P (bsT i q) b1 w1 mo1 _ hK1 e3 t2.1 (by omega)
  have hE2 : Em mo mo2 := Em.trans e4 f4
  have hwp : ∃ f' : Nat → Int32, f_Model_writePlane mo2 (nI (ord i)) = mF (plT kd (fun y => R (ord i) y ^^^ F y) (wd (ord i)) (ht (ord i)) bs) (Mo_s_pl mo2 f') := by
    obtain ⟨_, _, _, _, _, _, rfl⟩ := hE2
    refine m_writePlane (r := R (ord i)) (F := F) hkd (by omega) a3 a4 d3 d4 a2 d2 (fun y hy => ⟨rfl, hV y hy⟩) hb2 (fun mo' hS x y hx hy => ?_) (fun mo' hS x y hx hy => F3 mo' hS x y hx (by omega))
    obtain ⟨s1, s2, s3, s4, s5, s6⟩ := hS
    exact m_sample (r := R (ord i)) (by omega) a4 d4 (by rw [s1]; exact a2) (by rw [s2]; exact d2) (fun y hy => ⟨(hR _ o1 y hy).1, by rw [s3]; exact (hR _ o1 y hy).2.2⟩) hx hy
  obtain ⟨f', hwp⟩ := hwp
  have hK2 : (fun mo : Mo => ¬ 2 ≤ Mo_kind mo) (Mo_s_pl mo2 f') := by obtain ⟨_, _, _, _, _, _, rfl⟩ := hE2; exact hK
  obtain ⟨b3, w3, mo3, g1', g2', g3', g4'⟩ := fold_P (plT kd (fun y => R (ord i) y ^^^ F y) (wd (ord i)) (ht (ord i)) bs) b2 w2 (Mo_s_pl mo2 f') _ hK2 f3 t3.1 (by omega)
  obtain ⟨f, p1, p2, -⟩ := s_plane_P (sy := sy) (k := ord i) (h := ht (ord i)) (r := R (ord i)) (F := F) (K := fun wr_10 => some wr_10) o4 d4 d1 (fun y hy => (hR _ o1 y hy).2.1) F2 100000 0 wr (by omega) (by omega)
  refine ⟨b1, b2, b3, w1, w2, w3, f, mo3, _, e1, ?_, p1, ?_, ?_, g3', by omega, ?_⟩
  · rw [tellBase_P (Dc_S hn hD) o1 (hW i hi) hi q1]; exact f1
  · rw [tellPlane_P (kd := kd) (V := fun y => R (ord i) y ^^^ F y) (bs := bs) o4 a3 a4 d3 d4 a1 d1 (fun y hy => ⟨hV y hy, p2 y (Nat.zero_le _) hy⟩) hb1]; exact g1'
  · rw [m_writeSymbol (q := q) o4 h40 a2 a4 hbf (by omega) (by rw [hpc _ o1, o2]) hpc q2, mF_app]
    show bd (bd (mF (wdT wd ht ord i) mo) _) _ = _
    rw [e2, bd_s, f2, bd_s, hwp]
    exact g2'
  · exact Ep.trans (Ep.of hE2) (Ep.pl (f := f') (Ep.of g4'))
theorem tellLoop_P {kd : Int32} {wd ht ord : Nat → Nat} {n : Nat} {sy : Sy} {K1 : Wr → Pb → Br → Option (Wr × Pb × Br)} {K2 : Mo → Option (Int32 × Mo)} (hn : Sy_n sy = nI n) (ho : ∀ i, i < n → ord i < n ∧ rank wd ht n (ord i) = i) : ∀ (m i : Nat) (b0 : Pb) (w0 : Br) (wr : Wr) (mo : Mo) (c : Nat), ¬ 2 ≤ Mo_kind mo → Mo_kind mo = kd → Wr_br wr = (if kd = 1 then (1 : Int32) else 0) → Dc 0 sy mo n wd ht → Mo_n mo = nI n → (∀ i, i < n → Wr_od wr i = nI (ord i)) → (∀ i, i < n → Mo_od mo i = nI (ord i)) → (∀ j, j < n → Mo_pc mo j = nI (rank wd ht n j)) → i ≤ n → n - i < m → (∃ (b : Pb) (w : Br), cF_P (zzT ht ord n i) b0 w0 = some (b, w) ∧ WcP b w mo c) → c + 2940 * (n - i) ≤ 126000 →
    ∃ (wr' : Wr) (b' : Pb) (w' : Br) (mo' : Mo) (c' : Nat), l_P_Writer_tell_47 sy K1 m wr b0 w0 (nI i) = K1 wr' b' w' ∧ l_Model_write_70 K2 m mo (nI (hbO ht ord i)) (nI i) = K2 mo' ∧ (∃ (b : Pb) (w : Br), cF_P (zzT ht ord n n) b' w' = some (b, w) ∧ WcP b w mo' c') ∧ c' ≤ c + 2940 * (n - i) ∧ Wr_od wr' = Wr_od wr ∧ Wr_br wr' = Wr_br wr ∧ Ep mo mo' := by
  intro m
  induction m with
  | zero => intro i b0 w0 wr mo c _ _ _ _ _ _ _ _ _ h; omega
  | succ m ih =>
    intro i b0 w0 wr mo c hK hkd hbr hD hN hW hM hpc h1 h2 hz hc
    have h40 := hD.1
    rw [l_P_Writer_tell_47, l_Model_write_70, hn, hN]
    by_cases e : i = n
    · subst e
      rw [if_pos (nI_le (Nat.le_refl i) (by omega)), if_pos (nI_le (Nat.le_refl i) (by omega))]
      exact ⟨wr, b0, w0, mo, c, rfl, rfl, hz, by omega, rfl, rfl, Ep.of (Em.refl mo)⟩
    · have hi : i < n := by omega
      obtain ⟨o1, o2⟩ := ho i hi
      have o4 : ord i < 40 := by omega
      have ci : (nI i).toNatClampNeg = i := nI_clamp (by omega)
      have co : (nI (ord i)).toNatClampNeg = ord i := nI_clamp (by omega)
      obtain ⟨⟨a1, a2, a3, a4⟩, ⟨d1, d2, d3, d4⟩, -⟩ := D0 hD o1
      have hbf : wbO wd ht ord i ≤ wd (ord i) ∧ hbO ht ord i ≤ ht (ord i) := by
        by_cases e0 : i = 0
        · subst e0
          have e1 : hbO ht ord 0 = 0 := if_pos rfl
          have e2 : hbO wd ord 0 = 0 := if_pos rfl
          unfold wbO
          rw [e1, e2]
          refine ⟨?_, Nat.zero_le _⟩
          split <;> omega
        · obtain ⟨j, rfl⟩ : ∃ j, i = j + 1 := ⟨i - 1, by omega⟩
          have e1 : hbO ht ord (j + 1) = ht (ord j) := if_neg (by omega)
          have e2 : hbO wd ord (j + 1) = wd (ord j) := if_neg (by omega)
          obtain ⟨l1, l2⟩ := ord_le ho hi
          unfold wbO
          rw [e1, e2]
          refine ⟨?_, l1⟩
          split
          · exact l2 (by omega)
          · omega
      obtain ⟨b, w, z1, z2⟩ := hz
      have t0 := hdT_ok (ht := ht) (ord := ord) (i := i) d4
      obtain ⟨ba, wa, moa, e1, e2, e3, e4⟩ := fold_P (hdT ht ord i) b w mo c hK z2 t0.1 (by omega)
      have hKa : (fun mo : Mo => ¬ 2 ≤ Mo_kind mo) moa := by obtain ⟨_, _, _, _, _, _, rfl⟩ := e4; exact hK
      have hkda : Mo_kind moa = kd := by obtain ⟨_, _, _, _, _, _, rfl⟩ := e4; exact hkd
      have hDa : Dc 0 sy moa n wd ht := Dc_Ep hD (Ep.of e4)
      have hNa : Mo_n moa = nI n := by obtain ⟨_, _, _, _, _, _, rfl⟩ := e4; exact hN
      have hMa : ∀ i, i < n → Mo_od moa i = nI (ord i) := by obtain ⟨_, _, _, _, _, _, rfl⟩ := e4; exact hM
      have hpca : ∀ j, j < n → Mo_pc moa j = nI (rank wd ht n j) := by obtain ⟨_, _, _, _, _, _, rfl⟩ := e4; exact hpc
      obtain ⟨b1, b2, b3, w1, w2, w3, f, mo3, c3, s1, s2, s3, s4, s5, s6, s7, s8⟩ := symStep_P (kd := kd) (wr := wr) hKa hkda hn hDa ho hW hpca hi hbf.1 e3 (by omega)
      have hK3 : (fun mo : Mo => ¬ 2 ≤ Mo_kind mo) mo3 := by obtain ⟨_, _, _, _, _, _, _, rfl⟩ := s8; exact hKa
      have hkd3 : Mo_kind mo3 = kd := by obtain ⟨_, _, _, _, _, _, _, rfl⟩ := s8; exact hkda
      have hD3 : Dc 0 sy mo3 n wd ht := Dc_Ep hDa s8
      have hN3 : Mo_n mo3 = nI n := by obtain ⟨_, _, _, _, _, _, _, rfl⟩ := s8; exact hNa
      have hM3 : ∀ i, i < n → Mo_od mo3 i = nI (ord i) := by obtain ⟨_, _, _, _, _, _, _, rfl⟩ := s8; exact hMa
      have hpc3 : ∀ j, j < n → Mo_pc mo3 j = nI (rank wd ht n j) := by obtain ⟨_, _, _, _, _, _, _, rfl⟩ := s8; exact hpca
      have tz := zzT_ok ht ord n (i + 1)
      obtain ⟨b4, w4, mo4, u1, u2, u3, u4⟩ := fold_P (zzT ht ord n (i + 1)) b3 w3 mo3 c3 hK3 s6 tz.1 (by omega)
      have hK4 : (fun mo : Mo => ¬ 2 ≤ Mo_kind mo) mo4 := by obtain ⟨_, _, _, _, _, _, rfl⟩ := u4; exact hK3
      have hkd4 : Mo_kind mo4 = kd := by obtain ⟨_, _, _, _, _, _, rfl⟩ := u4; exact hkd3
      have hN4 : Mo_n mo4 = nI n := by obtain ⟨_, _, _, _, _, _, rfl⟩ := u4; exact hN3
      have hM4 : ∀ i, i < n → Mo_od mo4 i = nI (ord i) := by obtain ⟨_, _, _, _, _, _, rfl⟩ := u4; exact hM3
      have hpc4 : ∀ j, j < n → Mo_pc mo4 j = nI (rank wd ht n j) := by obtain ⟨_, _, _, _, _, _, rfl⟩ := u4; exact hpc3
      obtain ⟨wr', b', w', mo', c', r1, r2, r3, r4, r5, r6, r7⟩ := ih (i + 1) b3 w3 (Wr_s_pl wr f) mo4 (c3 + cstL (zzT ht ord n (i + 1))) hK4 hkd4 hbr (Dc_Ep hD3 (Ep.of u4)) hN4 hW hM4 hpc4 (by omega) (by omega) ⟨b4, w4, u1, u3⟩ (by omega)
      have hEp : Ep mo mo' := Ep.trans (Ep.of e4) (Ep.trans s8 (Ep.trans (Ep.of u4) r7))
      refine ⟨wr', b', w', mo', c', ?_, ?_, r3, by omega, r5, r6, hEp⟩
      · rw [if_neg (nI_ge (by omega) (by omega)), tellSize_P (Dc_S hn hD) ho hW hi, cF_app_P, z1, bd_s]
        show bd (cF_P (hdT ht ord i ++ wdT wd ht ord i) b w) _ = _
        rw [cF_app_P, e1, bd_s]
        show bd (cF_P (wdT wd ht ord i) ba wa) _ = _
        rw [s1, bd_s]
        show bd (f_P_Writer_tellBase wr b1 w1 sy (nI i)) _ = _
        rw [s2, bd_s]
        show gd (inb (nI i) 40) (bd (f_P_Writer_layPlane wr sy (Wr_od wr (nI i).toNatClampNeg)) _) = _
        rw [gd_in (show i < 40 by omega) (by decide), ci, hW i hi, s3, bd_s]
        rw [show Wr_br (Wr_s_pl wr f) = Wr_br wr from rfl, show Wr_od (Wr_s_pl wr f) i = nI (ord i) from hW i hi, hbr, gd_in (show i < 40 by omega) (by decide), gd_in (show i < 40 by omega) (by decide)]
        rw [← nI_1 i] at r1
        by_cases ek : (if kd = 1 then (1 : Int32) else 0) = 0
        · rw [if_pos ek] at s4
          rw [if_pos ek, s4, bd_s]
          exact r1
        · rw [if_neg ek] at s4
          rw [if_neg ek, s4, bd_s]
          exact r1
      · have hht3 : ∀ k, k < n → Mo_ht mo3 k = nI (ht k) ∧ ht k ≤ 16 := fun k hk => ⟨(D0 hD3 hk).2.1.2.1, (D0 hD3 hk).2.1.2.2.2⟩
        have hh1 : hbO ht ord (i + 1) = ht (ord i) := if_neg (by omega)
        have j152 : j_Model_write_152_32 (nI i) (l_Model_write_70 K2 m) (nI (ord i)) moa (nI (ht (ord i))) (nI (wbO wd ht ord i)) = K2 mo' := by
          rw [m_j152 h40 hi (fun i hi => (ho i hi).1) hht3 hN3 hM3 s5, u2, bd_s, ← hh1]
          exact r2
        rw [if_neg (nI_ge (by omega) (by omega)), gd_in (show i < 40 by omega) (by decide), ci, hM i hi]
        show gd (inb (nI (ord i)) 80) (if Mo_ht mo (nI (ord i)).toNatClampNeg = nI (hbO ht ord i) then j_Model_write_100_27 mo (nI (hbO ht ord i)) (nI i) (l_Model_write_70 K2 m) (nI (ord i)) 0 else j_Model_write_100_27 mo (nI (hbO ht ord i)) (nI i) (l_Model_write_70 K2 m) (nI (ord i)) 1) = _
        rw [gd_in (show ord i < 80 by omega) (by decide), co, d2]
        by_cases eh : ht (ord i) = hbO ht ord i
        · have hd0 : hdT ht ord i = [] := by unfold hdT; rw [if_pos eh]
          rw [hd0] at e2
          cases e2
          have hi0 : i ≠ 0 := fun z => by
            subst z
            have : hbO ht ord 0 = 0 := if_pos rfl
            omega
          obtain ⟨j, rfl⟩ : ∃ j, i = j + 1 := ⟨i - 1, by omega⟩
          have hwb : wbO wd ht ord (j + 1) = wd (ord j) := by unfold wbO; rw [if_pos eh]; exact if_neg (by omega)
          obtain ⟨p1, p2⟩ := ho j (by omega)
          rw [hwb] at j152
          rw [if_pos (congrArg nI eh), j_Model_write_100_27, if_pos rfl, j_Model_write_128_30, if_pos rfl, nI_pred, gd_in (show j < 40 by omega) (by decide), nI_clamp (show j < 2 ^ 31 by omega), hM j (by omega), gd_in (show ord j < 80 by omega) (by decide), nI_clamp (show ord j < 2 ^ 31 by omega), (D0 hD p1).1.2.1, ← eh]
          exact j152
        · have hd1 : hdT ht ord i = numT (ht (ord i) - hbO ht ord i - 1) := by unfold hdT; rw [if_neg eh]
          have hwb : wbO wd ht ord i = 0 := by unfold wbO; rw [if_neg eh]
          rw [hd1] at e2
          rw [hwb] at j152
          have hht_a : Mo_ht moa (ord i) = nI (ht (ord i)) := (D0 hDa o1).2.1.2.1
          rw [if_neg (fun z => eh ((nI_eq (by omega) (by omega)).mp z)), j_Model_write_100_27, if_neg i10, gd_in (show ord i < 80 by omega) (by decide), co, d2, pk_sub (by omega), show nI (ht (ord i) - hbO ht ord i) - 1 = nI (ht (ord i) - hbO ht ord i - 1) from pk_sub (b := 1) (by omega), m_emitNumber _ (by omega), e2, bd_s]
          rw [gd_in (show ord i < 80 by omega) (by decide), hht_a, lt', j_Model_write_128_30, if_neg i10]
          exact j152
theorem symStep_C {kd : Int32} {wd ht ord : Nat → Nat} {n i : Nat} {sy : Sy} {wr : Wr} {b : Cb} {w : Br} {mo : Mo} {c : Nat} (hK : Mo_kind mo = 2) (hkd : Mo_kind mo = kd) (hn : Sy_n sy = nI n) (hD : Dc 0 sy mo n wd ht) (ho : ∀ i, i < n → ord i < n ∧ rank wd ht n (ord i) = i) (hW : ∀ i, i < n → Wr_od wr i = nI (ord i)) (hpc : ∀ j, j < n → Mo_pc mo j = nI (rank wd ht n j)) (hi : i < n) (hbf : wbO wd ht ord i ≤ wd (ord i)) (h : WcC b w mo c) (hc : c + 2904 ≤ 127000) :
    ∃ (b1 b2 b3 : Cb) (w1 w2 w3 : Br) (f : Nat → Int32) (mo3 : Mo) (c3 : Nat), cF_C (wdT wd ht ord i) b w = some (b1, w1) ∧ f_C_Writer_tellBase wr b1 w1 sy (nI i) = some (b2, w2) ∧ f_C_Writer_layPlane wr sy (nI (ord i)) = some (Wr_s_pl wr f) ∧ (if (if kd = 1 then (1 : Int32) else 0) = 0 then f_C_Writer_tellSamples (Wr_s_pl wr f) b2 w2 sy (nI (ord i)) else f_C_Writer_tellRuns (Wr_s_pl wr f) b2 w2 sy (nI (ord i))) = some (b3, w3) ∧ f_Model_writeSymbol mo (nI (ord i)) (nI (wbO wd ht ord i)) = some mo3 ∧ WcC b3 w3 mo3 c3 ∧ c3 ≤ c + 2904 ∧ Ep mo mo3 := by
  have h40 := hD.1
  obtain ⟨o1, o2⟩ := ho i hi
  have o4 : ord i < 40 := by omega
  have hSv := D0 hD o1
  obtain ⟨⟨a1, a2, a3, a4⟩, ⟨d1, d2, d3, d4⟩, -, ⟨g1, g2⟩, ⟨x1, ax, hax, x2⟩, ⟨y1, ay, hay, y2⟩, -, -⟩ := hSv
  obtain ⟨q, q1, q2⟩ := bs_of hD o1
  rw [o2] at q1 q2
  obtain ⟨R, hR⟩ := Rw_of hD
  have hBB : (Sy_bs sy (ord i) = -1 ∧ Mo_bs mo (ord i) = -1) ∨ ∃ k, k < n ∧ Sy_bs sy (ord i) = nI k ∧ Mo_bs mo (ord i) = nI (k + 0) := by
    rcases g2 with g | ⟨k, hk, g, -⟩
    · exact Or.inl ⟨g1.trans g, g⟩
    · exact Or.inr ⟨k, hk, g1.trans g, g⟩
  obtain ⟨F, F1, F2, F3⟩ := fore_gen (o := 0) (k := ord i) (w := wd (ord i)) (ax := ax) (ay := ay) (B := Mo_bs mo (ord i)) hD (by decide) o4 a4 a1 hBB hax hay (x1.trans x2) x2 (y1.trans y2) y2
  have hV : ∀ y, y < ht (ord i) → R (ord i) y ^^^ F y < 2 ^ wd (ord i) := fun y hy => Nat.xor_lt_two_pow (hR _ o1 y hy).1 (F1 y)
  have hb16 : ∃ bs : Nat, bs ≤ 16 ∧ ((Sy_bs sy (ord i) = -1 ∧ bs = 0) ∨ (¬ Sy_bs sy (ord i) = -1 ∧ bs = 16)) ∧ ((Mo_bs mo (ord i) < 0 ∧ bs = 0) ∨ (¬ Mo_bs mo (ord i) < 0 ∧ bs = 16)) := by
    rcases hBB with ⟨e1, e2⟩ | ⟨k, hk, e1, e2⟩
    · exact ⟨0, by decide, Or.inl ⟨e1, rfl⟩, Or.inl ⟨by rw [e2]; decide, rfl⟩⟩
    · exact ⟨16, by decide, Or.inr ⟨by rw [e1]; exact nI_m1 (by omega), rfl⟩, Or.inr ⟨by rw [e2]; exact nI_pos (by omega), rfl⟩⟩
  obtain ⟨bs, hbs, hb1, hb2⟩ := hb16
  have t1 := wdT_ok (wd := wd) (ht := ht) (ord := ord) (i := i) a4
  have t2 := bsT_ok (i := i) (by omega) q
  have t3 := plT_ok (kd := kd) (V := fun y => R (ord i) y ^^^ F y) (b := bs) a4 d4 hbs
  obtain ⟨b1, w1, mo1, e1, e2, e3, e4⟩ := fold_C (wdT wd ht ord i) b w mo c hK h t1.1 (by omega)
  have hK1 : (fun mo : Mo => Mo_kind mo = 2) mo1 := by obtain ⟨_, _, _, _, _, _, rfl⟩ := e4; exact hK
  obtain ⟨b2, w2, mo2, f1, f2, f3, f4⟩ := fold_C (bsT i q) b1 w1 mo1 _ hK1 e3 t2.1 (by omega)
  have hE2 : Em mo mo2 := Em.trans e4 f4
  have hwp : ∃ f' : Nat → Int32, f_Model_writePlane mo2 (nI (ord i)) = mF (plT kd (fun y => R (ord i) y ^^^ F y) (wd (ord i)) (ht (ord i)) bs) (Mo_s_pl mo2 f') := by
    obtain ⟨_, _, _, _, _, _, rfl⟩ := hE2
    refine m_writePlane (r := R (ord i)) (F := F) hkd (by omega) a3 a4 d3 d4 a2 d2 (fun y hy => ⟨rfl, hV y hy⟩) hb2 (fun mo' hS x y hx hy => ?_) (fun mo' hS x y hx hy => F3 mo' hS x y hx (by omega))
    obtain ⟨s1, s2, s3, s4, s5, s6⟩ := hS
    exact m_sample (r := R (ord i)) (by omega) a4 d4 (by rw [s1]; exact a2) (by rw [s2]; exact d2) (fun y hy => ⟨(hR _ o1 y hy).1, by rw [s3]; exact (hR _ o1 y hy).2.2⟩) hx hy
  obtain ⟨f', hwp⟩ := hwp
  have hK2 : (fun mo : Mo => Mo_kind mo = 2) (Mo_s_pl mo2 f') := by obtain ⟨_, _, _, _, _, _, rfl⟩ := hE2; exact hK
  obtain ⟨b3, w3, mo3, g1', g2', g3', g4'⟩ := fold_C (plT kd (fun y => R (ord i) y ^^^ F y) (wd (ord i)) (ht (ord i)) bs) b2 w2 (Mo_s_pl mo2 f') _ hK2 f3 t3.1 (by omega)
  obtain ⟨f, p1, p2, -⟩ := s_plane_C (sy := sy) (k := ord i) (h := ht (ord i)) (r := R (ord i)) (F := F) (K := fun wr_10 => some wr_10) o4 d4 d1 (fun y hy => (hR _ o1 y hy).2.1) F2 100000 0 wr (by omega) (by omega)
  refine ⟨b1, b2, b3, w1, w2, w3, f, mo3, _, e1, ?_, p1, ?_, ?_, g3', by omega, ?_⟩
  · rw [tellBase_C (Dc_S hn hD) o1 (hW i hi) hi q1]; exact f1
  · rw [tellPlane_C (kd := kd) (V := fun y => R (ord i) y ^^^ F y) (bs := bs) o4 a3 a4 d3 d4 a1 d1 (fun y hy => ⟨hV y hy, p2 y (Nat.zero_le _) hy⟩) hb1]; exact g1'
  · rw [m_writeSymbol (q := q) o4 h40 a2 a4 hbf (by omega) (by rw [hpc _ o1, o2]) hpc q2, mF_app]
    show bd (bd (mF (wdT wd ht ord i) mo) _) _ = _
    rw [e2, bd_s, f2, bd_s, hwp]
    exact g2'
  · exact Ep.trans (Ep.of hE2) (Ep.pl (f := f') (Ep.of g4'))
theorem tellLoop_C {kd : Int32} {wd ht ord : Nat → Nat} {n : Nat} {sy : Sy} {K1 : Wr → Cb → Br → Option (Wr × Cb × Br)} {K2 : Mo → Option (Int32 × Mo)} (hn : Sy_n sy = nI n) (ho : ∀ i, i < n → ord i < n ∧ rank wd ht n (ord i) = i) : ∀ (m i : Nat) (b0 : Cb) (w0 : Br) (wr : Wr) (mo : Mo) (c : Nat), Mo_kind mo = 2 → Mo_kind mo = kd → Wr_br wr = (if kd = 1 then (1 : Int32) else 0) → Dc 0 sy mo n wd ht → Mo_n mo = nI n → (∀ i, i < n → Wr_od wr i = nI (ord i)) → (∀ i, i < n → Mo_od mo i = nI (ord i)) → (∀ j, j < n → Mo_pc mo j = nI (rank wd ht n j)) → i ≤ n → n - i < m → (∃ (b : Cb) (w : Br), cF_C (zzT ht ord n i) b0 w0 = some (b, w) ∧ WcC b w mo c) → c + 2940 * (n - i) ≤ 126000 →
    ∃ (wr' : Wr) (b' : Cb) (w' : Br) (mo' : Mo) (c' : Nat), l_C_Writer_tell_47 sy K1 m wr b0 w0 (nI i) = K1 wr' b' w' ∧ l_Model_write_70 K2 m mo (nI (hbO ht ord i)) (nI i) = K2 mo' ∧ (∃ (b : Cb) (w : Br), cF_C (zzT ht ord n n) b' w' = some (b, w) ∧ WcC b w mo' c') ∧ c' ≤ c + 2940 * (n - i) ∧ Wr_od wr' = Wr_od wr ∧ Wr_br wr' = Wr_br wr ∧ Ep mo mo' := by
  intro m
  induction m with
  | zero => intro i b0 w0 wr mo c _ _ _ _ _ _ _ _ _ h; omega
  | succ m ih =>
    intro i b0 w0 wr mo c hK hkd hbr hD hN hW hM hpc h1 h2 hz hc
    have h40 := hD.1
    rw [l_C_Writer_tell_47, l_Model_write_70, hn, hN]
    by_cases e : i = n
    · subst e
      rw [if_pos (nI_le (Nat.le_refl i) (by omega)), if_pos (nI_le (Nat.le_refl i) (by omega))]
      exact ⟨wr, b0, w0, mo, c, rfl, rfl, hz, by omega, rfl, rfl, Ep.of (Em.refl mo)⟩
    · have hi : i < n := by omega
      obtain ⟨o1, o2⟩ := ho i hi
      have o4 : ord i < 40 := by omega
      have ci : (nI i).toNatClampNeg = i := nI_clamp (by omega)
      have co : (nI (ord i)).toNatClampNeg = ord i := nI_clamp (by omega)
      obtain ⟨⟨a1, a2, a3, a4⟩, ⟨d1, d2, d3, d4⟩, -⟩ := D0 hD o1
      have hbf : wbO wd ht ord i ≤ wd (ord i) ∧ hbO ht ord i ≤ ht (ord i) := by
        by_cases e0 : i = 0
        · subst e0
          have e1 : hbO ht ord 0 = 0 := if_pos rfl
          have e2 : hbO wd ord 0 = 0 := if_pos rfl
          unfold wbO
          rw [e1, e2]
          refine ⟨?_, Nat.zero_le _⟩
          split <;> omega
        · obtain ⟨j, rfl⟩ : ∃ j, i = j + 1 := ⟨i - 1, by omega⟩
          have e1 : hbO ht ord (j + 1) = ht (ord j) := if_neg (by omega)
          have e2 : hbO wd ord (j + 1) = wd (ord j) := if_neg (by omega)
          obtain ⟨l1, l2⟩ := ord_le ho hi
          unfold wbO
          rw [e1, e2]
          refine ⟨?_, l1⟩
          split
          · exact l2 (by omega)
          · omega
      obtain ⟨b, w, z1, z2⟩ := hz
      have t0 := hdT_ok (ht := ht) (ord := ord) (i := i) d4
      obtain ⟨ba, wa, moa, e1, e2, e3, e4⟩ := fold_C (hdT ht ord i) b w mo c hK z2 t0.1 (by omega)
      have hKa : (fun mo : Mo => Mo_kind mo = 2) moa := by obtain ⟨_, _, _, _, _, _, rfl⟩ := e4; exact hK
      have hkda : Mo_kind moa = kd := by obtain ⟨_, _, _, _, _, _, rfl⟩ := e4; exact hkd
      have hDa : Dc 0 sy moa n wd ht := Dc_Ep hD (Ep.of e4)
      have hNa : Mo_n moa = nI n := by obtain ⟨_, _, _, _, _, _, rfl⟩ := e4; exact hN
      have hMa : ∀ i, i < n → Mo_od moa i = nI (ord i) := by obtain ⟨_, _, _, _, _, _, rfl⟩ := e4; exact hM
      have hpca : ∀ j, j < n → Mo_pc moa j = nI (rank wd ht n j) := by obtain ⟨_, _, _, _, _, _, rfl⟩ := e4; exact hpc
      obtain ⟨b1, b2, b3, w1, w2, w3, f, mo3, c3, s1, s2, s3, s4, s5, s6, s7, s8⟩ := symStep_C (kd := kd) (wr := wr) hKa hkda hn hDa ho hW hpca hi hbf.1 e3 (by omega)
      have hK3 : (fun mo : Mo => Mo_kind mo = 2) mo3 := by obtain ⟨_, _, _, _, _, _, _, rfl⟩ := s8; exact hKa
      have hkd3 : Mo_kind mo3 = kd := by obtain ⟨_, _, _, _, _, _, _, rfl⟩ := s8; exact hkda
      have hD3 : Dc 0 sy mo3 n wd ht := Dc_Ep hDa s8
      have hN3 : Mo_n mo3 = nI n := by obtain ⟨_, _, _, _, _, _, _, rfl⟩ := s8; exact hNa
      have hM3 : ∀ i, i < n → Mo_od mo3 i = nI (ord i) := by obtain ⟨_, _, _, _, _, _, _, rfl⟩ := s8; exact hMa
      have hpc3 : ∀ j, j < n → Mo_pc mo3 j = nI (rank wd ht n j) := by obtain ⟨_, _, _, _, _, _, _, rfl⟩ := s8; exact hpca
      have tz := zzT_ok ht ord n (i + 1)
      obtain ⟨b4, w4, mo4, u1, u2, u3, u4⟩ := fold_C (zzT ht ord n (i + 1)) b3 w3 mo3 c3 hK3 s6 tz.1 (by omega)
      have hK4 : (fun mo : Mo => Mo_kind mo = 2) mo4 := by obtain ⟨_, _, _, _, _, _, rfl⟩ := u4; exact hK3
      have hkd4 : Mo_kind mo4 = kd := by obtain ⟨_, _, _, _, _, _, rfl⟩ := u4; exact hkd3
      have hN4 : Mo_n mo4 = nI n := by obtain ⟨_, _, _, _, _, _, rfl⟩ := u4; exact hN3
      have hM4 : ∀ i, i < n → Mo_od mo4 i = nI (ord i) := by obtain ⟨_, _, _, _, _, _, rfl⟩ := u4; exact hM3
      have hpc4 : ∀ j, j < n → Mo_pc mo4 j = nI (rank wd ht n j) := by obtain ⟨_, _, _, _, _, _, rfl⟩ := u4; exact hpc3
      obtain ⟨wr', b', w', mo', c', r1, r2, r3, r4, r5, r6, r7⟩ := ih (i + 1) b3 w3 (Wr_s_pl wr f) mo4 (c3 + cstL (zzT ht ord n (i + 1))) hK4 hkd4 hbr (Dc_Ep hD3 (Ep.of u4)) hN4 hW hM4 hpc4 (by omega) (by omega) ⟨b4, w4, u1, u3⟩ (by omega)
      have hEp : Ep mo mo' := Ep.trans (Ep.of e4) (Ep.trans s8 (Ep.trans (Ep.of u4) r7))
      refine ⟨wr', b', w', mo', c', ?_, ?_, r3, by omega, r5, r6, hEp⟩
      · rw [if_neg (nI_ge (by omega) (by omega)), tellSize_C (Dc_S hn hD) ho hW hi, cF_app_C, z1, bd_s]
        show bd (cF_C (hdT ht ord i ++ wdT wd ht ord i) b w) _ = _
        rw [cF_app_C, e1, bd_s]
        show bd (cF_C (wdT wd ht ord i) ba wa) _ = _
        rw [s1, bd_s]
        show bd (f_C_Writer_tellBase wr b1 w1 sy (nI i)) _ = _
        rw [s2, bd_s]
        show gd (inb (nI i) 40) (bd (f_C_Writer_layPlane wr sy (Wr_od wr (nI i).toNatClampNeg)) _) = _
        rw [gd_in (show i < 40 by omega) (by decide), ci, hW i hi, s3, bd_s]
        rw [show Wr_br (Wr_s_pl wr f) = Wr_br wr from rfl, show Wr_od (Wr_s_pl wr f) i = nI (ord i) from hW i hi, hbr, gd_in (show i < 40 by omega) (by decide), gd_in (show i < 40 by omega) (by decide)]
        rw [← nI_1 i] at r1
        by_cases ek : (if kd = 1 then (1 : Int32) else 0) = 0
        · rw [if_pos ek] at s4
          rw [if_pos ek, s4, bd_s]
          exact r1
        · rw [if_neg ek] at s4
          rw [if_neg ek, s4, bd_s]
          exact r1
      · have hht3 : ∀ k, k < n → Mo_ht mo3 k = nI (ht k) ∧ ht k ≤ 16 := fun k hk => ⟨(D0 hD3 hk).2.1.2.1, (D0 hD3 hk).2.1.2.2.2⟩
        have hh1 : hbO ht ord (i + 1) = ht (ord i) := if_neg (by omega)
        have j152 : j_Model_write_152_32 (nI i) (l_Model_write_70 K2 m) (nI (ord i)) moa (nI (ht (ord i))) (nI (wbO wd ht ord i)) = K2 mo' := by
          rw [m_j152 h40 hi (fun i hi => (ho i hi).1) hht3 hN3 hM3 s5, u2, bd_s, ← hh1]
          exact r2
        rw [if_neg (nI_ge (by omega) (by omega)), gd_in (show i < 40 by omega) (by decide), ci, hM i hi]
        show gd (inb (nI (ord i)) 80) (if Mo_ht mo (nI (ord i)).toNatClampNeg = nI (hbO ht ord i) then j_Model_write_100_27 mo (nI (hbO ht ord i)) (nI i) (l_Model_write_70 K2 m) (nI (ord i)) 0 else j_Model_write_100_27 mo (nI (hbO ht ord i)) (nI i) (l_Model_write_70 K2 m) (nI (ord i)) 1) = _
        rw [gd_in (show ord i < 80 by omega) (by decide), co, d2]
        by_cases eh : ht (ord i) = hbO ht ord i
        · have hd0 : hdT ht ord i = [] := by unfold hdT; rw [if_pos eh]
          rw [hd0] at e2
          cases e2
          have hi0 : i ≠ 0 := fun z => by
            subst z
            have : hbO ht ord 0 = 0 := if_pos rfl
            omega
          obtain ⟨j, rfl⟩ : ∃ j, i = j + 1 := ⟨i - 1, by omega⟩
          have hwb : wbO wd ht ord (j + 1) = wd (ord j) := by unfold wbO; rw [if_pos eh]; exact if_neg (by omega)
          obtain ⟨p1, p2⟩ := ho j (by omega)
          rw [hwb] at j152
          rw [if_pos (congrArg nI eh), j_Model_write_100_27, if_pos rfl, j_Model_write_128_30, if_pos rfl, nI_pred, gd_in (show j < 40 by omega) (by decide), nI_clamp (show j < 2 ^ 31 by omega), hM j (by omega), gd_in (show ord j < 80 by omega) (by decide), nI_clamp (show ord j < 2 ^ 31 by omega), (D0 hD p1).1.2.1, ← eh]
          exact j152
        · have hd1 : hdT ht ord i = numT (ht (ord i) - hbO ht ord i - 1) := by unfold hdT; rw [if_neg eh]
          have hwb : wbO wd ht ord i = 0 := by unfold wbO; rw [if_neg eh]
          rw [hd1] at e2
          rw [hwb] at j152
          have hht_a : Mo_ht moa (ord i) = nI (ht (ord i)) := (D0 hDa o1).2.1.2.1
          rw [if_neg (fun z => eh ((nI_eq (by omega) (by omega)).mp z)), j_Model_write_100_27, if_neg i10, gd_in (show ord i < 80 by omega) (by decide), co, d2, pk_sub (by omega), show nI (ht (ord i) - hbO ht ord i) - 1 = nI (ht (ord i) - hbO ht ord i - 1) from pk_sub (b := 1) (by omega), m_emitNumber _ (by omega), e2, bd_s]
          rw [gd_in (show ord i < 80 by omega) (by decide), hht_a, lt', j_Model_write_128_30, if_neg i10]
          exact j152
theorem finP {pb : Pb} {w : Br} {mo : Mo} {c : Nat} (h : WcP pb w mo c) (hc : c ≤ 127000) : ∃ w' : Br, f_P_PlainBits_finishWriting pb w = some w' ∧ Ow w' mo := by
  obtain ⟨m, q, h, hq, hh, hmn, he, hm, ⟨w1, w2, w3⟩, o1, o2, o3, o4⟩ := h
  rw [f_P_PlainBits_finishWriting, hm, he]
  by_cases e : q = 0
  · subst e
    rw [if_pos (show nI 0 ≤ 0 by decide)]
    exact ⟨w, rfl, m, by omega, w2, w3, w1, o2, o3⟩
  · have hs : nI h <<< ((8 - nI q) &&& 31) = nI (h * 2 ^ (8 - q)) := by
      have p : 2 ^ (8 - q) ≤ 2 ^ 8 := Nat.pow_le_pow_right (by decide) (by omega)
      have h2 : h < 2 ^ 8 := Nat.lt_of_lt_of_le hh (Nat.pow_le_pow_right (by decide) (by omega))
      have := Nat.mul_le_mul (Nat.le_of_lt h2) p
      rw [show (8 : Int32) - nI q = nI (8 - q) from pk_sub (a := 8) (by omega), n_shl (by omega) (by omega)]
    obtain ⟨L, g, g1, g2, g3, g4, g5⟩ := s_addG (b := w) (m := m) (nI (h * 2 ^ (8 - q))) w2 (by omega) w3 w1
    rw [if_neg (nI_nle (by omega) (by omega)), hs, g1, bd_s]
    rw [if_neg e] at o2
    refine ⟨_, rfl, m + 1, by omega, g2, g3, rfl, o2, fun i hi => ?_⟩
    show g i = Mo_out mo i
    by_cases e5 : i = m
    · subst e5; rw [g5, o4 (by omega)]
    · rw [g4 i (by omega)]; exact o3 i (by omega)
theorem finC {cb : Cb} {w : Br} {mo : Mo} {c : Nat} (h : WcC cb w mo c) (hc : c ≤ 127000) : ∃ (w' : Br) (mo1 mo' : Mo), f_C_ChanceBits_finishWriting cb w = some w' ∧ f_Model_outByte mo (((Mo_lo mo) + 65535) >>> ((24 : Int32).toInt64 &&& 63)) = some mo1 ∧ f_Model_outByte mo1 (((Mo_lo mo1) + 65535) >>> ((16 : Int32).toInt64 &&& 63)) = some mo' ∧ Ow w' mo' ∧ Em mo mo' := by
  obtain ⟨⟨m, lo, hi, ⟨a1, a2, a3, a4⟩, hlt, hh, ⟨w1, w2, w3⟩, o1, o2, hp⟩, hC⟩ := h
  have hf := few (t := 32) hp (by omega)
  obtain ⟨L, g, g1, g2, g3, g4, g5⟩ := s_addG (b := w) (m := m) ((((lN lo + 65535) >>> ((24 : Int32).toInt64 &&& 63)).toInt32) &&& 255) w2 (by omega) w3 w1
  obtain ⟨L2, k, k1, k2, k3, k4, k5⟩ := s_addG (b := (L, g, nI (m + 1), Br_tk w)) (m := m + 1) ((((lN lo + 65535) >>> ((16 : Int32).toInt64 &&& 63)).toInt32) &&& 255) g2 (by omega) g3 rfl
  obtain ⟨M, hM⟩ : ∃ z, z = Mo_s_on (Mo_s_out mo (upd (Mo_out mo) m ((((lN lo + 65535) >>> ((24 : Int32).toInt64 &&& 63)).toInt32) &&& 255))) (nI (m + 1)) := ⟨_, rfl⟩
  have M1 : Mo_lo M = lN lo := by subst hM; exact (ey1 mo _ _).trans a3
  have M3 : Mo_on M = nI (m + 1) := by subst hM; exact ez6 mo _ _
  have M4 : Mo_out M = upd (Mo_out mo) m ((((lN lo + 65535) >>> ((24 : Int32).toInt64 &&& 63)).toInt32) &&& 255) := by subst hM; exact ez7 mo _ _
  have M6 : Em mo M := by subst hM; exact Em_B mo _ _
  obtain ⟨N, hN⟩ : ∃ z, z = Mo_s_on (Mo_s_out M (upd (Mo_out M) (m + 1) ((((lN lo + 65535) >>> ((16 : Int32).toInt64 &&& 63)).toInt32) &&& 255))) (nI (m + 1 + 1)) := ⟨_, rfl⟩
  have N3 : Mo_on N = nI (m + 1 + 1) := by subst hN; exact ez6 M _ _
  have N4 : Mo_out N = upd (Mo_out M) (m + 1) ((((lN lo + 65535) >>> ((16 : Int32).toInt64 &&& 63)).toInt32) &&& 255) := by subst hN; exact ez7 M _ _
  have N6 : Em M N := by subst hN; exact Em_B M _ _
  refine ⟨(L2, k, nI (m + 1 + 1), Br_tk w), M, N, ?_, ?_, ?_, ⟨m + 2, by omega, k2, k3, rfl, N3, fun i hi2 => ?_⟩, Em.trans M6 N6⟩
  · rw [f_C_ChanceBits_finishWriting, a1, lt', g1, bd_s, k1, bd_s]
  · rw [a3, m_outB _ o1 (by omega), ← hM]
  · rw [M1, m_outB _ M3 (by omega), ← hN]
  · rw [N4, M4]
    show k i = _
    by_cases e5 : i = m + 1
    · subst e5; rw [k5, pk_us]
    · rw [k4 i (by omega), pk_un e5]
      show g i = _
      by_cases e6 : i = m
      · subst e6; rw [g5, pk_us]
      · rw [g4 i (by omega), pk_un e6]; exact o2 i (by omega)
theorem startW_P {pb : Pb} {w : Br} {mo : Mo} {kd : Int32} (hO : Ow w mo) (ch : Nat → Int32) : ∃ (b' : Pb) (w' : Br), f_P_PlainBits_startWriting pb w = some (b', w') ∧ WcP b' w' (Mo_s_ch (Mo_s_hi (Mo_s_lo (Mo_s_ob (Mo_s_on (Mo_s_code mo 0) 0) 0) 0) 4294967295) ch) 0 := by
  obtain ⟨m, q1, q2, q3, o1, o2, o3⟩ := hO
  exact ⟨_, _, rfl, 0, 0, 0, by decide, by decide, by decide, rfl, rfl, ⟨rfl, Nat.zero_le _, q3⟩, rfl, rfl, fun i hi => by omega, fun z => by omega⟩
theorem startW_C {cb : Cb} {w : Br} {mo : Mo} {kd : Int32} (hO : Ow w mo) (ch : Nat → Int32) (hch : ∀ c, c < 32 → ch c = 32768) : ∃ (b' : Cb) (w' : Br), f_C_ChanceBits_startWriting cb w = some (b', w') ∧ WcC b' w' (Mo_s_ch (Mo_s_hi (Mo_s_lo (Mo_s_ob (Mo_s_on (Mo_s_code mo 0) 0) 0) 0) 4294967295) ch) 0 := by
  obtain ⟨m, q1, q2, q3, o1, o2, o3⟩ := hO
  refine ⟨_, _, rfl, ⟨0, 0, 4294967295, ⟨rfl, rfl, rfl, rfl⟩, by decide, by decide, ⟨rfl, Nat.zero_le _, q3⟩, rfl, fun i hi => by omega, by decide⟩, fun c hc => ⟨32768, by decide, ?_, hch c hc⟩⟩
  show va_fl (Cb_ch cb) 32 32768 c = nI 32768
  unfold va_fl
  rw [if_pos hc]
  rfl
theorem Q_write_P {kd : Int32} {sd : Sd} {cu : Sy} {w v : Br} {wr : Wr} {b : Pb} {mo : Mo} (h : RlB kd sd cu w v mo) (hkd0 : (kd = 0 ∨ kd = 1)) (hbr : Wr_br wr = (if kd = 1 then (1 : Int32) else 0)) : ∃ (r : Int32) (wr' : Wr) (b' : Pb) (w' : Br) (mo' : Mo), f_P_SD_write sd wr b w cu = some (r, wr', b', w') ∧ f_Model_write mo = some (r, mo') ∧ Wr_br wr' = Wr_br wr ∧ RlB kd sd cu w' v mo' := by
  obtain ⟨hk, ⟨n, wd, ht, hn, hm, hD, hC⟩, hO, hI⟩ := h
  have h40 := hD.1
  obtain ⟨ord, ho⟩ := ord_of wd ht n
  obtain ⟨ch, g1, g2⟩ := m_begin (Mo_s_ob (Mo_s_on (Mo_s_code mo 0) 0) 0)
  obtain ⟨b0, w0, s1, s2⟩ := startW_P (kd := kd) (pb := b) hO ch
  obtain ⟨S0, hS0⟩ : ∃ z, z = Mo_s_ch (Mo_s_hi (Mo_s_lo (Mo_s_ob (Mo_s_on (Mo_s_code mo 0) 0) 0) 0) 4294967295) ch := ⟨_, rfl⟩
  rw [← hS0] at g1 s2
  have x0 : Ex mo S0 := by subst hS0; exact Ex_s mo _ _ _ _ _ _
  obtain ⟨mo0, m1, mOd, m2⟩ := m_ord (wd := wd) (ht := ht) (n := n) (K := fun mo_19 => bd (f_Model_emitNumber mo_19 (Mo_n mo_19)) <| fun mo_20 => l_Model_write_70 (fun mo_51 => l_Model_write_199 (fun mo_64 => (if (Mo_kind mo_64) = 2 then bd (f_Model_outByte mo_64 (((Mo_lo mo_64) + 65535) >>> ((24 : Int32).toInt64 &&& 63))) <| fun mo_66 => bd (f_Model_outByte mo_66 (((Mo_lo mo_66) + 65535) >>> ((16 : Int32).toInt64 &&& 63))) <| fun mo_67 => some (Mo_on mo_67, mo_67) else some (Mo_on mo_64, mo_64))) 100000 mo_51 0 0) 100000 mo_20 0 0) 100000 0 S0 (Dc_M ((Ex_n x0).trans hm) (Ex_D x0 hD)) (Nat.zero_le _) (by omega) (fun j hj => by omega)
  have x1 : Ex mo mo0 := Ex.trans x0 (Ex.od mOd)
  have s3 : WcP b0 w0 mo0 0 := by obtain ⟨_, _, rfl⟩ := mOd; exact s2
  have hK0 : (fun mo : Mo => ¬ 2 ≤ Mo_kind mo) mo0 := by
    show ¬ 2 ≤ Mo_kind mo0
    rw [Ex_k x1, hk.2]
    rcases hkd0 with e | e <;> (rw [e]; decide)
  obtain ⟨fw, n1, n2⟩ := s_ord_P (b := b) (w := w) (K := fun wr_8 => bd (f_P_PlainBits_startWriting b w) <| fun (pb_9, w_10) => bd (f_P_Bits_putNumber pb_9 w_10 (Sy_n cu)) <| fun (pb_11, w_12) => l_P_Writer_tell_47 cu (fun wr_37 pb_38 w_39 => (if (Sy_n cu) ≤ 0 then j_P_Writer_tell_132_42 cu wr_37 pb_38 w_39 else bd (f_P_PlainBits_putBit pb_38 w_39 0 (-1)) <| fun (pb_49, w_50) => j_P_Writer_tell_132_42 cu wr_37 pb_49 w_50)) 100000 wr_8 pb_11 w_12 0) (Dc_S hn hD) 100000 0 wr (Nat.zero_le _) (by omega) (fun j hj => by omega)
  have hod : ∀ i, i < n → Mo_od mo0 i = nI (ord i) := fun i hi => by
    obtain ⟨o1, o2⟩ := ho i hi
    have := (m2 _ o1).1
    rw [o2] at this
    exact this
  have hodw : ∀ i, i < n → fw i = nI (ord i) := fun i hi => by
    obtain ⟨o1, o2⟩ := ho i hi
    have := n2 _ o1
    rw [o2] at this
    exact this
  have hnum := (numT_cst (x := n) (by omega)).1
  obtain ⟨b1, w1, mo1, e1, e2, e3, e4⟩ := fold_P (numT n) b0 w0 mo0 0 hK0 s3 (numT_ok n) (by omega)
  have x2 : Ex mo mo1 := Ex.trans x1 (Ex.em e4)
  have hkd1 : Mo_kind mo1 = kd := (Ex_k x2).trans hk.2
  have hK1 : (fun mo : Mo => ¬ 2 ≤ Mo_kind mo) mo1 := by
    show ¬ 2 ≤ Mo_kind mo1
    rw [Ex_k x2, hk.2]
    rcases hkd0 with e | e <;> (rw [e]; decide)
  have hD1 : Dc 0 cu mo1 n wd ht := Ex_D x2 hD
  have hN1 : Mo_n mo1 = nI n := (Ex_n x2).trans hm
  have hM1 : ∀ i, i < n → Mo_od mo1 i = nI (ord i) := by rw [(Em_f e4).2.2.2.2.2.2.2.2.2]; exact hod
  have hpc1 : ∀ j, j < n → Mo_pc mo1 j = nI (rank wd ht n j) := by rw [(Em_f e4).2.2.2.2.2.2.2.2.1]; exact fun j hj => (m2 j hj).2
  have hz0 : zzT ht ord n 0 = [] := if_pos rfl
  have hh0 : hbO ht ord 0 = 0 := if_pos rfl
  obtain ⟨wr', b', w', mo2, c', r1, r2, ⟨b2, w2, r31, r32⟩, r4, r5, r6, r7⟩ := tellLoop_P (kd := kd) (K1 := fun wr_37 pb_38 w_39 => (if (Sy_n cu) ≤ 0 then j_P_Writer_tell_132_42 cu wr_37 pb_38 w_39 else bd (f_P_PlainBits_putBit pb_38 w_39 0 (-1)) <| fun (pb_49, w_50) => j_P_Writer_tell_132_42 cu wr_37 pb_49 w_50)) (K2 := fun mo_51 => l_Model_write_199 (fun mo_64 => (if (Mo_kind mo_64) = 2 then bd (f_Model_outByte mo_64 (((Mo_lo mo_64) + 65535) >>> ((24 : Int32).toInt64 &&& 63))) <| fun mo_66 => bd (f_Model_outByte mo_66 (((Mo_lo mo_66) + 65535) >>> ((16 : Int32).toInt64 &&& 63))) <| fun mo_67 => some (Mo_on mo_67, mo_67) else some (Mo_on mo_64, mo_64))) 100000 mo_51 0 0) hn ho 100000 0 b1 w1 (Wr_s_od wr fw) mo1 _ hK1 hkd1 hbr hD1 hN1 hodw hM1 hpc1 (Nat.zero_le _) (by omega) ⟨b1, w1, by rw [hz0]; rfl, e3⟩ (by omega)
  have hK2 : (fun mo : Mo => ¬ 2 ≤ Mo_kind mo) mo2 := by obtain ⟨_, _, _, _, _, _, _, rfl⟩ := r7; exact hK1
  have hkd2 : Mo_kind mo2 = kd := by obtain ⟨_, _, _, _, _, _, _, rfl⟩ := r7; exact hkd1
  have hD2 : Dc 0 cu mo2 n wd ht := Dc_Ep hD1 r7
  have hN2 : Mo_n mo2 = nI n := by obtain ⟨_, _, _, _, _, _, _, rfl⟩ := r7; exact hN1
  have hM2 : ∀ i, i < n → Mo_od mo2 i = nI (ord i) := by obtain ⟨_, _, _, _, _, _, _, rfl⟩ := r7; exact hM1
  have hex : ∀ i, i < n → ∃ z : Nat, z < 2 ∧ Mo_ex mo2 (ord i) = nI z := fun i hi => by
    have := (D0 hD2 (ho i hi).1).2.2.1.2
    rcases this with e | e
    · exact ⟨0, by decide, e⟩
    · exact ⟨1, by decide, e⟩
  have hsx : ∃ s : Nat → Nat, ∀ i, i < n → s i < 2 ∧ Mo_ex mo2 (ord i) = nI (s i) := by
    refine ⟨fun i => (Mo_ex mo2 (ord i)).toNatClampNeg, fun i hi => ?_⟩
    obtain ⟨z, z1, z2⟩ := hex i hi
    show (Mo_ex mo2 (ord i)).toNatClampNeg < 2 ∧ Mo_ex mo2 (ord i) = nI (Mo_ex mo2 (ord i)).toNatClampNeg
    rw [z2, nI_clamp (by omega)]
    exact ⟨z1, rfl⟩
  obtain ⟨s, hs⟩ := hsx
  have hsc := scT_cst s n 0 0 0 (by omega)
  have hts : ∃ ts : List (Int32 × Int32), okT ts ∧ cstL ts ≤ 242 ∧ f_P_Writer_tellExports wr' b2 w2 cu = cF_P ts b2 w2 ∧ ∀ K : Mo → Option (Int32 × Mo), l_Model_write_199 K 100000 mo2 0 0 = bd (mF ts mo2) K := by
    by_cases e0 : n = 0
    · subst e0
      refine ⟨[], okT_nil, by decide, ?_, fun K => ?_⟩
      · rw [f_P_Writer_tellExports, hn, if_pos (show nI 0 = 0 from rfl)]
        rfl
      · exact Eq.trans (m_exp_l (n := 0) (s := s) (od := Mo_od mo2) (ex := Mo_ex mo2) (by decide) (fun i hi => by omega) 100000 0 0 mo2 hN2 rfl rfl (by decide) (by decide) (by omega)) (if_pos rfl)
    · refine ⟨scT s n 0 0 0, scT_ok _ _ _ _ _, by omega, ?_, fun K => ?_⟩
      · rw [f_P_Writer_tellExports, hn, if_neg (nI_ne0 (by omega) (by omega))]
        exact tellExp_l_P (n := n) (s := s) h40 hn (fun i hi => ⟨(hs i hi).1, ord i, by have := (ho i hi).1; omega, by rw [r5]; exact hodw i hi, ((D0 hD2 (ho i hi).1).2.2.1.1).trans (hs i hi).2⟩) 100000 0 0 0 b2 w2 (by decide) (by omega) (by omega) (by omega)
      · exact Eq.trans (m_exp_l (n := n) (s := s) (od := Mo_od mo2) (ex := Mo_ex mo2) h40 (fun i hi => ⟨(hs i hi).1, ord i, by have := (ho i hi).1; omega, hM2 i hi, (hs i hi).2⟩) 100000 0 0 mo2 hN2 rfl rfl (by decide) (by omega) (by omega)) (if_neg (fun z => e0 z.symm))
  obtain ⟨ts, t1, t2, t3, t4⟩ := hts
  obtain ⟨b3, w3, mo3, u1, u2, u3, u4⟩ := fold_P ts b2 w2 mo2 c' hK2 r32 t1 (by omega)
  have hkd3 : Mo_kind mo3 = kd := by obtain ⟨_, _, _, _, _, _, rfl⟩ := u4; exact hkd2
  obtain ⟨w4, v1, v2⟩ := finP u3 (by omega)
  have hk2 : ¬ Mo_kind mo3 = 2 := by
    rw [hkd3]
    rcases hkd0 with e | e <;> (rw [e]; decide)
  have hEE : ∃ mo4 : Mo, mo4 = mo3 ∧ (if (Mo_kind mo3) = 2 then bd (f_Model_outByte mo3 (((Mo_lo mo3) + 65535) >>> ((24 : Int32).toInt64 &&& 63))) (fun mo_66 => bd (f_Model_outByte mo_66 (((Mo_lo mo_66) + 65535) >>> ((16 : Int32).toInt64 &&& 63))) (fun mo_67 => some (Mo_on mo_67, mo_67))) else some (Mo_on mo3, mo3)) = some (Mo_on mo4, mo4) ∧ Ow w4 mo4 ∧ Em mo3 mo4 := ⟨mo3, rfl, by rw [if_neg hk2], v2, Em.refl mo3⟩
  obtain ⟨mo4, -, y1, y2, y3⟩ := hEE
  have hEp : Ep mo1 mo4 := Ep.trans r7 (Ep.trans (Ep.of u4) (Ep.of y3))
  have hlast : Br_n w4 = Mo_on mo4 := by obtain ⟨m, -, -, -, p1, p2, -⟩ := id y2; rw [p1, p2]
  refine ⟨Mo_on mo4, wr', b3, w4, mo4, ?_, ?_, ?_, ?_⟩
  · rw [f_P_SD_write, f_P_Writer_tell]
    have hcl : l_P_Writer_tell_2 b w cu (fun wr_8 => bd (f_P_PlainBits_startWriting b w) <| fun (pb_9, w_10) => bd (f_P_Bits_putNumber pb_9 w_10 (Sy_n cu)) <| fun (pb_11, w_12) => l_P_Writer_tell_47 cu (fun wr_37 pb_38 w_39 => (if (Sy_n cu) ≤ 0 then j_P_Writer_tell_132_42 cu wr_37 pb_38 w_39 else bd (f_P_PlainBits_putBit pb_38 w_39 0 (-1)) <| fun (pb_49, w_50) => j_P_Writer_tell_132_42 cu wr_37 pb_49 w_50)) 100000 wr_8 pb_11 w_12 0) 100000 wr 0 = some (wr', b3, w4) := by
      refine Eq.trans n1 ?_
      rw [s1, bd_s]
      show bd (f_P_Bits_putNumber b0 w0 (Sy_n cu)) _ = _
      rw [hn, putNumber_P _ _ (by omega), e1, bd_s]
      rw [hn] at r1
      refine Eq.trans r1 ?_
      have hj : ∀ (b9 : Pb) (w9 : Br), b9 = b2 → w9 = w2 → j_P_Writer_tell_132_42 cu wr' b9 w9 = some (wr', b3, w4) := by
        intro b9 w9 h1 h2
        subst h1; subst h2
        rw [j_P_Writer_tell_132_42, t3, u1, bd_s]
        show bd (f_P_PlainBits_finishWriting b3 w3) _ = _
        rw [v1, bd_s]
      by_cases e0 : n = 0
      · have hz9 : zzT ht ord n n = [] := by unfold zzT; rw [if_pos e0]
        rw [hz9] at r31
        cases r31
        show (if nI n ≤ 0 then _ else _) = _
        rw [e0, if_pos (show nI 0 ≤ 0 by decide)]
        exact hj _ _ rfl rfl
      · have hz9 : zzT ht ord n n = [(0, -1)] := by unfold zzT; rw [if_neg e0, if_pos rfl]
        rw [hz9, ← put1_P] at r31
        show (if nI n ≤ 0 then _ else _) = _
        rw [if_neg (nI_nle (by omega) (by omega)), r31, bd_s]
        exact hj _ _ rfl rfl
    rw [hcl, bd_s]
    show some (Br_n w4, wr', b3, w4) = _
    rw [hlast]
  · rw [f_Model_write, lt', lt', lt', g1, bd_s]
    refine Eq.trans m1 ?_
    show bd (f_Model_emitNumber mo0 (Mo_n mo0)) _ = _
    rw [(Ex_n x1).trans hm, m_emitNumber _ (by omega), e2, bd_s]
    rw [hh0] at r2
    refine Eq.trans r2 ?_
    show l_Model_write_199 _ 100000 mo2 0 0 = _
    rw [t4, u2, bd_s]
    exact y1
  · rw [r6]
  · have x9 : Ex mo mo4 := Ex.trans x2 (Ex.ep hEp)
    exact ⟨⟨hk.1, (Ex_k x9).trans hk.2⟩, ⟨n, wd, ht, hn, (Ex_n x9).trans hm, Ex_D x9 hD, Ex_C x9 hC⟩, y2, Ex_I x9 hI⟩
theorem Q_write_C {kd : Int32} {sd : Sd} {cu : Sy} {w v : Br} {wr : Wr} {b : Cb} {mo : Mo} (h : RlB kd sd cu w v mo) (hkd0 : kd = 2) (hbr : Wr_br wr = (if kd = 1 then (1 : Int32) else 0)) : ∃ (r : Int32) (wr' : Wr) (b' : Cb) (w' : Br) (mo' : Mo), f_C_SD_write sd wr b w cu = some (r, wr', b', w') ∧ f_Model_write mo = some (r, mo') ∧ Wr_br wr' = Wr_br wr ∧ RlB kd sd cu w' v mo' := by
  obtain ⟨hk, ⟨n, wd, ht, hn, hm, hD, hC⟩, hO, hI⟩ := h
  have h40 := hD.1
  obtain ⟨ord, ho⟩ := ord_of wd ht n
  obtain ⟨ch, g1, g2⟩ := m_begin (Mo_s_ob (Mo_s_on (Mo_s_code mo 0) 0) 0)
  obtain ⟨b0, w0, s1, s2⟩ := startW_C (kd := kd) (cb := b) hO ch g2
  obtain ⟨S0, hS0⟩ : ∃ z, z = Mo_s_ch (Mo_s_hi (Mo_s_lo (Mo_s_ob (Mo_s_on (Mo_s_code mo 0) 0) 0) 0) 4294967295) ch := ⟨_, rfl⟩
  rw [← hS0] at g1 s2
  have x0 : Ex mo S0 := by subst hS0; exact Ex_s mo _ _ _ _ _ _
  obtain ⟨mo0, m1, mOd, m2⟩ := m_ord (wd := wd) (ht := ht) (n := n) (K := fun mo_19 => bd (f_Model_emitNumber mo_19 (Mo_n mo_19)) <| fun mo_20 => l_Model_write_70 (fun mo_51 => l_Model_write_199 (fun mo_64 => (if (Mo_kind mo_64) = 2 then bd (f_Model_outByte mo_64 (((Mo_lo mo_64) + 65535) >>> ((24 : Int32).toInt64 &&& 63))) <| fun mo_66 => bd (f_Model_outByte mo_66 (((Mo_lo mo_66) + 65535) >>> ((16 : Int32).toInt64 &&& 63))) <| fun mo_67 => some (Mo_on mo_67, mo_67) else some (Mo_on mo_64, mo_64))) 100000 mo_51 0 0) 100000 mo_20 0 0) 100000 0 S0 (Dc_M ((Ex_n x0).trans hm) (Ex_D x0 hD)) (Nat.zero_le _) (by omega) (fun j hj => by omega)
  have x1 : Ex mo mo0 := Ex.trans x0 (Ex.od mOd)
  have s3 : WcC b0 w0 mo0 0 := by obtain ⟨_, _, rfl⟩ := mOd; exact s2
  have hK0 : (fun mo : Mo => Mo_kind mo = 2) mo0 := by
    show Mo_kind mo0 = 2
    rw [Ex_k x1, hk.2]
    exact hkd0
  obtain ⟨fw, n1, n2⟩ := s_ord_C (b := b) (w := w) (K := fun wr_8 => bd (f_C_ChanceBits_startWriting b w) <| fun (pb_9, w_10) => bd (f_C_Bits_putNumber pb_9 w_10 (Sy_n cu)) <| fun (pb_11, w_12) => l_C_Writer_tell_47 cu (fun wr_37 pb_38 w_39 => (if (Sy_n cu) ≤ 0 then j_C_Writer_tell_132_42 cu wr_37 pb_38 w_39 else bd (f_C_ChanceBits_putBit pb_38 w_39 0 (-1)) <| fun (pb_49, w_50) => j_C_Writer_tell_132_42 cu wr_37 pb_49 w_50)) 100000 wr_8 pb_11 w_12 0) (Dc_S hn hD) 100000 0 wr (Nat.zero_le _) (by omega) (fun j hj => by omega)
  have hod : ∀ i, i < n → Mo_od mo0 i = nI (ord i) := fun i hi => by
    obtain ⟨o1, o2⟩ := ho i hi
    have := (m2 _ o1).1
    rw [o2] at this
    exact this
  have hodw : ∀ i, i < n → fw i = nI (ord i) := fun i hi => by
    obtain ⟨o1, o2⟩ := ho i hi
    have := n2 _ o1
    rw [o2] at this
    exact this
  have hnum := (numT_cst (x := n) (by omega)).1
  obtain ⟨b1, w1, mo1, e1, e2, e3, e4⟩ := fold_C (numT n) b0 w0 mo0 0 hK0 s3 (numT_ok n) (by omega)
  have x2 : Ex mo mo1 := Ex.trans x1 (Ex.em e4)
  have hkd1 : Mo_kind mo1 = kd := (Ex_k x2).trans hk.2
  have hK1 : (fun mo : Mo => Mo_kind mo = 2) mo1 := by
    show Mo_kind mo1 = 2
    rw [Ex_k x2, hk.2]
    exact hkd0
  have hD1 : Dc 0 cu mo1 n wd ht := Ex_D x2 hD
  have hN1 : Mo_n mo1 = nI n := (Ex_n x2).trans hm
  have hM1 : ∀ i, i < n → Mo_od mo1 i = nI (ord i) := by rw [(Em_f e4).2.2.2.2.2.2.2.2.2]; exact hod
  have hpc1 : ∀ j, j < n → Mo_pc mo1 j = nI (rank wd ht n j) := by rw [(Em_f e4).2.2.2.2.2.2.2.2.1]; exact fun j hj => (m2 j hj).2
  have hz0 : zzT ht ord n 0 = [] := if_pos rfl
  have hh0 : hbO ht ord 0 = 0 := if_pos rfl
  obtain ⟨wr', b', w', mo2, c', r1, r2, ⟨b2, w2, r31, r32⟩, r4, r5, r6, r7⟩ := tellLoop_C (kd := kd) (K1 := fun wr_37 pb_38 w_39 => (if (Sy_n cu) ≤ 0 then j_C_Writer_tell_132_42 cu wr_37 pb_38 w_39 else bd (f_C_ChanceBits_putBit pb_38 w_39 0 (-1)) <| fun (pb_49, w_50) => j_C_Writer_tell_132_42 cu wr_37 pb_49 w_50)) (K2 := fun mo_51 => l_Model_write_199 (fun mo_64 => (if (Mo_kind mo_64) = 2 then bd (f_Model_outByte mo_64 (((Mo_lo mo_64) + 65535) >>> ((24 : Int32).toInt64 &&& 63))) <| fun mo_66 => bd (f_Model_outByte mo_66 (((Mo_lo mo_66) + 65535) >>> ((16 : Int32).toInt64 &&& 63))) <| fun mo_67 => some (Mo_on mo_67, mo_67) else some (Mo_on mo_64, mo_64))) 100000 mo_51 0 0) hn ho 100000 0 b1 w1 (Wr_s_od wr fw) mo1 _ hK1 hkd1 hbr hD1 hN1 hodw hM1 hpc1 (Nat.zero_le _) (by omega) ⟨b1, w1, by rw [hz0]; rfl, e3⟩ (by omega)
  have hK2 : (fun mo : Mo => Mo_kind mo = 2) mo2 := by obtain ⟨_, _, _, _, _, _, _, rfl⟩ := r7; exact hK1
  have hkd2 : Mo_kind mo2 = kd := by obtain ⟨_, _, _, _, _, _, _, rfl⟩ := r7; exact hkd1
  have hD2 : Dc 0 cu mo2 n wd ht := Dc_Ep hD1 r7
  have hN2 : Mo_n mo2 = nI n := by obtain ⟨_, _, _, _, _, _, _, rfl⟩ := r7; exact hN1
  have hM2 : ∀ i, i < n → Mo_od mo2 i = nI (ord i) := by obtain ⟨_, _, _, _, _, _, _, rfl⟩ := r7; exact hM1
  have hex : ∀ i, i < n → ∃ z : Nat, z < 2 ∧ Mo_ex mo2 (ord i) = nI z := fun i hi => by
    have := (D0 hD2 (ho i hi).1).2.2.1.2
    rcases this with e | e
    · exact ⟨0, by decide, e⟩
    · exact ⟨1, by decide, e⟩
  have hsx : ∃ s : Nat → Nat, ∀ i, i < n → s i < 2 ∧ Mo_ex mo2 (ord i) = nI (s i) := by
    refine ⟨fun i => (Mo_ex mo2 (ord i)).toNatClampNeg, fun i hi => ?_⟩
    obtain ⟨z, z1, z2⟩ := hex i hi
    show (Mo_ex mo2 (ord i)).toNatClampNeg < 2 ∧ Mo_ex mo2 (ord i) = nI (Mo_ex mo2 (ord i)).toNatClampNeg
    rw [z2, nI_clamp (by omega)]
    exact ⟨z1, rfl⟩
  obtain ⟨s, hs⟩ := hsx
  have hsc := scT_cst s n 0 0 0 (by omega)
  have hts : ∃ ts : List (Int32 × Int32), okT ts ∧ cstL ts ≤ 242 ∧ f_C_Writer_tellExports wr' b2 w2 cu = cF_C ts b2 w2 ∧ ∀ K : Mo → Option (Int32 × Mo), l_Model_write_199 K 100000 mo2 0 0 = bd (mF ts mo2) K := by
    by_cases e0 : n = 0
    · subst e0
      refine ⟨[], okT_nil, by decide, ?_, fun K => ?_⟩
      · rw [f_C_Writer_tellExports, hn, if_pos (show nI 0 = 0 from rfl)]
        rfl
      · exact Eq.trans (m_exp_l (n := 0) (s := s) (od := Mo_od mo2) (ex := Mo_ex mo2) (by decide) (fun i hi => by omega) 100000 0 0 mo2 hN2 rfl rfl (by decide) (by decide) (by omega)) (if_pos rfl)
    · refine ⟨scT s n 0 0 0, scT_ok _ _ _ _ _, by omega, ?_, fun K => ?_⟩
      · rw [f_C_Writer_tellExports, hn, if_neg (nI_ne0 (by omega) (by omega))]
        exact tellExp_l_C (n := n) (s := s) h40 hn (fun i hi => ⟨(hs i hi).1, ord i, by have := (ho i hi).1; omega, by rw [r5]; exact hodw i hi, ((D0 hD2 (ho i hi).1).2.2.1.1).trans (hs i hi).2⟩) 100000 0 0 0 b2 w2 (by decide) (by omega) (by omega) (by omega)
      · exact Eq.trans (m_exp_l (n := n) (s := s) (od := Mo_od mo2) (ex := Mo_ex mo2) h40 (fun i hi => ⟨(hs i hi).1, ord i, by have := (ho i hi).1; omega, hM2 i hi, (hs i hi).2⟩) 100000 0 0 mo2 hN2 rfl rfl (by decide) (by omega) (by omega)) (if_neg (fun z => e0 z.symm))
  obtain ⟨ts, t1, t2, t3, t4⟩ := hts
  obtain ⟨b3, w3, mo3, u1, u2, u3, u4⟩ := fold_C ts b2 w2 mo2 c' hK2 r32 t1 (by omega)
  have hkd3 : Mo_kind mo3 = kd := by obtain ⟨_, _, _, _, _, _, rfl⟩ := u4; exact hkd2
  obtain ⟨w4, mo9, mo4, v1, v2, v3, y2, y3⟩ := finC u3 (by omega)
  have y1 : (if (Mo_kind mo3) = 2 then bd (f_Model_outByte mo3 (((Mo_lo mo3) + 65535) >>> ((24 : Int32).toInt64 &&& 63))) (fun mo_66 => bd (f_Model_outByte mo_66 (((Mo_lo mo_66) + 65535) >>> ((16 : Int32).toInt64 &&& 63))) (fun mo_67 => some (Mo_on mo_67, mo_67))) else some (Mo_on mo3, mo3)) = some (Mo_on mo4, mo4) := by
    rw [if_pos (hkd3.trans hkd0), v2, bd_s, v3, bd_s]
  have hEp : Ep mo1 mo4 := Ep.trans r7 (Ep.trans (Ep.of u4) (Ep.of y3))
  have hlast : Br_n w4 = Mo_on mo4 := by obtain ⟨m, -, -, -, p1, p2, -⟩ := id y2; rw [p1, p2]
  refine ⟨Mo_on mo4, wr', b3, w4, mo4, ?_, ?_, ?_, ?_⟩
  · rw [f_C_SD_write, f_C_Writer_tell]
    have hcl : l_C_Writer_tell_2 b w cu (fun wr_8 => bd (f_C_ChanceBits_startWriting b w) <| fun (pb_9, w_10) => bd (f_C_Bits_putNumber pb_9 w_10 (Sy_n cu)) <| fun (pb_11, w_12) => l_C_Writer_tell_47 cu (fun wr_37 pb_38 w_39 => (if (Sy_n cu) ≤ 0 then j_C_Writer_tell_132_42 cu wr_37 pb_38 w_39 else bd (f_C_ChanceBits_putBit pb_38 w_39 0 (-1)) <| fun (pb_49, w_50) => j_C_Writer_tell_132_42 cu wr_37 pb_49 w_50)) 100000 wr_8 pb_11 w_12 0) 100000 wr 0 = some (wr', b3, w4) := by
      refine Eq.trans n1 ?_
      rw [s1, bd_s]
      show bd (f_C_Bits_putNumber b0 w0 (Sy_n cu)) _ = _
      rw [hn, putNumber_C _ _ (by omega), e1, bd_s]
      rw [hn] at r1
      refine Eq.trans r1 ?_
      have hj : ∀ (b9 : Cb) (w9 : Br), b9 = b2 → w9 = w2 → j_C_Writer_tell_132_42 cu wr' b9 w9 = some (wr', b3, w4) := by
        intro b9 w9 h1 h2
        subst h1; subst h2
        rw [j_C_Writer_tell_132_42, t3, u1, bd_s]
        show bd (f_C_ChanceBits_finishWriting b3 w3) _ = _
        rw [v1, bd_s]
      by_cases e0 : n = 0
      · have hz9 : zzT ht ord n n = [] := by unfold zzT; rw [if_pos e0]
        rw [hz9] at r31
        cases r31
        show (if nI n ≤ 0 then _ else _) = _
        rw [e0, if_pos (show nI 0 ≤ 0 by decide)]
        exact hj _ _ rfl rfl
      · have hz9 : zzT ht ord n n = [(0, -1)] := by unfold zzT; rw [if_neg e0, if_pos rfl]
        rw [hz9, ← put1_C] at r31
        show (if nI n ≤ 0 then _ else _) = _
        rw [if_neg (nI_nle (by omega) (by omega)), r31, bd_s]
        exact hj _ _ rfl rfl
    rw [hcl, bd_s]
    show some (Br_n w4, wr', b3, w4) = _
    rw [hlast]
  · rw [f_Model_write, lt', lt', lt', g1, bd_s]
    refine Eq.trans m1 ?_
    show bd (f_Model_emitNumber mo0 (Mo_n mo0)) _ = _
    rw [(Ex_n x1).trans hm, m_emitNumber _ (by omega), e2, bd_s]
    rw [hh0] at r2
    refine Eq.trans r2 ?_
    show l_Model_write_199 _ 100000 mo2 0 0 = _
    rw [t4, u2, bd_s]
    exact y1
  · rw [r6]
  · have x9 : Ex mo mo4 := Ex.trans x2 (Ex.ep hEp)
    exact ⟨⟨hk.1, (Ex_k x9).trans hk.2⟩, ⟨n, wd, ht, hn, (Ex_n x9).trans hm, Ex_D x9 hD, Ex_C x9 hC⟩, y2, Ex_I x9 hI⟩
