/-! Writing -/
theorem mF_then {ts1 ts2 : List (Int32 × Int32)} {mo : Mo} {ρ : Type} {f : Mo → Option ρ} {K : Mo → Option ρ} (h : ∀ mo1, Em mo mo1 → f mo1 = bd (mF ts2 mo1) K) : bd (mF ts1 mo) f = bd (mF (ts1 ++ ts2) mo) K := by
  rw [mF_app, bd_bd]
  cases h2 : mF ts1 mo with
  | none => rfl
  | some mo1 => exact h mo1 (Em_mF _ _ _ h2)
theorem m_emit1 (mo : Mo) (b : Int32) : f_Model_emit mo b 32768 = mF [(b, -1)] mo := by
  show _ = bd (mS mo b (-1)) (fun mo1 => some mo1)
  rw [bd_some1, mS, if_pos rfl]
/-- the order: which symbol is at a place -/
theorem ord_of (wd ht : Nat → Nat) (n : Nat) : ∃ ord : Nat → Nat, ∀ i, i < n → ord i < n ∧ rank wd ht n (ord i) = i := by
  refine ⟨fun i => if h : i < n then Classical.choose (rank_onto (wd := wd) (ht := ht) h) else 0, fun i hi => ?_⟩
  simp only [dif_pos hi]
  exact Classical.choose_spec (rank_onto (wd := wd) (ht := ht) hi)
theorem ord_le {wd ht ord : Nat → Nat} {n i : Nat} (ho : ∀ i, i < n → ord i < n ∧ rank wd ht n (ord i) = i) (hi : i + 1 < n) : ht (ord i) ≤ ht (ord (i + 1)) ∧ (ht (ord i) = ht (ord (i + 1)) → wd (ord i) ≤ wd (ord (i + 1))) := by
  obtain ⟨a1, a2⟩ := ho i (by omega)
  obtain ⟨b1, b2⟩ := ho (i + 1) hi
  have := rank_bef (wd := wd) (ht := ht) a1 b1 (by omega)
  simp only [bef, decide_eq_true_eq] at this
  omega
def Mo_o (mo : Mo) (z_pc : (Nat → Int32)) (z_od : (Nat → Int32)) : Mo := (Mo_code mo, Mo_kind mo, Mo_n mo, Mo_wd mo, Mo_ht mo, Mo_rw mo, Mo_ex mo, Mo_bs mo, Mo_dx mo, Mo_dy mo, z_pc, z_od, Mo_cl mo, Mo_co mo, Mo_fc mo, Mo_on mo, Mo_ob mo, Mo_out mo, Mo_inn mo, Mo_ia mo, Mo_inp mo, Mo_ch mo, Mo_lo mo, Mo_hi mo, Mo_tk mo, Mo_pl mo, Mo_why mo)
def Od (mo mo' : Mo) : Prop := ∃ (z_pc : (Nat → Int32)) (z_od : (Nat → Int32)), mo' = Mo_o mo z_pc z_od
theorem Od.refl (mo : Mo) : Od mo mo := ⟨Mo_pc mo, Mo_od mo, rfl⟩
theorem Od_2 (mo : Mo) (a_pc b_pc : (Nat → Int32)) (a_od b_od : (Nat → Int32)) : Mo_o (Mo_o mo a_pc a_od) b_pc b_od = Mo_o mo b_pc b_od := by
  obtain ⟨m1, m2, m3, m4, m5, m6, m7, m8, m9, m10, m11, m12, m13, m14, m15, m16, m17, m18, m19, m20, m21, m22, m23, m24, m25, m26, m27⟩ := mo
  exact Eq.trans (b := (m1, m2, m3, m4, m5, m6, m7, m8, m9, m10, b_pc, b_od, m13, m14, m15, m16, m17, m18, m19, m20, m21, m22, m23, m24, m25, m26, m27)) rfl rfl
theorem Od.trans {a b c : Mo} (h1 : Od a b) (h2 : Od b c) : Od a c := by
  obtain ⟨a_pc, a_od, rfl⟩ := h1
  obtain ⟨b_pc, b_od, rfl⟩ := h2
  exact ⟨b_pc, b_od, Od_2 a a_pc b_pc a_od b_od⟩
theorem Od_1 (mo : Mo) (y_pc : (Nat → Int32)) (y_od : (Nat → Int32)) : Od mo (Mo_s_od (Mo_s_pc mo y_pc) y_od) := by
  refine ⟨y_pc, y_od, ?_⟩
  obtain ⟨m1, m2, m3, m4, m5, m6, m7, m8, m9, m10, m11, m12, m13, m14, m15, m16, m17, m18, m19, m20, m21, m22, m23, m24, m25, m26, m27⟩ := mo
  exact Eq.trans (b := (m1, m2, m3, m4, m5, m6, m7, m8, m9, m10, y_pc, y_od, m13, m14, m15, m16, m17, m18, m19, m20, m21, m22, m23, m24, m25, m26, m27)) rfl rfl
theorem oz1 (mo : Mo) (f : Nat → Int32) : Mo_pc (Mo_s_pc mo f) = f := rfl
theorem oz2 (mo : Mo) (f : Nat → Int32) : Mo_od (Mo_s_pc mo f) = Mo_od mo := rfl
theorem oz3 (mo : Mo) (f g : Nat → Int32) : Mo_od (Mo_s_od (Mo_s_pc mo f) g) = g := rfl
theorem oz4 (mo : Mo) (f g : Nat → Int32) : Mo_pc (Mo_s_od (Mo_s_pc mo f) g) = f := rfl
theorem SzM_Od {mo mo' : Mo} {n : Nat} {wd ht : Nat → Nat} (h : SzM mo n wd ht) (h2 : Od mo mo') : SzM mo' n wd ht := by
  obtain ⟨a, b, rfl⟩ := h2
  exact h
theorem m_ord {wd ht : Nat → Nat} {n : Nat} {K : Mo → Option (Int32 × Mo)} : ∀ (m k : Nat) (mo : Mo), SzM mo n wd ht → k ≤ n → n - k < m → (∀ j, j < k → Mo_od mo (rank wd ht n j) = nI j ∧ Mo_pc mo j = nI (rank wd ht n j)) → ∃ mo' : Mo, l_Model_write_21 K m mo (nI k) = K mo' ∧ Od mo mo' ∧ ∀ j, j < n → Mo_od mo' (rank wd ht n j) = nI j ∧ Mo_pc mo' j = nI (rank wd ht n j) := by
  intro m
  induction m with
  | zero => intro k mo _ _ h; omega
  | succ m ih =>
    intro k mo hS h1 h2 hI
    have h40 := hS.2.1
    rw [l_Model_write_21, hS.1]
    by_cases e : k = n
    · subst e
      rw [if_pos (nI_le (Nat.le_refl k) (by omega))]
      exact ⟨mo, rfl, Od.refl mo, hI⟩
    · have hr := rank_lt_n (wd := wd) (ht := ht) (show k < n by omega)
      have ck : (nI k).toNatClampNeg = k := nI_clamp (by omega)
      have cr : (nI (rank wd ht n k)).toNatClampNeg = rank wd ht n k := nI_clamp (by omega)
      obtain ⟨mo1, hm1⟩ : ∃ z, z = Mo_s_od (Mo_s_pc mo (upd (Mo_pc mo) k (nI (rank wd ht n k)))) (upd (Mo_od mo) (rank wd ht n k) (nI k)) := ⟨_, rfl⟩
      have o1 : Od mo mo1 := by subst hm1; exact Od_1 mo _ _
      have o2 : Mo_od mo1 = upd (Mo_od mo) (rank wd ht n k) (nI k) := by subst hm1; exact oz3 mo _ _
      have o3 : Mo_pc mo1 = upd (Mo_pc mo) k (nI (rank wd ht n k)) := by subst hm1; exact oz4 mo _ _
      rw [if_neg (nI_ge (by omega) (by omega)), m_placeOf hS (by omega), bd_s, gd_in (show k < 40 by omega) (by decide), ck, lt', gd_in (show k < 40 by omega) (by decide), oz1, oz2, pk_us, cr, gd_in (show rank wd ht n k < 40 by omega) (by decide), lt', lt', ← hm1]
      obtain ⟨mo', e1, e3, e2⟩ := ih (k + 1) mo1 (SzM_Od hS o1) (by omega) (by omega) (fun j hj => by
        rw [o2, o3]
        by_cases e5 : j = k
        · subst e5; rw [pk_us, pk_us]; exact ⟨rfl, rfl⟩
        · rw [pk_un (fun z => e5 (rank_inj (by omega) (by omega) z)), pk_un e5]; exact hI j (by omega))
      rw [← nI_1 k] at e1
      exact ⟨mo', e1, Od.trans o1 e3, e2⟩
/-- what the coder leaves as it is -/
theorem Em_f {mo mo' : Mo} (h : Em mo mo') : Mo_kind mo' = Mo_kind mo ∧ Mo_n mo' = Mo_n mo ∧ Mo_wd mo' = Mo_wd mo ∧ Mo_ht mo' = Mo_ht mo ∧ Mo_ex mo' = Mo_ex mo ∧ Mo_bs mo' = Mo_bs mo ∧ Mo_dx mo' = Mo_dx mo ∧ Mo_dy mo' = Mo_dy mo ∧ Mo_pc mo' = Mo_pc mo ∧ Mo_od mo' = Mo_od mo := by
  obtain ⟨a, b, c, d, e, f, rfl⟩ := h
  exact ⟨rfl, rfl, rfl, rfl, rfl, rfl, rfl, rfl, rfl, rfl⟩
/-- of the symbol before, or 0 -/
def hbO (z : Nat → Nat) (ord : Nat → Nat) (i : Nat) : Nat := if i = 0 then 0 else z (ord (i - 1))
def wbO (wd ht ord : Nat → Nat) (i : Nat) : Nat := if ht (ord i) = hbO ht ord i then hbO wd ord i else 0
def hdT (ht ord : Nat → Nat) (i : Nat) : List (Int32 × Int32) := if ht (ord i) = hbO ht ord i then [] else numT (ht (ord i) - hbO ht ord i - 1)
def wdT (wd ht ord : Nat → Nat) (i : Nat) : List (Int32 × Int32) := (1, -1) :: numT (wd (ord i) - wbO wd ht ord i)
def zzT (ht ord : Nat → Nat) (n i : Nat) : List (Int32 × Int32) := if i = 0 then [] else if i = n then [(0, -1)] else if ht (ord i) = hbO ht ord i then [] else [(0, -1)]
def bsT (i : Nat) : Option (Nat × Nat × Nat) → List (Int32 × Int32)
  | none => [(0, -1)]
  | some (r, ax, ay) => (1, -1) :: (numT (i - r - 1) ++ (bitsT ax 4 ++ bitsT ay 4))
theorem tok0 : tok 0 (-1) := ⟨Or.inl rfl, Or.inl rfl⟩
theorem tok1 : tok 1 (-1) := ⟨Or.inr rfl, Or.inl rfl⟩
theorem hdT_ok {ht ord : Nat → Nat} {i : Nat} (h : ht (ord i) ≤ 16) : okT (hdT ht ord i) ∧ cstL (hdT ht ord i) ≤ 34 := by
  unfold hdT
  split
  · exact ⟨okT_nil, by decide⟩
  · exact ⟨numT_ok _, (numT_cst (by omega)).1⟩
theorem wdT_ok {wd ht ord : Nat → Nat} {i : Nat} (h : wd (ord i) ≤ 16) : okT (wdT wd ht ord i) ∧ cstL (wdT wd ht ord i) ≤ 36 := by
  refine ⟨okT_cons tok1 (numT_ok _), ?_⟩
  have := (numT_cst (x := wd (ord i) - wbO wd ht ord i) (by omega)).1
  show 2 + cstL (numT (wd (ord i) - wbO wd ht ord i)) ≤ 36
  omega
theorem zzT_ok (ht ord : Nat → Nat) (n i : Nat) : okT (zzT ht ord n i) ∧ cstL (zzT ht ord n i) ≤ 2 := by
  unfold zzT
  split
  · exact ⟨okT_nil, by decide⟩
  · split
    · exact ⟨okT_cons tok0 okT_nil, by decide⟩
    · split
      · exact ⟨okT_nil, by decide⟩
      · exact ⟨okT_cons tok0 okT_nil, by decide⟩
theorem bsT_ok {i : Nat} (hi : i ≤ 40) (q : Option (Nat × Nat × Nat)) : okT (bsT i q) ∧ cstL (bsT i q) ≤ 52 := by
  match q with
  | none => exact ⟨okT_cons tok0 okT_nil, by show cst (-1) + 0 ≤ 52; decide⟩
  | some (r, ax, ay) =>
    refine ⟨okT_cons tok1 (okT_app (numT_ok _) (okT_app (bitsT_ok _ _) (bitsT_ok _ _))), ?_⟩
    have := (numT_cst (x := i - r - 1) (by omega)).1
    show 2 + cstL (numT (i - r - 1) ++ (bitsT ax 4 ++ bitsT ay 4)) ≤ 52
    rw [cstL_app, cstL_app, bitsT_cst, bitsT_cst]
    omega
/-- the base of a symbol, its place among others at place i -/
def bsOf (wd ht : Nat → Nat) (n : Nat) (b x y : Int32) (i : Nat) (q : Option (Nat × Nat × Nat)) : Prop := (b = -1 ∧ q = none) ∨ ∃ k ax ay : Nat, k < n ∧ b = nI k ∧ rank wd ht n k < i ∧ ax ≤ 8 ∧ ay ≤ 8 ∧ x = nI ax - 4 ∧ y = nI ay - 4 ∧ q = some (rank wd ht n k, ax, ay)
theorem sh4 (a : Nat) : nI a - 4 + 4 = nI a := Int32.sub_add_cancel _ _
theorem m_writeSymbol {wd ht : Nat → Nat} {n k i bf : Nat} {q : Option (Nat × Nat × Nat)} {mo : Mo} (hk : k < 40) (hn : n ≤ 40) (hwd : Mo_wd mo k = nI (wd k)) (hw : wd k ≤ 16) (hbf : bf ≤ wd k) (hi : i < 40) (hp : Mo_pc mo k = nI i) (hpc : ∀ j, j < n → Mo_pc mo j = nI (rank wd ht n j)) (hb : bsOf wd ht n (Mo_bs mo k) (Mo_dx mo k) (Mo_dy mo k) i q) : f_Model_writeSymbol mo (nI k) (nI bf) = bd (mF (((1, -1) :: numT (wd k - bf)) ++ bsT i q) mo) (fun mo1 => f_Model_writePlane mo1 (nI k)) := by
  have ck : (nI k).toNatClampNeg = k := nI_clamp (by omega)
  have k8 : k < 80 := by omega
  rw [f_Model_writeSymbol, m_emit1]
  show _ = bd (mF ([(1, -1)] ++ (numT (wd k - bf) ++ bsT i q)) mo) _
  refine mF_then (fun mo1 h1 => ?_)
  obtain ⟨-, -, f3, -⟩ := Em_f h1
  rw [gd_in k8 (by decide), ck, f3, hwd, pk_sub hbf, m_emitNumber _ (by omega)]
  refine mF_then (fun mo3 h3 => ?_)
  have h3' := Em.trans h1 h3
  obtain ⟨-, -, -, -, -, f6, -⟩ := Em_f h3'
  rw [gd_in k8 (by decide), f6]
  rcases hb with ⟨b1, b2⟩ | ⟨b, ax, ay, hbn, b1, b2, b3, b4, b5, b6, b7⟩
  · subst b2
    rw [b1, if_pos (by decide), j_Model_writeSymbol_33_6, if_pos rfl, j_Model_writeSymbol_44_8, m_emit1]
    show _ = bd (mF [(0, -1)] _) _
    refine congrArg (bd _) (funext fun mo9 => ?_)
    rw [if_pos rfl, j_Model_writeSymbol_103_11]
    exact bd_some1
  · subst b7
    have cb : (nI b).toNatClampNeg = b := nI_clamp (by omega)
    rw [b1, if_neg (nI_pos (by omega)), j_Model_writeSymbol_33_6, if_neg i10, j_Model_writeSymbol_44_8, m_emit1]
    show _ = bd (mF ([(1, -1)] ++ (numT (i - rank wd ht n b - 1) ++ (bitsT ax 4 ++ bitsT ay 4))) _) _
    refine mF_then (fun mo9 h9 => ?_)
    have h9' := Em.trans h3' h9
    obtain ⟨-, -, -, -, -, g6, -, -, g9, -⟩ := Em_f h9'
    rw [if_neg i10, gd_in hk (by decide), gd_in k8 (by decide), ck, g6, g9, b1, gd_in (show b < 40 by omega) (by decide), cb, hp, hpc b hbn, pk_sub (by omega), show nI (i - rank wd ht n b) - 1 = nI (i - rank wd ht n b - 1) from pk_sub (b := 1) (by omega), m_emitNumber _ (by omega)]
    refine mF_then (fun mo17 h17 => ?_)
    have h17' := Em.trans h9' h17
    obtain ⟨-, -, -, -, -, -, g7, -⟩ := Em_f h17'
    rw [gd_in k8 (by decide), g7, b5, sh4, show (4 : Int32) = nI 4 from rfl, m_emitBits _ (by omega) (by decide)]
    refine mF_then (fun mo19 h19 => ?_)
    have h19' := Em.trans h17' h19
    obtain ⟨-, -, -, -, -, -, -, g8, -⟩ := Em_f h19'
    rw [gd_in k8 (by decide), g8, b6, show nI ay - 4 + nI 4 = nI ay from sh4 ay, m_emitBits _ (by omega) (by decide)]
    refine congrArg (bd _) (funext fun mo21 => ?_)
    rw [j_Model_writeSymbol_103_11]
    exact bd_some1
/-- the bits of a plane, by kind -/
def plT (kd : Int32) (V : Nat → Nat) (w h b : Nat) : List (Int32 × Int32) := if kd = 1 then scT (smpI V w) (w * h) 0 0 0 else smpT V w b (w * h) 0
theorem plT_ok {kd : Int32} {V : Nat → Nat} {w h b : Nat} (hw : w ≤ 16) (hh : h ≤ 16) (hb : b ≤ 16) : okT (plT kd V w h b) ∧ cstL (plT kd V w h b) ≤ 2816 := by
  have hwh : w * h ≤ 256 := Nat.mul_le_mul hw hh
  unfold plT
  split
  · refine ⟨scT_ok _ _ _ _ _, ?_⟩
    have := scT_cst (smpI V w) (w * h) 0 0 0 (by omega)
    omega
  · refine ⟨smpT_ok hb _ _, ?_⟩
    rw [smpT_cst hb]; omega
/-- the plane of a symbol and its bits, on the reference's side -/
theorem m_writePlane {kd : Int32} {k w h b : Nat} {V r F : Nat → Nat} {mo : Mo} (hkd : Mo_kind mo = kd) (hk : k < 80) (hw1 : 1 ≤ w) (hw : w ≤ 16) (hh1 : 1 ≤ h) (hh : h ≤ 16) (hwd : Mo_wd mo k = nI w) (hht : Mo_ht mo k = nI h) (hV : ∀ y, y < h → V y = r y ^^^ F y ∧ V y < 2 ^ w) (hb : (Mo_bs mo k < 0 ∧ b = 0) ∨ (¬ Mo_bs mo k < 0 ∧ b = 16)) (hs : ∀ mo' : Mo, Sm mo mo' → ∀ x y, x < w → y < h → f_Model_sample mo' (nI k) (nI x) (nI y) = some (nI (r y / 2 ^ x % 2))) (hu : ∀ mo' : Mo, Sm mo mo' → ∀ x y, x < w → y < h → f_Model_under mo' (nI k) (Mo_bs mo k) (nI x) (nI y) = some (nI (F y / 2 ^ x % 2))) : ∃ f : Nat → Int32, f_Model_writePlane mo (nI k) = mF (plT kd V w h b) (Mo_s_pl mo f) := by
  have ck : (nI k).toNatClampNeg = k := nI_clamp (by omega)
  have hwh : w * h ≤ 256 := Nat.mul_le_mul hw hh
  have hwh1 : 1 ≤ w * h := Nat.mul_le_mul hw1 hh1
  obtain ⟨f, f1, f2, -⟩ := m_plane (x3 := nI (w * h)) (K := fun mo_23 => (if (Mo_kind mo_23) = 1 then l_Model_writePlane_111 (nI w) (nI (w * h)) (fun mo_55 => some mo_55) 100000 mo_23 0 0 else l_Model_writePlane_185 (nI k) (nI w) (nI (w * h)) (fun mo_41 => some mo_41) 100000 mo_23 0)) hk hw hh hht hV rfl hs hu 100000 0 mo (Sm.refl mo) (Nat.zero_le _) (by omega)
  refine ⟨f, ?_⟩
  have hP : PlM (Mo_s_pl mo f) V h := fun y hy => f2 y (Nat.zero_le _) hy
  rw [f_Model_writePlane, gd_in hk (by decide), ck, hwd, lt', gd_in hk (by decide), hht, pk_mul, lt']
  refine Eq.trans f1 ?_
  unfold plT
  by_cases e : kd = 1
  · have e2 : Mo_kind (Mo_s_pl mo f) = 1 := hkd.trans e
    rw [if_pos e, if_pos e2]
    refine Eq.trans (m_run_l (K := fun mo_55 => some mo_55) hw hh (fun y hy => (hV y hy).2) 100000 0 0 (Mo_s_pl mo f) hP (by decide) (by omega) (Or.inl (by omega))) ?_
    rw [if_neg (by omega), Nat.sub_zero]
    exact bd_some1
  · have e2 : ¬ Mo_kind (Mo_s_pl mo f) = 1 := fun z => e (hkd.symm.trans z)
    rw [if_neg e, if_neg e2]
    refine Eq.trans (m_smp_l (K := fun mo_41 => some mo_41) (b := b) hk hw hh (fun y hy => (hV y hy).2) hb 100000 0 (Mo_s_pl mo f) hP rfl (by omega) (by omega)) ?_
    rw [Nat.sub_zero]
    exact bd_some1
theorem m_exp_l {n : Nat} {s : Nat → Nat} {K : Mo → Option (Int32 × Mo)} {od ex : Nat → Int32} (hn : n ≤ 40) (hs : ∀ i, i < n → s i < 2 ∧ ∃ k : Nat, k < 80 ∧ od i = nI k ∧ ex k = nI (s i)) : ∀ (m a c : Nat) (mo : Mo), Mo_n mo = nI n → Mo_od mo = od → Mo_ex mo = ex → c < 2 → a ≤ n → (n - a) + 2 ≤ m ∨ ((n - a) + 1 ≤ m ∧ (s a = c ∨ a = n)) → l_Model_write_199 K m mo (nI a) (nI c) = if a = n then K mo else bd (mF (scT s (n - a) a c 0) mo) K := by
  intro m
  induction m with
  | zero => intro a c mo _ _ _ _ _ h; omega
  | succ m ih =>
    intro a c mo hM hO hX hc h1 h2
    rw [l_Model_write_199, hM]
    by_cases e : a = n
    · rw [if_pos e, e, if_pos (nI_le (Nat.le_refl _) (by omega))]
    · rw [if_neg e, if_neg (nI_ge (by omega) (by omega))]
      have inner : ∀ (m2 l : Nat), a + l ≤ n → n - (a + l) < m2 → ((n - a) + 1 ≤ m ∨ ((n - a) ≤ m ∧ (0 < l ∨ s a = c))) → l_Model_write_210 mo (nI a) (nI c) (fun x4_60 => bd (f_Model_emitNumber mo x4_60) <| fun mo_61 => lt' (nI a + x4_60) <| fun x2_62 => (if nI c = 0 then (l_Model_write_199 K m) mo_61 x2_62 1 else (l_Model_write_199 K m) mo_61 x2_62 0)) m2 (nI l) = bd (mF (scT s (n - (a + l)) (a + l) c l) mo) K := by
        intro m2
        induction m2 with
        | zero => intro l _ h _; omega
        | succ m2 ih2 =>
          intro l g1 g2 g3
          have hend : ∀ (ts : List (Int32 × Int32)) (Y : Int32), Y = nI (a + l) → (∀ mo1 : Mo, Em mo mo1 → l_Model_write_199 K m mo1 (nI (a + l)) (nI (1 - c)) = bd (mF ts mo1) K) → bd (f_Model_emitNumber mo (nI l)) (fun mo_61 => lt' Y <| fun x2_62 => (if nI c = 0 then (l_Model_write_199 K m) mo_61 x2_62 1 else (l_Model_write_199 K m) mo_61 x2_62 0)) = bd (mF (numT l ++ ts) mo) K := by
            intro ts Y hY hts
            rw [m_emitNumber mo (show l < 511 by omega)]
            refine mF_then (fun mo1 h1 => ?_)
            rw [← hts mo1 h1]
            show (if nI c = 0 then l_Model_write_199 K m mo1 Y 1 else l_Model_write_199 K m mo1 Y 0) = _
            rw [hY]
            have hc2 : c = 0 ∨ c = 1 := by omega
            rcases hc2 with rfl | rfl
            · rfl
            · rfl
          rw [l_Model_write_210, nI_add, hM]
          by_cases e2 : a + l = n
          · rw [e2, if_pos (nI_le (Nat.le_refl _) (by omega)), Nat.sub_self]
            have := hend [] (nI n) (by rw [e2]) (fun mo1 hE => by
              obtain ⟨-, x2, -, -, x5, -, -, -, -, x10⟩ := Em_f hE
              rw [e2, ih n (1 - c) mo1 (x2.trans hM) (x10.trans hO) (x5.trans hX) (by omega) (Nat.le_refl _) (Or.inr ⟨by omega, Or.inr rfl⟩), if_pos rfl]
              rfl)
            rw [List.append_nil] at this
            exact this
          · obtain ⟨hs2, k, hk, k1, k2⟩ := hs (a + l) (by omega)
            rw [if_neg (nI_ge (by omega) (by omega)), gd_in (show a + l < 40 by omega) (by decide), nI_clamp (show a + l < 2 ^ 31 by omega), hO, k1, gd_in hk (by decide), nI_clamp (show k < 2 ^ 31 by omega), hX, k2, show n - (a + l) = (n - (a + l + 1)) + 1 by omega]
            show (if nI (s (a + l)) = nI c then _ else _) = bd (mF (if s (a + l) = c then scT s (n - (a + l + 1)) (a + l + 1) c (l + 1) else numT l ++ scT s (n - (a + l + 1)) (a + l + 1) (1 - c) 1) mo) K
            by_cases e3 : s (a + l) = c
            · rw [if_pos e3, if_pos (congrArg nI e3)]
              have := ih2 (l + 1) (by omega) (by omega) (by omega)
              rw [← nI_1 l] at this
              exact this
            · rw [if_neg e3, if_neg (fun z => e3 ((nI_eq (by omega) (by omega)).mp z))]
              refine hend _ _ rfl (fun mo1 hE => ?_)
              obtain ⟨-, x2, -, -, x5, -, -, -, -, x10⟩ := Em_f hE
              have g5 : (n - (a + l)) + 1 ≤ m := by
                by_cases e4 : l = 0
                · subst e4
                  rcases g3 with g | ⟨g, g' | g'⟩
                  · omega
                  · omega
                  · exact absurd g' e3
                · omega
              rw [ih (a + l) (1 - c) mo1 (x2.trans hM) (x10.trans hO) (x5.trans hX) (by omega) (by omega) (Or.inr ⟨g5, Or.inl (by omega)⟩), if_neg e2, show n - (a + l) = (n - (a + l + 1)) + 1 by omega, scT_turn hs2 hc e3]
      have := inner 100000 0 (by omega) (by omega) (by omega)
      rw [Nat.add_zero] at this
      exact this
theorem m_begin_l {K : Mo → Option Mo} : ∀ (m i : Nat) (mo : Mo), i ≤ 32 → 32 - i < m → ∃ ch : Nat → Int32, l_Model_beginBits_14 K m mo (nI i) = K (Mo_s_ch mo ch) ∧ (∀ c, i ≤ c → c < 32 → ch c = 32768) ∧ ∀ c, c < i → ch c = Mo_ch mo c := by
  intro m
  induction m with
  | zero => intro i mo _ h; omega
  | succ m ih =>
    intro i mo h1 h2
    rw [l_Model_beginBits_14]
    by_cases e : i = 32
    · subst e
      rw [if_pos (show (32 : Int32) ≤ nI 32 from nI_le (Nat.le_refl 32) (by decide))]
      exact ⟨Mo_ch mo, rfl, fun c a b => by omega, fun c _ => rfl⟩
    · rw [if_neg (show ¬ (32 : Int32) ≤ nI i from nI_ge (b := 32) (by omega) (by decide)), gd_in (show i < 32 by omega) (by decide), nI_clamp (show i < 2 ^ 31 by omega)]
      obtain ⟨ch, e1, e2, e3⟩ := ih (i + 1) (Mo_s_ch mo (upd (Mo_ch mo) i 32768)) (by omega) (by omega)
      rw [← nI_1 i] at e1
      refine ⟨ch, e1, fun c a b => ?_, fun c a => ?_⟩
      · by_cases e5 : c = i
        · subst e5; rw [e3 c (by omega)]; exact pk_us
        · exact e2 c (by omega) b
      · rw [e3 c (by omega)]; exact pk_un (by omega)
theorem m_begin (mo : Mo) : ∃ ch : Nat → Int32, f_Model_beginBits mo = some (Mo_s_ch (Mo_s_hi (Mo_s_lo mo 0) 4294967295) ch) ∧ ∀ c, c < 32 → ch c = 32768 := by
  obtain ⟨ch, e1, e2, -⟩ := m_begin_l (K := fun mo_11 => some mo_11) 100000 0 (Mo_s_hi (Mo_s_lo mo 0) 4294967295) (by omega) (by omega)
  refine ⟨ch, ?_, fun c hc => e2 c (Nat.zero_le _) hc⟩
  rw [f_Model_beginBits, lt', lt']
  exact e1
theorem cF_then_P {ts1 ts2 : List (Int32 × Int32)} {b : Pb} {w : Br} {ρ : Type} {f : Pb × Br → Option ρ} {K : Pb × Br → Option ρ} (h : ∀ b1 w1, f (b1, w1) = bd (cF_P ts2 b1 w1) K) : bd (cF_P ts1 b w) f = bd (cF_P (ts1 ++ ts2) b w) K := by
  rw [cF_app_P, bd_bd]
  cases h2 : cF_P ts1 b w with
  | none => rfl
  | some r => exact h r.1 r.2
theorem put1_P (b : Pb) (w : Br) (x : Int32) : f_P_PlainBits_putBit b w x (-1) = cF_P [(x, -1)] b w := by
  show _ = bd (f_P_PlainBits_putBit b w x (-1)) (fun (b1, w1) => some (b1, w1))
  rw [bd_some2]
theorem s_ord_P {wd ht : Nat → Nat} {n : Nat} {sy : Sy} {b : Pb} {w : Br} {K : Wr → Option (Wr × Pb × Br)} (hS : SzS sy n wd ht) : ∀ (m k : Nat) (wr : Wr), k ≤ n → n - k < m → (∀ j, j < k → Wr_od wr (rank wd ht n j) = nI j) → ∃ f : Nat → Int32, l_P_Writer_tell_2 b w sy K m wr (nI k) = K (Wr_s_od wr f) ∧ ∀ j, j < n → f (rank wd ht n j) = nI j := by
  have h40 := hS.2.1
  intro m
  induction m with
  | zero => intro k wr _ h; omega
  | succ m ih =>
    intro k wr h1 h2 hI
    rw [l_P_Writer_tell_2, hS.1]
    by_cases e : k = n
    · subst e
      rw [if_pos (nI_le (Nat.le_refl k) (by omega))]
      exact ⟨Wr_od wr, rfl, hI⟩
    · have hr := rank_lt_n (wd := wd) (ht := ht) (show k < n by omega)
      rw [if_neg (nI_ge (by omega) (by omega)), s_placeOf hS (by omega), bd_s, gd_in (show rank wd ht n k < 40 by omega) (by decide), nI_clamp (show rank wd ht n k < 2 ^ 31 by omega)]
      obtain ⟨f, e1, e2⟩ := ih (k + 1) (Wr_s_od wr (upd (Wr_od wr) (rank wd ht n k) (nI k))) (by omega) (by omega) (fun j hj => by
        show upd (Wr_od wr) (rank wd ht n k) (nI k) (rank wd ht n j) = nI j
        by_cases e5 : j = k
        · subst e5; exact pk_us
        · rw [pk_un (fun z => e5 (rank_inj (by omega) (by omega) z))]; exact hI j (by omega))
      rw [← nI_1 k] at e1
      exact ⟨f, e1, e2⟩
theorem tellSize_P {wd ht ord : Nat → Nat} {n i : Nat} {sy : Sy} {wr : Wr} {b : Pb} {w : Br} (hS : SzS sy n wd ht) (ho : ∀ i, i < n → ord i < n ∧ rank wd ht n (ord i) = i) (hW : ∀ i, i < n → Wr_od wr i = nI (ord i)) (hi : i < n) : f_P_Writer_tellSize wr b w sy (nI i) = cF_P (zzT ht ord n i ++ (hdT ht ord i ++ wdT wd ht ord i)) b w := by
  have h40 := hS.2.1
  obtain ⟨o1, o2⟩ := ho i hi
  obtain ⟨⟨a1, a2, a3⟩, c1, c2, c3⟩ := hS.2.2 (ord i) o1
  have co : (nI (ord i)).toNatClampNeg = ord i := nI_clamp (by omega)
  have ci : (nI i).toNatClampNeg = i := nI_clamp (by omega)
  have o4 : ord i < 40 := by omega
  have k98 : ∀ (b1 : Pb) (w1 : Br) (z : Nat), z ≤ wd (ord i) → j_P_Writer_tellSize_98_11 sy (nI (ord i)) b1 w1 (nI z) = cF_P ((1, -1) :: numT (wd (ord i) - z)) b1 w1 := by
    intro b1 w1 z hz
    rw [j_P_Writer_tellSize_98_11, co, a1, pk_sub hz, put1_P]
    refine Eq.trans (cF_then_P (ts2 := numT (wd (ord i) - z)) (K := fun r => some r) (fun b2 w2 => ?_)) bd_some1
    show gd (inb (nI (ord i)) 40) (bd (f_P_Bits_putNumber b2 w2 (nI (wd (ord i) - z))) _) = _
    rw [gd_in o4 (by decide), putNumber_P _ _ (by omega)]
  have k77 : ∀ (b1 : Pb) (w1 : Br) (z : Nat), z < ht (ord i) → j_P_Writer_tellSize_77_22 sy (nI (ord i)) (nI z) b1 w1 = cF_P (numT (ht (ord i) - z - 1) ++ ((1, -1) :: numT (wd (ord i) - 0))) b1 w1 := by
    intro b1 w1 z hz
    rw [j_P_Writer_tellSize_77_22, gd_in o4 (by decide), co, c1, pk_sub (by omega), show nI (ht (ord i) - z) - 1 = nI (ht (ord i) - z - 1) from pk_sub (b := 1) (by omega), putNumber_P _ _ (by omega)]
    refine Eq.trans (cF_then_P (ts2 := (1, -1) :: numT (wd (ord i) - 0)) (K := fun r => some r) (fun b2 w2 => ?_)) bd_some1
    exact (k98 b2 w2 0 (Nat.zero_le _)).trans bd_some1.symm
  rw [f_P_Writer_tellSize, gd_in (show i < 40 by omega) (by decide), ci, hW i hi]
  by_cases e0 : i = 0
  · subst e0
    have hz : zzT ht ord n 0 = [] := if_pos rfl
    have hh : hbO ht ord 0 = 0 := if_pos rfl
    have hd : hdT ht ord 0 = numT (ht (ord 0) - 0 - 1) := by unfold hdT; rw [hh, if_neg (by omega)]
    have hwT : wdT wd ht ord 0 = (1, -1) :: numT (wd (ord 0) - 0) := by unfold wdT wbO; rw [hh, if_neg (by omega)]
    rw [hz, hd, hwT, List.nil_append]
    rw [lt', if_pos (show nI 0 ≤ 0 by decide), j_P_Writer_tellSize_28_4, if_pos (show nI 0 ≤ 0 by decide), j_P_Writer_tellSize_51_6, gd_in o4 (by decide), co, c1, if_neg (nI_ne0 (by omega) (by omega)), if_pos (show nI 0 ≤ 0 by decide)]
    exact k77 b w 0 (by omega)
  · obtain ⟨j, rfl⟩ : ∃ j, i = j + 1 := ⟨i - 1, by omega⟩
    obtain ⟨p1, p2⟩ := ho j (by omega)
    obtain ⟨⟨d1, d2, d3⟩, f1, f2, f3⟩ := hS.2.2 (ord j) p1
    obtain ⟨l1, l2⟩ := ord_le ho hi
    have cp : (nI (ord j)).toNatClampNeg = ord j := nI_clamp (by omega)
    have cj : (nI j).toNatClampNeg = j := nI_clamp (by omega)
    have hnle : ¬ nI (j + 1) ≤ 0 := nI_nle (by omega) (by omega)
    have hh : hbO ht ord (j + 1) = ht (ord j) := if_neg (by omega)
    have hw' : hbO wd ord (j + 1) = wd (ord j) := if_neg (by omega)
    rw [lt', if_neg hnle, nI_pred, gd_in (show j < 40 by omega) (by decide), cj, hW j (by omega), gd_in (show ord j < 40 by omega) (by decide), cp, f1, j_P_Writer_tellSize_28_4, if_neg hnle, nI_pred, gd_in (show j < 40 by omega) (by decide), cj, hW j (by omega), gd_in (show ord j < 40 by omega) (by decide), cp, d1, j_P_Writer_tellSize_51_6, gd_in o4 (by decide), co, c1]
    by_cases e : ht (ord (j + 1)) = ht (ord j)
    · have hz : zzT ht ord n (j + 1) = [] := by unfold zzT; rw [if_neg (by omega), if_neg (by omega), hh, if_pos e]
      have hd : hdT ht ord (j + 1) = [] := by unfold hdT; rw [hh, if_pos e]
      have hwT : wdT wd ht ord (j + 1) = (1, -1) :: numT (wd (ord (j + 1)) - wd (ord j)) := by unfold wdT wbO; rw [hh, if_pos e, hw']
      rw [hz, hd, hwT, List.nil_append, List.nil_append, if_pos (congrArg nI e)]
      exact k98 b w _ (l2 e.symm)
    · have hz : zzT ht ord n (j + 1) = [(0, -1)] := by unfold zzT; rw [if_neg (by omega), if_neg (by omega), hh, if_neg e]
      have hd : hdT ht ord (j + 1) = numT (ht (ord (j + 1)) - ht (ord j) - 1) := by unfold hdT; rw [hh, if_neg e]
      have hwT : wdT wd ht ord (j + 1) = (1, -1) :: numT (wd (ord (j + 1)) - 0) := by unfold wdT wbO; rw [hh, if_neg e]
      rw [hz, hd, hwT, if_neg (fun z => e ((nI_eq (by omega) (by omega)).mp z)), if_neg hnle, put1_P]
      refine Eq.trans (cF_then_P (ts2 := numT (ht (ord (j + 1)) - ht (ord j) - 1) ++ ((1, -1) :: numT (wd (ord (j + 1)) - 0))) (K := fun r => some r) (fun b2 w2 => ?_)) bd_some1
      exact (k77 b2 w2 (ht (ord j)) (by omega)).trans bd_some1.symm
theorem tellBase_P {wd ht ord : Nat → Nat} {n i : Nat} {sy : Sy} {wr : Wr} {b : Pb} {w : Br} {q : Option (Nat × Nat × Nat)} (hS : SzS sy n wd ht) (o1 : ord i < n) (hW : Wr_od wr i = nI (ord i)) (hi : i < n) (hb : bsOf wd ht n (Sy_bs sy (ord i)) (Sy_dx sy (ord i)) (Sy_dy sy (ord i)) i q) : f_P_Writer_tellBase wr b w sy (nI i) = cF_P (bsT i q) b w := by
  have h40 := hS.2.1
  have co : (nI (ord i)).toNatClampNeg = ord i := nI_clamp (by omega)
  have ci : (nI i).toNatClampNeg = i := nI_clamp (by omega)
  have o4 : ord i < 40 := by omega
  rw [f_P_Writer_tellBase, gd_in (show i < 40 by omega) (by decide), ci, hW]
  show gd (inb (nI (ord i)) 40) _ = _
  rw [gd_in o4 (by decide), co]
  rcases hb with ⟨b1, b2⟩ | ⟨k, ax, ay, hkn, b1, b2, b3, b4, b5, b6, b7⟩
  · subst b2
    rw [b1, lt', if_pos rfl, put1_P]
    exact bd_some2
  · subst b7
    rw [b1, b5, b6, lt', if_neg (nI_m1 (by omega)), put1_P]
    refine Eq.trans (cF_then_P (ts2 := numT (i - rank wd ht n k - 1) ++ (bitsT ax 4 ++ bitsT ay 4)) (K := fun r => some r) (fun b2' w2 => ?_)) bd_some1
    show bd (f_Symbols_placeOf sy (nI k)) (fun r_9 => bd (f_P_Bits_putNumber b2' w2 ((nI i - r_9) - 1)) _) = _
    rw [s_placeOf hS hkn, bd_s, pk_sub (by omega), show nI (i - rank wd ht n k) - 1 = nI (i - rank wd ht n k - 1) from pk_sub (b := 1) (by omega), putNumber_P _ _ (by omega)]
    refine cF_then_P (fun b3' w3 => ?_)
    show gd (inb (nI (ord i)) 40) (bd (f_P_Bits_putBits b3' w3 (nI ax - 4 + 4) (nI 4)) _) = _
    rw [gd_in o4 (by decide), sh4, putBits_P _ _ (by omega) (by decide)]
    refine cF_then_P (fun b4' w4 => ?_)
    show gd (inb (nI (ord i)) 40) (bd (f_P_Bits_putBits b4' w4 (nI ay - 4 + 4) (nI 4)) _) = _
    rw [gd_in o4 (by decide), sh4, putBits_P _ _ (by omega) (by decide)]
theorem tellPlane_P {kd : Int32} {k w h bs : Nat} {V : Nat → Nat} {sy : Sy} {wr : Wr} {b : Pb} {w9 : Br} (hk : k < 40) (hw1 : 1 ≤ w) (hw : w ≤ 16) (hh1 : 1 ≤ h) (hh : h ≤ 16) (hwd : Sy_wd sy k = nI w) (hht : Sy_ht sy k = nI h) (hV : ∀ y, y < h → V y < 2 ^ w ∧ Wr_pl wr y = nI (V y)) (hb : (Sy_bs sy k = -1 ∧ bs = 0) ∨ (¬ Sy_bs sy k = -1 ∧ bs = 16)) : (if (if kd = 1 then (1 : Int32) else 0) = 0 then f_P_Writer_tellSamples wr b w9 sy (nI k) else f_P_Writer_tellRuns wr b w9 sy (nI k)) = cF_P (plT kd V w h bs) b w9 := by
  have ck : (nI k).toNatClampNeg = k := nI_clamp (by omega)
  unfold plT
  by_cases e : kd = 1
  · rw [if_pos e, if_pos e, if_neg i10, f_P_Writer_tellRuns]
    have := s_run_y_P (wr := wr) (sy := sy) (V := V) hk hw hh hwd hht hV 100000 0 0 0 b w9 (by decide) (by omega) (by omega) (by omega)
    rw [Nat.zero_mul, Nat.sub_zero, Nat.mul_comm h w] at this
    exact this
  · rw [if_neg e, if_neg e, if_pos rfl, f_P_Writer_tellSamples, gd_in hk (by decide), ck]
    have key : ∀ z : Nat, z = bs → j_P_Writer_tellSamples_16_3 wr b w9 sy (nI k) (nI z) = cF_P (smpT V w bs (w * h) 0) b w9 := by
      intro z hz
      subst hz
      rw [j_P_Writer_tellSamples_16_3]
      have := s_smp_y_P (wr := wr) (sy := sy) (V := V) (bs := z) (K := fun b1 w1 => some (b1, w1)) hk hw hh hwd hht hV 100000 0 0 b w9 (by rw [if_pos rfl]) (by omega) (by omega)
      rw [Nat.zero_mul, Nat.sub_zero] at this
      exact this.trans bd_some2
    rcases hb with ⟨b1, b2⟩ | ⟨b1, b2⟩
    · rw [if_pos b1]; exact key 0 b2.symm
    · rw [if_neg b1]; exact key 16 b2.symm
theorem tellExp_l_P {n : Nat} {s : Nat → Nat} {sy : Sy} {wr : Wr} (hn : n ≤ 40) (hN : Sy_n sy = nI n) (hs : ∀ i, i < n → s i < 2 ∧ ∃ k : Nat, k < 40 ∧ Wr_od wr i = nI k ∧ Sy_ex sy k = nI (s i)) : ∀ (m i c l : Nat) (b : Pb) (w : Br), c < 2 → l ≤ i → i ≤ n → n - i < m → l_P_Writer_tellExports_15 wr sy (fun b1 w1 x3 => bd (f_P_Bits_putNumber b1 w1 x3) <| fun (b2, w2) => some (b2, w2)) m b w (nI c) (nI l) (nI i) = cF_P (scT s (n - i) i c l) b w := by
  intro m
  induction m with
  | zero => intro i c l b w _ _ _ h; omega
  | succ m ih =>
    intro i c l b w hc hl h1 h2
    rw [l_P_Writer_tellExports_15, hN]
    by_cases e : i = n
    · subst e
      rw [if_pos (nI_le (Nat.le_refl i) (by omega)), Nat.sub_self, putNumber_P b w (show l < 511 by omega)]
      exact bd_some2
    · obtain ⟨s2, k, hk, k1, k2⟩ := hs i (by omega)
      rw [if_neg (nI_ge (by omega) (by omega)), gd_in (show i < 40 by omega) (by decide), nI_clamp (show i < 2 ^ 31 by omega), k1, gd_in hk (by decide), nI_clamp (show k < 2 ^ 31 by omega), k2, show n - i = (n - (i + 1)) + 1 by omega]
      show (if nI (s i) = nI c then _ else _) = cF_P (if s i = c then scT s (n - (i + 1)) (i + 1) c (l + 1) else numT l ++ scT s (n - (i + 1)) (i + 1) (1 - c) 1) b w
      by_cases e3 : s i = c
      · rw [if_pos e3, if_pos (congrArg nI e3)]
        have := ih (i + 1) c (l + 1) b w hc (by omega) (by omega) (by omega)
        rw [← nI_1 l, ← nI_1 i] at this
        exact this
      · rw [if_neg e3, if_neg (fun z => e3 ((nI_eq (by omega) (by omega)).mp z)), putNumber_P b w (show l < 511 by omega), cF_app_P]
        cases h3 : cF_P (numT l) b w with
        | none => rfl
        | some r =>
          have := ih (i + 1) (1 - c) 1 r.1 r.2 (by omega) (by omega) (by omega) (by omega)
          rw [← nI_1 i] at this
          have hc2 : c = 0 ∨ c = 1 := by omega
          obtain ⟨r1, r2⟩ := r
          rw [bd_s, bd_s]
          rcases hc2 with rfl | rfl
          · exact this
          · exact this
theorem cF_then_C {ts1 ts2 : List (Int32 × Int32)} {b : Cb} {w : Br} {ρ : Type} {f : Cb × Br → Option ρ} {K : Cb × Br → Option ρ} (h : ∀ b1 w1, f (b1, w1) = bd (cF_C ts2 b1 w1) K) : bd (cF_C ts1 b w) f = bd (cF_C (ts1 ++ ts2) b w) K := by
  rw [cF_app_C, bd_bd]
  cases h2 : cF_C ts1 b w with
  | none => rfl
  | some r => exact h r.1 r.2
theorem put1_C (b : Cb) (w : Br) (x : Int32) : f_C_ChanceBits_putBit b w x (-1) = cF_C [(x, -1)] b w := by
  show _ = bd (f_C_ChanceBits_putBit b w x (-1)) (fun (b1, w1) => some (b1, w1))
  rw [bd_some2]
theorem s_ord_C {wd ht : Nat → Nat} {n : Nat} {sy : Sy} {b : Cb} {w : Br} {K : Wr → Option (Wr × Cb × Br)} (hS : SzS sy n wd ht) : ∀ (m k : Nat) (wr : Wr), k ≤ n → n - k < m → (∀ j, j < k → Wr_od wr (rank wd ht n j) = nI j) → ∃ f : Nat → Int32, l_C_Writer_tell_2 b w sy K m wr (nI k) = K (Wr_s_od wr f) ∧ ∀ j, j < n → f (rank wd ht n j) = nI j := by
  have h40 := hS.2.1
  intro m
  induction m with
  | zero => intro k wr _ h; omega
  | succ m ih =>
    intro k wr h1 h2 hI
    rw [l_C_Writer_tell_2, hS.1]
    by_cases e : k = n
    · subst e
      rw [if_pos (nI_le (Nat.le_refl k) (by omega))]
      exact ⟨Wr_od wr, rfl, hI⟩
    · have hr := rank_lt_n (wd := wd) (ht := ht) (show k < n by omega)
      rw [if_neg (nI_ge (by omega) (by omega)), s_placeOf hS (by omega), bd_s, gd_in (show rank wd ht n k < 40 by omega) (by decide), nI_clamp (show rank wd ht n k < 2 ^ 31 by omega)]
      obtain ⟨f, e1, e2⟩ := ih (k + 1) (Wr_s_od wr (upd (Wr_od wr) (rank wd ht n k) (nI k))) (by omega) (by omega) (fun j hj => by
        show upd (Wr_od wr) (rank wd ht n k) (nI k) (rank wd ht n j) = nI j
        by_cases e5 : j = k
        · subst e5; exact pk_us
        · rw [pk_un (fun z => e5 (rank_inj (by omega) (by omega) z))]; exact hI j (by omega))
      rw [← nI_1 k] at e1
      exact ⟨f, e1, e2⟩
theorem tellSize_C {wd ht ord : Nat → Nat} {n i : Nat} {sy : Sy} {wr : Wr} {b : Cb} {w : Br} (hS : SzS sy n wd ht) (ho : ∀ i, i < n → ord i < n ∧ rank wd ht n (ord i) = i) (hW : ∀ i, i < n → Wr_od wr i = nI (ord i)) (hi : i < n) : f_C_Writer_tellSize wr b w sy (nI i) = cF_C (zzT ht ord n i ++ (hdT ht ord i ++ wdT wd ht ord i)) b w := by
  have h40 := hS.2.1
  obtain ⟨o1, o2⟩ := ho i hi
  obtain ⟨⟨a1, a2, a3⟩, c1, c2, c3⟩ := hS.2.2 (ord i) o1
  have co : (nI (ord i)).toNatClampNeg = ord i := nI_clamp (by omega)
  have ci : (nI i).toNatClampNeg = i := nI_clamp (by omega)
  have o4 : ord i < 40 := by omega
  have k98 : ∀ (b1 : Cb) (w1 : Br) (z : Nat), z ≤ wd (ord i) → j_C_Writer_tellSize_98_11 sy (nI (ord i)) b1 w1 (nI z) = cF_C ((1, -1) :: numT (wd (ord i) - z)) b1 w1 := by
    intro b1 w1 z hz
    rw [j_C_Writer_tellSize_98_11, co, a1, pk_sub hz, put1_C]
    refine Eq.trans (cF_then_C (ts2 := numT (wd (ord i) - z)) (K := fun r => some r) (fun b2 w2 => ?_)) bd_some1
    show gd (inb (nI (ord i)) 40) (bd (f_C_Bits_putNumber b2 w2 (nI (wd (ord i) - z))) _) = _
    rw [gd_in o4 (by decide), putNumber_C _ _ (by omega)]
  have k77 : ∀ (b1 : Cb) (w1 : Br) (z : Nat), z < ht (ord i) → j_C_Writer_tellSize_77_22 sy (nI (ord i)) (nI z) b1 w1 = cF_C (numT (ht (ord i) - z - 1) ++ ((1, -1) :: numT (wd (ord i) - 0))) b1 w1 := by
    intro b1 w1 z hz
    rw [j_C_Writer_tellSize_77_22, gd_in o4 (by decide), co, c1, pk_sub (by omega), show nI (ht (ord i) - z) - 1 = nI (ht (ord i) - z - 1) from pk_sub (b := 1) (by omega), putNumber_C _ _ (by omega)]
    refine Eq.trans (cF_then_C (ts2 := (1, -1) :: numT (wd (ord i) - 0)) (K := fun r => some r) (fun b2 w2 => ?_)) bd_some1
    exact (k98 b2 w2 0 (Nat.zero_le _)).trans bd_some1.symm
  rw [f_C_Writer_tellSize, gd_in (show i < 40 by omega) (by decide), ci, hW i hi]
  by_cases e0 : i = 0
  · subst e0
    have hz : zzT ht ord n 0 = [] := if_pos rfl
    have hh : hbO ht ord 0 = 0 := if_pos rfl
    have hd : hdT ht ord 0 = numT (ht (ord 0) - 0 - 1) := by unfold hdT; rw [hh, if_neg (by omega)]
    have hwT : wdT wd ht ord 0 = (1, -1) :: numT (wd (ord 0) - 0) := by unfold wdT wbO; rw [hh, if_neg (by omega)]
    rw [hz, hd, hwT, List.nil_append]
    rw [lt', if_pos (show nI 0 ≤ 0 by decide), j_C_Writer_tellSize_28_4, if_pos (show nI 0 ≤ 0 by decide), j_C_Writer_tellSize_51_6, gd_in o4 (by decide), co, c1, if_neg (nI_ne0 (by omega) (by omega)), if_pos (show nI 0 ≤ 0 by decide)]
    exact k77 b w 0 (by omega)
  · obtain ⟨j, rfl⟩ : ∃ j, i = j + 1 := ⟨i - 1, by omega⟩
    obtain ⟨p1, p2⟩ := ho j (by omega)
    obtain ⟨⟨d1, d2, d3⟩, f1, f2, f3⟩ := hS.2.2 (ord j) p1
    obtain ⟨l1, l2⟩ := ord_le ho hi
    have cp : (nI (ord j)).toNatClampNeg = ord j := nI_clamp (by omega)
    have cj : (nI j).toNatClampNeg = j := nI_clamp (by omega)
    have hnle : ¬ nI (j + 1) ≤ 0 := nI_nle (by omega) (by omega)
    have hh : hbO ht ord (j + 1) = ht (ord j) := if_neg (by omega)
    have hw' : hbO wd ord (j + 1) = wd (ord j) := if_neg (by omega)
    rw [lt', if_neg hnle, nI_pred, gd_in (show j < 40 by omega) (by decide), cj, hW j (by omega), gd_in (show ord j < 40 by omega) (by decide), cp, f1, j_C_Writer_tellSize_28_4, if_neg hnle, nI_pred, gd_in (show j < 40 by omega) (by decide), cj, hW j (by omega), gd_in (show ord j < 40 by omega) (by decide), cp, d1, j_C_Writer_tellSize_51_6, gd_in o4 (by decide), co, c1]
    by_cases e : ht (ord (j + 1)) = ht (ord j)
    · have hz : zzT ht ord n (j + 1) = [] := by unfold zzT; rw [if_neg (by omega), if_neg (by omega), hh, if_pos e]
      have hd : hdT ht ord (j + 1) = [] := by unfold hdT; rw [hh, if_pos e]
      have hwT : wdT wd ht ord (j + 1) = (1, -1) :: numT (wd (ord (j + 1)) - wd (ord j)) := by unfold wdT wbO; rw [hh, if_pos e, hw']
      rw [hz, hd, hwT, List.nil_append, List.nil_append, if_pos (congrArg nI e)]
      exact k98 b w _ (l2 e.symm)
    · have hz : zzT ht ord n (j + 1) = [(0, -1)] := by unfold zzT; rw [if_neg (by omega), if_neg (by omega), hh, if_neg e]
      have hd : hdT ht ord (j + 1) = numT (ht (ord (j + 1)) - ht (ord j) - 1) := by unfold hdT; rw [hh, if_neg e]
      have hwT : wdT wd ht ord (j + 1) = (1, -1) :: numT (wd (ord (j + 1)) - 0) := by unfold wdT wbO; rw [hh, if_neg e]
      rw [hz, hd, hwT, if_neg (fun z => e ((nI_eq (by omega) (by omega)).mp z)), if_neg hnle, put1_C]
      refine Eq.trans (cF_then_C (ts2 := numT (ht (ord (j + 1)) - ht (ord j) - 1) ++ ((1, -1) :: numT (wd (ord (j + 1)) - 0))) (K := fun r => some r) (fun b2 w2 => ?_)) bd_some1
      exact (k77 b2 w2 (ht (ord j)) (by omega)).trans bd_some1.symm
theorem tellBase_C {wd ht ord : Nat → Nat} {n i : Nat} {sy : Sy} {wr : Wr} {b : Cb} {w : Br} {q : Option (Nat × Nat × Nat)} (hS : SzS sy n wd ht) (o1 : ord i < n) (hW : Wr_od wr i = nI (ord i)) (hi : i < n) (hb : bsOf wd ht n (Sy_bs sy (ord i)) (Sy_dx sy (ord i)) (Sy_dy sy (ord i)) i q) : f_C_Writer_tellBase wr b w sy (nI i) = cF_C (bsT i q) b w := by
  have h40 := hS.2.1
  have co : (nI (ord i)).toNatClampNeg = ord i := nI_clamp (by omega)
  have ci : (nI i).toNatClampNeg = i := nI_clamp (by omega)
  have o4 : ord i < 40 := by omega
  rw [f_C_Writer_tellBase, gd_in (show i < 40 by omega) (by decide), ci, hW]
  show gd (inb (nI (ord i)) 40) _ = _
  rw [gd_in o4 (by decide), co]
  rcases hb with ⟨b1, b2⟩ | ⟨k, ax, ay, hkn, b1, b2, b3, b4, b5, b6, b7⟩
  · subst b2
    rw [b1, lt', if_pos rfl, put1_C]
    exact bd_some2
  · subst b7
    rw [b1, b5, b6, lt', if_neg (nI_m1 (by omega)), put1_C]
    refine Eq.trans (cF_then_C (ts2 := numT (i - rank wd ht n k - 1) ++ (bitsT ax 4 ++ bitsT ay 4)) (K := fun r => some r) (fun b2' w2 => ?_)) bd_some1
    show bd (f_Symbols_placeOf sy (nI k)) (fun r_9 => bd (f_C_Bits_putNumber b2' w2 ((nI i - r_9) - 1)) _) = _
    rw [s_placeOf hS hkn, bd_s, pk_sub (by omega), show nI (i - rank wd ht n k) - 1 = nI (i - rank wd ht n k - 1) from pk_sub (b := 1) (by omega), putNumber_C _ _ (by omega)]
    refine cF_then_C (fun b3' w3 => ?_)
    show gd (inb (nI (ord i)) 40) (bd (f_C_Bits_putBits b3' w3 (nI ax - 4 + 4) (nI 4)) _) = _
    rw [gd_in o4 (by decide), sh4, putBits_C _ _ (by omega) (by decide)]
    refine cF_then_C (fun b4' w4 => ?_)
    show gd (inb (nI (ord i)) 40) (bd (f_C_Bits_putBits b4' w4 (nI ay - 4 + 4) (nI 4)) _) = _
    rw [gd_in o4 (by decide), sh4, putBits_C _ _ (by omega) (by decide)]
theorem tellPlane_C {kd : Int32} {k w h bs : Nat} {V : Nat → Nat} {sy : Sy} {wr : Wr} {b : Cb} {w9 : Br} (hk : k < 40) (hw1 : 1 ≤ w) (hw : w ≤ 16) (hh1 : 1 ≤ h) (hh : h ≤ 16) (hwd : Sy_wd sy k = nI w) (hht : Sy_ht sy k = nI h) (hV : ∀ y, y < h → V y < 2 ^ w ∧ Wr_pl wr y = nI (V y)) (hb : (Sy_bs sy k = -1 ∧ bs = 0) ∨ (¬ Sy_bs sy k = -1 ∧ bs = 16)) : (if (if kd = 1 then (1 : Int32) else 0) = 0 then f_C_Writer_tellSamples wr b w9 sy (nI k) else f_C_Writer_tellRuns wr b w9 sy (nI k)) = cF_C (plT kd V w h bs) b w9 := by
  have ck : (nI k).toNatClampNeg = k := nI_clamp (by omega)
  unfold plT
  by_cases e : kd = 1
  · rw [if_pos e, if_pos e, if_neg i10, f_C_Writer_tellRuns]
    have := s_run_y_C (wr := wr) (sy := sy) (V := V) hk hw hh hwd hht hV 100000 0 0 0 b w9 (by decide) (by omega) (by omega) (by omega)
    rw [Nat.zero_mul, Nat.sub_zero, Nat.mul_comm h w] at this
    exact this
  · rw [if_neg e, if_neg e, if_pos rfl, f_C_Writer_tellSamples, gd_in hk (by decide), ck]
    have key : ∀ z : Nat, z = bs → j_C_Writer_tellSamples_16_3 wr b w9 sy (nI k) (nI z) = cF_C (smpT V w bs (w * h) 0) b w9 := by
      intro z hz
      subst hz
      rw [j_C_Writer_tellSamples_16_3]
      have := s_smp_y_C (wr := wr) (sy := sy) (V := V) (bs := z) (K := fun b1 w1 => some (b1, w1)) hk hw hh hwd hht hV 100000 0 0 b w9 (by rw [if_pos rfl]) (by omega) (by omega)
      rw [Nat.zero_mul, Nat.sub_zero] at this
      exact this.trans bd_some2
    rcases hb with ⟨b1, b2⟩ | ⟨b1, b2⟩
    · rw [if_pos b1]; exact key 0 b2.symm
    · rw [if_neg b1]; exact key 16 b2.symm
theorem tellExp_l_C {n : Nat} {s : Nat → Nat} {sy : Sy} {wr : Wr} (hn : n ≤ 40) (hN : Sy_n sy = nI n) (hs : ∀ i, i < n → s i < 2 ∧ ∃ k : Nat, k < 40 ∧ Wr_od wr i = nI k ∧ Sy_ex sy k = nI (s i)) : ∀ (m i c l : Nat) (b : Cb) (w : Br), c < 2 → l ≤ i → i ≤ n → n - i < m → l_C_Writer_tellExports_15 wr sy (fun b1 w1 x3 => bd (f_C_Bits_putNumber b1 w1 x3) <| fun (b2, w2) => some (b2, w2)) m b w (nI c) (nI l) (nI i) = cF_C (scT s (n - i) i c l) b w := by
  intro m
  induction m with
  | zero => intro i c l b w _ _ _ h; omega
  | succ m ih =>
    intro i c l b w hc hl h1 h2
    rw [l_C_Writer_tellExports_15, hN]
    by_cases e : i = n
    · subst e
      rw [if_pos (nI_le (Nat.le_refl i) (by omega)), Nat.sub_self, putNumber_C b w (show l < 511 by omega)]
      exact bd_some2
    · obtain ⟨s2, k, hk, k1, k2⟩ := hs i (by omega)
      rw [if_neg (nI_ge (by omega) (by omega)), gd_in (show i < 40 by omega) (by decide), nI_clamp (show i < 2 ^ 31 by omega), k1, gd_in hk (by decide), nI_clamp (show k < 2 ^ 31 by omega), k2, show n - i = (n - (i + 1)) + 1 by omega]
      show (if nI (s i) = nI c then _ else _) = cF_C (if s i = c then scT s (n - (i + 1)) (i + 1) c (l + 1) else numT l ++ scT s (n - (i + 1)) (i + 1) (1 - c) 1) b w
      by_cases e3 : s i = c
      · rw [if_pos e3, if_pos (congrArg nI e3)]
        have := ih (i + 1) c (l + 1) b w hc (by omega) (by omega) (by omega)
        rw [← nI_1 l, ← nI_1 i] at this
        exact this
      · rw [if_neg e3, if_neg (fun z => e3 ((nI_eq (by omega) (by omega)).mp z)), putNumber_C b w (show l < 511 by omega), cF_app_C]
        cases h3 : cF_C (numT l) b w with
        | none => rfl
        | some r =>
          have := ih (i + 1) (1 - c) 1 r.1 r.2 (by omega) (by omega) (by omega) (by omega)
          rw [← nI_1 i] at this
          have hc2 : c = 0 ∨ c = 1 := by omega
          obtain ⟨r1, r2⟩ := r
          rw [bd_s, bd_s]
          rcases hc2 with rfl | rfl
          · exact this
          · exact this
