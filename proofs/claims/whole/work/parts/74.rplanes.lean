/-! Reading planes -/
/-- the class's symbols below n are the same -/
def Ss (n : Nat) (sy sy' : Sy) : Prop := Sy_wd sy' = Sy_wd sy ∧ Sy_ht sy' = Sy_ht sy ∧ Sy_bs sy' = Sy_bs sy ∧ Sy_dx sy' = Sy_dx sy ∧ Sy_dy sy' = Sy_dy sy ∧ ∀ j, j < 16 * n → Sy_rw sy' j = Sy_rw sy j
/-- the reference's, from o -/
def Sr (o n : Nat) (mo mo' : Mo) : Prop := Mo_wd mo' = Mo_wd mo ∧ Mo_ht mo' = Mo_ht mo ∧ Mo_dx mo' = Mo_dx mo ∧ Mo_dy mo' = Mo_dy mo ∧ ∀ j, j < 16 * (n + o) → Mo_rw mo' j = Mo_rw mo j
theorem fore_rd {o : Nat} {sy : Sy} {mo : Mo} {n : Nat} {wd ht : Nat → Nat} {k w ax ay : Nat} {B : Int32} (hD : Dc o sy mo n wd ht) (ho : o ≤ 40) (hk : k < 40) (hw : w ≤ 16) (e4 : Sy_wd sy k = nI w) (hb : (Sy_bs sy k = -1 ∧ B = -1) ∨ ∃ b, b < n ∧ Sy_bs sy k = nI b ∧ B = nI (b + o)) (hax : ax ≤ 8) (hay : ay ≤ 8) (x1 : Sy_dx sy k = nI ax - 4) (x2 : Mo_dx mo (k + o) = nI ax - 4) (y1 : Sy_dy sy k = nI ay - 4) (y2 : Mo_dy mo (k + o) = nI ay - 4) :
    ∃ F : Nat → Nat, (∀ y, F y < 2 ^ w) ∧ (∀ sy', Ss n sy sy' → ∀ y, y < 16 → f_Symbols_foretoldRow sy' (nI k) (nI y) = some (nI (F y))) ∧ ∀ mo' : Mo, Sr o n mo mo' → ∀ x y, x < w → y < 16 → f_Model_under mo' (nI (k + o)) B (nI x) (nI y) = some (nI (F y / 2 ^ x % 2)) := by
  have h40 := hD.1
  rcases hb with ⟨b1, b2⟩ | ⟨b, hb, b1, b2⟩
  · refine ⟨fun _ => 0, fun y => Nat.two_pow_pos w, fun sy' hS y hy => ?_, fun mo' _ x y hx hy => ?_⟩
    · rw [f_Symbols_foretoldRow, gd_in hk (by decide), nI_clamp (show k < 2 ^ 31 by omega), hS.2.2.1, b1, lt', if_pos rfl]
      rfl
    · subst b2
      rw [f_Model_under, if_neg (by decide), Nat.zero_div]
      rfl
  · obtain ⟨R, hR⟩ := Rw_of hD
    obtain ⟨⟨p1, p2, p3, p4⟩, ⟨q1, q2, q3, q4⟩, -⟩ := hD.2 b hb
    refine ⟨FT w (ht b) (R b) ax ay, fun y => FT_lt _ _ _ _ _ _, fun sy' hS y hy => ?_, fun mo' hS x y hx hy => ?_⟩
    · obtain ⟨s1, s2, s3, s4, s5, s6⟩ := hS
      exact s_fore (b := b) (hb := ht b) (Rb := R b) hk hy (by omega) hax hay (by rw [s3]; exact b1) (by rw [s4]; exact x1) (by rw [s5]; exact y1) (by rw [s1]; exact e4) hw (by rw [s2]; exact q1) q4 (fun y hy => ⟨pow16 p4 (hR b hb y hy).1, by rw [s6 _ (by omega)]; exact (hR b hb y hy).2.1⟩)
    · subst b2
      obtain ⟨s1, s2, s5, s6, s3⟩ := hS
      exact m_under (wb := wd b) (by omega) (by omega) hax hay hx hw hy (by rw [s5]; exact x2) (by rw [s6]; exact y2) (by rw [s1]; exact p2) p4 (by rw [s2]; exact q2) q4 (fun y hy => ⟨(hR b hb y hy).1, by rw [s3 _ (by omega)]; exact (hR b hb y hy).2.2⟩)
theorem mT_chain {mo mo' : Mo} {c r : Int32} (hc : ¬ c = -1) (h : mT mo c = some (r, mo')) : ∃ (ch : Int32) (mo1 : Mo), f_Model_chanceOf mo c = some ch ∧ f_Model_take mo ch = some (r, mo1) ∧ f_Model_learn mo1 c r = some mo' := by
  rw [mT, if_neg hc] at h
  obtain ⟨ch, h1, h⟩ := bd_ex h
  obtain ⟨⟨r1, mo1⟩, h2, h⟩ := bd_ex h
  obtain ⟨mo2, h3, h⟩ := bd_ex h
  cases h
  exact ⟨ch, mo1, h1, h2, h3⟩
theorem or_pow {r x β : Nat} (hr : r < 2 ^ x) (hx : x < 16) (hβ : β < 2) : nI r ||| (nI β <<< (nI x &&& 31)) = nI (r + β * 2 ^ x) ∧ r + β * 2 ^ x < 2 ^ (x + 1) := by
  have p : 2 ^ x ≤ 2 ^ 15 := Nat.pow_le_pow_right (by decide) (by omega)
  have p5 : β * 2 ^ x < 2 ^ 32 := by
    have := Nat.mul_le_mul (Nat.le_of_lt hβ) p
    omega
  have h2 := Nat.two_pow_add_eq_or_of_lt hr β
  constructor
  · rw [n_shl (by omega) p5, nx_or, Nat.or_comm, show β * 2 ^ x = 2 ^ x * β from Nat.mul_comm _ _, ← h2, Nat.add_comm]
  · have : β * 2 ^ x ≤ 1 * 2 ^ x := Nat.mul_le_mul_right _ (by omega)
    rw [Nat.pow_succ]
    omega
/-- rows made white -/
theorem m_clear_l {K k : Nat} {x2 x3 x4 : Int32} {K2 : Mo → Option Mo} (hK : K < 80) : ∀ (m y : Nat) (mo : Mo), y ≤ 16 → 16 - y < m → ∃ f : Nat → Int32, l_Model_readPlane_236 (nI K) x2 x3 x4 K2 m mo (nI y) = K2 (Mo_s_rw mo f) ∧ (∀ y', y ≤ y' → y' < 16 → f (16 * K + y') = 0) ∧ ∀ j, (j < 16 * K + y ∨ 16 * K + 16 ≤ j) → f j = Mo_rw mo j := by
  intro m
  induction m with
  | zero => intro y mo _ h; omega
  | succ m ih =>
    intro y mo h1 h2
    rw [l_Model_readPlane_236]
    by_cases e : y = 16
    · subst e
      rw [if_pos (show (16 : Int32) ≤ nI 16 from nI_le (Nat.le_refl 16) (by decide))]
      exact ⟨Mo_rw mo, rfl, fun y' a b => by omega, fun j _ => rfl⟩
    · rw [if_neg (show ¬ (16 : Int32) ≤ nI y from nI_ge (b := 16) (by omega) (by decide)), rixM, gd_in (show 16 * K + y < 1280 by omega) (by decide), nI_clamp (show 16 * K + y < 2 ^ 31 by omega)]
      obtain ⟨f', e1, e2, e3⟩ := ih (y + 1) (Mo_s_rw mo (upd (Mo_rw mo) (16 * K + y) 0)) (by omega) (by omega)
      rw [← nI_1 y] at e1
      refine ⟨f', e1, fun y' a b => ?_, fun j hj => ?_⟩
      · by_cases e5 : y' = y
        · subst e5
          rw [e3 (16 * K + y') (by omega)]
          exact pk_us
        · exact e2 y' (by omega) b
      · rw [e3 j (by omega)]
        exact pk_un (by omega)
/-- how much of row y is there after i samples -/
def prt (U : Nat → Nat) (w i y : Nat) : Nat := U y % 2 ^ (min (i - y * w) w)
theorem prt_step {U : Nat → Nat} {w i y : Nat} (hw : 0 < w) : (y = i / w → prt U w i y = U y % 2 ^ (i % w) ∧ prt U w (i + 1) y = U y % 2 ^ (i % w + 1)) ∧ (y ≠ i / w → prt U w (i + 1) y = prt U w i y) := by
  have hd := Nat.div_add_mod i w
  have hm := Nat.mod_lt i hw
  constructor
  · intro e
    subst e
    unfold prt
    rw [Nat.mul_comm (i / w) w, show min (i - w * (i / w)) w = i % w by omega, show min (i + 1 - w * (i / w)) w = i % w + 1 by omega]
    exact ⟨rfl, rfl⟩
  · intro e
    unfold prt
    have hlt : y < i / w ∨ i / w < y := by omega
    rcases hlt with h | h
    · have h1 : (y + 1) * w ≤ i / w * w := Nat.mul_le_mul_right w h
      rw [Nat.succ_mul, Nat.mul_comm (i / w) w] at h1
      rw [show min (i + 1 - y * w) w = min (i - y * w) w by omega]
    · have h1 : (i / w + 1) * w ≤ y * w := Nat.mul_le_mul_right w h
      rw [Nat.succ_mul, Nat.mul_comm (i / w) w] at h1
      rw [show i + 1 - y * w = 0 by omega, show i - y * w = 0 by omega]
/-- the rows out of the plane and what is foretold -/
theorem m_rows_l {K w h : Nat} {B : Int32} {V F : Nat → Nat} {K2 : Mo → Option Mo} {mo0 : Mo} {o n : Nat} (hK : K < 80) (hKn : n + o ≤ K) (hw : w ≤ 16) (hh : h ≤ 16) (hV : ∀ y, y < h → V y < 2 ^ w) (hF : ∀ y, F y < 2 ^ w) (hu : ∀ mo' : Mo, Sr o n mo0 mo' → ∀ x y, x < w → y < 16 → f_Model_under mo' (nI K) B (nI x) (nI y) = some (nI (F y / 2 ^ x % 2))) : ∀ (m i : Nat) (mo : Mo), Sr o n mo0 mo → PlM mo V h → (∀ y, y < h → Mo_rw mo (16 * K + y) = nI (prt (fun y => V y ^^^ F y) w i y)) → i ≤ w * h → w * h - i < m → ∃ f : Nat → Int32, l_Model_readPlane_265 (nI K) B (nI w) (nI (w * h)) K2 m mo (nI i) = K2 (Mo_s_rw mo f) ∧ (∀ y, y < h → f (16 * K + y) = nI (V y ^^^ F y)) ∧ ∀ j, (j < 16 * K ∨ 16 * K + h ≤ j) → f j = Mo_rw mo j := by
  have hwh : w * h ≤ 256 := Nat.mul_le_mul hw hh
  intro m
  induction m with
  | zero => intro i mo _ _ _ _ h; omega
  | succ m ih =>
    intro i mo hS hP hr h1 h2
    rw [l_Model_readPlane_265]
    by_cases e : i = w * h
    · rw [e, if_pos (nI_le (Nat.le_refl _) (by omega))]
      refine ⟨Mo_rw mo, rfl, fun y hy => ?_, fun j _ => rfl⟩
      rw [hr y hy, e]
      have h3 : (y + 1) * w ≤ h * w := Nat.mul_le_mul_right w hy
      rw [Nat.succ_mul, Nat.mul_comm h w] at h3
      unfold prt
      rw [show min (w * h - y * w) w = w by omega, Nat.mod_eq_of_lt (Nat.xor_lt_two_pow (hV y hy) (hF y))]
    · obtain ⟨q1, q2, q3⟩ := i_lt_h (show i < w * h by omega)
      have hq0 := Nat.zero_le (i / w)
      have hd : decide (¬ nI w = 0) = true := decide_eq_true (nI_ne0 q3 (by omega))
      have hrow2 := pow16 hw (hV _ q1)
      have st := prt_step (U := fun y => V y ^^^ F y) (i := i) (y := i / w) q3
      obtain ⟨st1, st2⟩ := st.1 rfl
      rw [if_neg (nI_ge (by omega) (by omega)), gd_t hd]
      show ∃ f, gd (decide (¬ nI w = 0)) (gd (inb (16 * nI K + nI i / nI w) 1280) (bd (f_Model_planeAt mo (nI i - nI i / nI w * nI w) (nI i / nI w) (nI w)) (fun r_75 => bd (f_Model_under mo (nI K) B (nI i - nI i / nI w * nI w) (nI i / nI w)) (fun r_76 => gd (inb (16 * nI K + nI i / nI w) 1280) (l_Model_readPlane_265 (nI K) B (nI w) (nI (w * h)) K2 m (Mo_s_rw mo (upd (Mo_rw mo) (16 * nI K + nI i / nI w).toNatClampNeg (Mo_rw mo (16 * nI K + nI i / nI w).toNatClampNeg ||| ((r_75 ^^^ r_76) <<< ((nI i - nI i / nI w * nI w) &&& 31))))) (nI i + 1)))))) = K2 (Mo_s_rw mo f) ∧ _
      rw [gd_t hd, pk_rem (by omega) q3 (by omega), pk_div (by omega) q3 (by omega), rixM, gd_in (show 16 * K + i / w < 1280 by omega) (by decide), m_planeAt q2 hw (by omega) hrow2 (hP _ q1), bd_s, hu mo hS _ _ q2 (by omega), bd_s, gd_in (show 16 * K + i / w < 1280 by omega) (by decide), nI_clamp (show 16 * K + i / w < 2 ^ 31 by omega), hr _ q1, st1, nx_xor, xor_bit, or_bit (by omega), ← st2]
      obtain ⟨s1, s2, s3, s4, s5⟩ := hS
      obtain ⟨f, f1, f2, f3⟩ := ih (i + 1) (Mo_s_rw mo (upd (Mo_rw mo) (16 * K + i / w) (nI (prt (fun y => V y ^^^ F y) w (i + 1) (i / w))))) ⟨s1, s2, s3, s4, fun j hj => by
        show upd (Mo_rw mo) (16 * K + i / w) _ j = _
        rw [pk_un (by omega)]; exact s5 j hj⟩ hP (fun y hy => by
        show upd (Mo_rw mo) (16 * K + i / w) (nI (prt (fun y => V y ^^^ F y) w (i + 1) (i / w))) (16 * K + y) = _
        by_cases e5 : y = i / w
        · subst e5; exact pk_us
        · rw [pk_un (by omega), hr y hy, (prt_step (U := fun y => V y ^^^ F y) (i := i) (y := y) q3).2 e5]) (by omega) (by omega)
      rw [← nI_1 i] at f1
      refine ⟨f, f1, f2, fun j hj => ?_⟩
      rw [f3 j hj]
      exact pk_un (by omega)
/-- the last two loops of a plane that is read -/
theorem m_rows {K w h : Nat} {B : Int32} {V F : Nat → Nat} {mo : Mo} {o n : Nat} (hK : K < 80) (hKn : n + o ≤ K) (hw : w ≤ 16) (hh : h ≤ 16) (hV : ∀ y, y < h → V y < 2 ^ w) (hF : ∀ y, F y < 2 ^ w) (hu : ∀ mo' : Mo, Sr o n mo mo' → ∀ x y, x < w → y < 16 → f_Model_under mo' (nI K) B (nI x) (nI y) = some (nI (F y / 2 ^ x % 2))) (hP : PlM mo V h) : ∃ f : Nat → Int32, l_Model_readPlane_236 (nI K) B (nI w) (nI (w * h)) (fun mo_67 => l_Model_readPlane_265 (nI K) B (nI w) (nI (w * h)) (fun mo_81 => some mo_81) 100000 mo_67 0) 100000 mo 0 = some (Mo_s_rw mo f) ∧ (∀ y, y < h → f (16 * K + y) = nI (V y ^^^ F y)) ∧ (∀ y, h ≤ y → y < 16 → f (16 * K + y) = 0) ∧ ∀ j, j < 16 * K → f j = Mo_rw mo j := by
  have hwh : w * h ≤ 256 := Nat.mul_le_mul hw hh
  obtain ⟨g, g1, g2, g3⟩ := m_clear_l (k := 0) (x2 := B) (x3 := nI w) (x4 := nI (w * h)) (K2 := fun mo_67 => l_Model_readPlane_265 (nI K) B (nI w) (nI (w * h)) (fun mo_81 => some mo_81) 100000 mo_67 0) hK 100000 0 mo (by omega) (by omega)
  obtain ⟨f, f1, f2, f3⟩ := m_rows_l (K2 := fun mo_81 => some mo_81) (mo0 := mo) (V := V) (F := F) hK hKn hw hh hV hF hu 100000 0 (Mo_s_rw mo g) ⟨rfl, rfl, rfl, rfl, fun j hj => g3 j (by omega)⟩ hP (fun y hy => by
    show g (16 * K + y) = _
    rw [g2 y (Nat.zero_le _) (by omega)]
    unfold prt
    rw [Nat.zero_sub, Nat.zero_min, Nat.pow_zero, Nat.mod_one]
    rfl) (Nat.zero_le _) (by omega)
  refine ⟨f, Eq.trans g1 f1, f2, fun y h1 h2 => ?_, fun j hj => ?_⟩
  · rw [f3 _ (by omega)]; exact g2 y (Nat.zero_le _) h2
  · rw [f3 j (by omega)]; exact g3 j (by omega)
theorem m_pl0_l {x1 x2 x3 x4 : Int32} {K2 : Mo → Option Mo} : ∀ (m y : Nat) (mo : Mo), y ≤ 16 → 16 - y < m → ∃ f : Nat → Int32, l_Model_readPlane_20 x1 x2 x3 x4 K2 m mo (nI y) = K2 (Mo_s_pl mo f) ∧ (∀ y', y ≤ y' → y' < 16 → f y' = 0) ∧ ∀ j, j < y → f j = Mo_pl mo j := by
  intro m
  induction m with
  | zero => intro y mo _ h; omega
  | succ m ih =>
    intro y mo h1 h2
    rw [l_Model_readPlane_20]
    by_cases e : y = 16
    · subst e
      rw [if_pos (show (16 : Int32) ≤ nI 16 from nI_le (Nat.le_refl 16) (by decide))]
      exact ⟨Mo_pl mo, rfl, fun y' a b => by omega, fun j _ => rfl⟩
    · rw [if_neg (show ¬ (16 : Int32) ≤ nI y from nI_ge (b := 16) (by omega) (by decide)), gd_in (show y < 16 by omega) (by decide), nI_clamp (show y < 2 ^ 31 by omega)]
      obtain ⟨f', e1, e2, e3⟩ := ih (y + 1) (Mo_s_pl mo (upd (Mo_pl mo) y 0)) (by omega) (by omega)
      rw [← nI_1 y] at e1
      refine ⟨f', e1, fun y' a b => ?_, fun j hj => ?_⟩
      · by_cases e5 : y' = y
        · subst e5; rw [e3 y' (by omega)]; exact pk_us
        · exact e2 y' (by omega) b
      · rw [e3 j (by omega)]; exact pk_un (by omega)
theorem rs_x_P {rd : Rd} {sy : Sy} {k wk h y bs ab m Kx : Nat} {Bx : Int32} {K1 : Pb → Br → Int32 → Option (Pb × Br × Sy)} {K2 : Mo → Option Mo} (hk : k < 40) (hw : wk ≤ 16) (hh : h ≤ 16) (hy : y < h) (hwd : Sy_wd sy k = nI wk) (hbs : bs ≤ 16) (hab : ab < 2 ^ wk) (hB : (Bx < 0 ∧ bs = 0) ∨ (¬ Bx < 0 ∧ bs = 16)) : ∀ (d x row a f1 f2 : Nat) (b : Pb) (v : Br) (mo : Mo), x + d = wk → d < f1 → RcP b v mo m a → a + 4 * d + 8 < 2 ^ 30 → row < 2 ^ x → Mo_pl mo y = nI row → abOf mo y ab → ∃ (row' a' : Nat) (b' : Pb) (v' : Br) (mo' : Mo) (pl : Nat → Int32), l_P_Reader_takeSamples_40 rd sy (nI k) (nI bs) (nI ab) (nI y) K1 f1 b v (nI row) (nI x) = K1 b' v' (nI row') ∧ l_Model_readPlane_157 (nI Kx) Bx (nI wk) (nI (wk * h)) K2 (f2 + d) mo (nI (y * wk + x)) = l_Model_readPlane_157 (nI Kx) Bx (nI wk) (nI (wk * h)) K2 f2 mo' (nI (y * wk + wk)) ∧ RcP b' v' mo' m a' ∧ row' < 2 ^ wk ∧ a ≤ a' ∧ a' ≤ a + 4 * d ∧ Tm (Mo_s_pl mo pl) mo' ∧ pl y = nI row' ∧ (∀ j, j ≠ y → pl j = Mo_pl mo j) ∧ Br_byL v' = Br_byL v := by
  have ck : (nI k).toNatClampNeg = k := nI_clamp (by omega)
  have hwh : wk * h ≤ 256 := Nat.mul_le_mul hw hh
  have ha2 := pow16 hw hab
  intro d
  induction d with
  | zero =>
    intro x row a f1 f2 b v mo hx hf hR _ hrow hp _
    obtain ⟨f, rfl⟩ : ∃ f, f1 = f + 1 := ⟨f1 - 1, by omega⟩
    have e : x = wk := by omega
    subst e
    refine ⟨row, a, b, v, mo, Mo_pl mo, ?_, rfl, hR, hrow, Nat.le_refl a, by omega, Tm.refl mo, hp, fun j _ => rfl, rfl⟩
    rw [l_P_Reader_takeSamples_40, gd_in hk (by decide), ck, hwd, if_pos (nI_le (Nat.le_refl x) (by omega))]
  | succ d ih =>
    intro x row a f1 f2 b v mo hx hf hR ha hrow hp hab2
    obtain ⟨f, rfl⟩ : ∃ f, f1 = f + 1 := ⟨f1 - 1, by omega⟩
    have hrw : row < 2 ^ wk := Nat.lt_of_lt_of_le hrow (Nat.pow_le_pow_right (by decide) (by omega))
    have hr2 := pow16 hw hrw
    obtain ⟨d1, d2⟩ := div_at (w := wk) (y := y) (show x < wk by omega)
    have hlt := ctxN_lt (row := row) (ab := ab) (x := x) hbs
    obtain ⟨r, b1, v1, mo1, a1, t1, t2, t3, t4, t5, t6, t7, t8⟩ := takeP (c := nI (ctxN bs row ab x)) hR (by omega) (Or.inr ⟨_, hlt, rfl⟩)
    obtain ⟨ch, mo9, c1, c2, c3⟩ := mT_chain (nI_m1 (by omega)) t2
    obtain ⟨β, hβ, rfl⟩ := b01 t4
    obtain ⟨o1, o2⟩ := or_pow hrow (show x < 16 by omega) hβ
    have ha1 : a ≤ a1 := Nat.le_of_lt t8.1
    have hp1 : Mo_pl mo1 = Mo_pl mo := by obtain ⟨_, _, _, _, _, rfl⟩ := t5; rfl
    have hR2 : RcP b1 v1 (Mo_s_pl mo1 (upd (Mo_pl mo1) y (nI (row + β * 2 ^ x)))) m a1 := t3
    obtain ⟨row', a', b', v', mo', pl, q1, q2, q3, q4, q5, q6, q7, q8, q9, q10⟩ := ih (x + 1) (row + β * 2 ^ x) a1 f f2 b1 v1 (Mo_s_pl mo1 (upd (Mo_pl mo1) y (nI (row + β * 2 ^ x)))) (by omega) (by omega) hR2 (by omega) o2 pk_us (by
      rcases hab2 with ⟨h1, h2⟩ | ⟨y', h1, h2⟩
      · exact Or.inl ⟨h1, h2⟩
      · refine Or.inr ⟨y', h1, ?_⟩
        show upd (Mo_pl mo1) y _ y' = _
        rw [pk_un (by omega), hp1]
        exact h2)
    refine ⟨row', a', b', v', mo', pl, ?_, ?_, q3, q4, by omega, by omega, ?_, q8, fun j hj => ?_, q10.trans t6⟩
    · rw [l_P_Reader_takeSamples_40, gd_in hk (by decide), ck, hwd, if_neg (nI_ge (by omega) (by omega)), s_ctx hr2 ha2 (by omega), bd_s, t1, bd_s]
      show l_P_Reader_takeSamples_40 rd sy (nI k) (nI bs) (nI ab) (nI y) K1 f b1 v1 (nI row ||| (nI β <<< (nI x &&& 31))) (nI x + 1) = _
      rw [o1, nI_1]
      exact q1
    · have hi : y * wk + x < wk * h := by
        have : (y + 1) * wk ≤ h * wk := Nat.mul_le_mul_right wk hy
        rw [Nat.succ_mul, Nat.mul_comm h wk] at this
        omega
      have hw0 : 0 < wk := by omega
      have hd : decide (¬ nI wk = 0) = true := decide_eq_true (nI_ne0 hw0 (by omega))
      have hctx := m_ctx (mo := mo) (b := bs) (show x < wk by omega) hw (show y < 16 by omega) hrw hab hp hab2
      have key : ∀ z : Int32, f_Model_context mo (nI x) (nI y) (nI wk) z = some (nI (ctxN bs row ab x)) → j_Model_readPlane_183_46 mo (nI wk) (nI (y * wk + x)) (l_Model_readPlane_157 (nI Kx) Bx (nI wk) (nI (wk * h)) K2 (f2 + d)) z = l_Model_readPlane_157 (nI Kx) Bx (nI wk) (nI (wk * h)) K2 f2 mo' (nI (y * wk + wk)) := by
        intro z hz
        rw [j_Model_readPlane_183_46, pk_rem (by omega) hw0 (by omega), pk_div (by omega) hw0 (by omega), d1, d2, hz, bd_s, c1, bd_s, c2, bd_s]
        show bd (f_Model_learn mo9 (nI (ctxN bs row ab x)) (nI β)) _ = _
        rw [c3, bd_s, gd_t hd, gd_in (show y < 16 by omega) (by decide), gd_t hd, gd_in (show y < 16 by omega) (by decide), nI_clamp (show y < 2 ^ 31 by omega), hp1, hp, o1, nI_1]
        rw [hp1] at q2
        exact q2
      show l_Model_readPlane_157 (nI Kx) Bx (nI wk) (nI (wk * h)) K2 ((f2 + d) + 1) mo (nI (y * wk + x)) = _
      rw [l_Model_readPlane_157, if_neg (nI_ge hi (by omega)), gd_t hd, gd_t hd]
      rcases hB with ⟨b1', b2'⟩ | ⟨b1', b2'⟩
      · rw [if_pos b1']
        refine key 0 ?_
        rw [f_Model_context, if_pos rfl]
        subst b2'
        exact hctx
      · rw [if_neg b1']
        refine key 1 ?_
        rw [f_Model_context, if_neg i10]
        subst b2'
        exact hctx
    · rw [pl_pl] at q7
      exact Tm_pl t5 q7
    · rw [q9 j hj]
      show upd (Mo_pl mo1) y _ j = _
      rw [pk_un hj, hp1]
theorem rs_y_P {rd : Rd} {k wk h bs m Kx n : Nat} {Bx : Int32} {F : Nat → Nat} {sy0 : Sy} {K1 : Pb → Br → Sy → Option (Pb × Br × Sy)} {K2 : Mo → Option Mo} (hk : k < 40) (hnk : n ≤ k) (hw1 : 1 ≤ wk) (hw : wk ≤ 16) (hh : h ≤ 16) (hwd : Sy_wd sy0 k = nI wk) (hht : Sy_ht sy0 k = nI h) (hbs : bs ≤ 16) (hB : (Bx < 0 ∧ bs = 0) ∨ (¬ Bx < 0 ∧ bs = 16)) (hF : ∀ y, F y < 2 ^ wk) (hFs : ∀ sy', Ss n sy0 sy' → ∀ y, y < 16 → f_Symbols_foretoldRow sy' (nI k) (nI y) = some (nI (F y))) : ∀ (d y ab a f1 f2 : Nat) (b : Pb) (v : Br) (sy : Sy) (mo : Mo), y + d = h → d < f1 → Ss n sy0 sy → RcP b v mo m a → a + 64 * d + 16 < 2 ^ 30 → (∀ j, y ≤ j → j < 16 → Mo_pl mo j = 0) → ab < 2 ^ wk → abOf mo y ab → ∃ (V : Nat → Nat) (a' : Nat) (b' : Pb) (v' : Br) (g : Nat → Int32) (mo' : Mo) (pl : Nat → Int32), l_P_Reader_takeSamples_23 rd (nI k) (nI bs) K1 f1 b v sy (nI ab) (nI y) = K1 b' v' (Sy_s_rw sy g) ∧ l_Model_readPlane_157 (nI Kx) Bx (nI wk) (nI (wk * h)) K2 (f2 + wk * d) mo (nI (y * wk)) = l_Model_readPlane_157 (nI Kx) Bx (nI wk) (nI (wk * h)) K2 f2 mo' (nI (h * wk)) ∧ RcP b' v' mo' m a' ∧ (∀ j, y ≤ j → j < h → V j < 2 ^ wk ∧ pl j = nI (V j) ∧ g (16 * k + j) = nI (V j ^^^ F j)) ∧ (∀ j, j < y → pl j = Mo_pl mo j) ∧ (∀ j, j < 16 * k + y → g j = Sy_rw sy j) ∧ a ≤ a' ∧ a' ≤ a + 64 * d ∧ Tm (Mo_s_pl mo pl) mo' ∧ Br_byL v' = Br_byL v := by
  have ck : (nI k).toNatClampNeg = k := nI_clamp (by omega)
  intro d
  induction d with
  | zero =>
    intro y ab a f1 f2 b v sy mo hy hf hS hR _ _ _ _
    obtain ⟨f, rfl⟩ : ∃ f, f1 = f + 1 := ⟨f1 - 1, by omega⟩
    have e : y = h := by omega
    subst e
    refine ⟨fun _ => 0, a, b, v, Sy_rw sy, mo, Mo_pl mo, ?_, rfl, hR, fun j p q => by omega, fun j _ => rfl, fun j _ => rfl, Nat.le_refl a, by omega, Tm.refl mo, rfl⟩
    rw [l_P_Reader_takeSamples_23, gd_in hk (by decide), ck, hS.2.1, hht, if_pos (nI_le (Nat.le_refl y) (by omega))]
  | succ d ih =>
    intro y ab a f1 f2 b v sy mo hy hf hS hR ha hz hab hab2
    obtain ⟨f, rfl⟩ : ∃ f, f1 = f + 1 := ⟨f1 - 1, by omega⟩
    have hwd' : Sy_wd sy k = nI wk := by rw [hS.1]; exact hwd
    obtain ⟨row, a1, b1, v1, mo1, pl1, q1, q2, q3, q4, q5, q6, q7, q8, q9, q10⟩ := rs_x_P (rd := rd) (sy := sy) (Kx := Kx) (Bx := Bx) (K1 := fun pb_20 v_21 x6_22 => bd (f_Symbols_foretoldRow sy (nI k) (nI y)) <| fun r_23 => bd (f_Symbols_setRow sy (nI k) (nI y) (x6_22 ^^^ r_23)) <| fun (r_24, sy_25) => lt' (nI y + 1) <| fun x5_26 => (l_P_Reader_takeSamples_23 rd (nI k) (nI bs) K1 f) pb_20 v_21 sy_25 x6_22 x5_26) (K2 := K2) hk hw hh (show y < h by omega) hwd' hbs hab hB wk 0 0 a 100000 (f2 + wk * d) b v mo (by omega) (by omega) hR (by omega) (by decide) (hz y (Nat.le_refl y) (by omega)) hab2
    have hx : row ^^^ F y < 2 ^ wk := Nat.xor_lt_two_pow q4 (hF y)
    have hx2 := pow16 hw hx
    have hset : f_Symbols_setRow sy (nI k) (nI y) (nI row ^^^ nI (F y)) = some (nI (pop (row ^^^ F y) 16), Sy_s_rw sy (upd (Sy_rw sy) (16 * k + y) (nI (row ^^^ F y)))) := by
      rw [nx_xor, s_setRow _ hwd' hw hk (by omega), pk_tn (by omega), Nat.mod_eq_of_lt hx]
    have hp1 : Mo_pl mo1 = pl1 := by obtain ⟨_, _, _, _, _, rfl⟩ := q7; rfl
    obtain ⟨s1, s2, s3, s4, s5, s6⟩ := hS
    obtain ⟨V, a', b', v', g, mo', pl, r1, r2, r3, r4, r5, r6, r7, r8, r9, r10⟩ := ih (y + 1) row a1 f f2 b1 v1 (Sy_s_rw sy (upd (Sy_rw sy) (16 * k + y) (nI (row ^^^ F y)))) mo1 (by omega) (by omega) ⟨s1, s2, s3, s4, s5, fun j hj => by
      show upd (Sy_rw sy) (16 * k + y) _ j = _
      rw [pk_un (by omega)]; exact s6 j hj⟩ q3 (by omega) (fun j p1 p2 => by rw [hp1, q9 j (by omega)]; exact hz j (by omega) p2) q4 (Or.inr ⟨y, rfl, by rw [hp1]; exact q8⟩)
    rw [← nI_1 y] at r1
    refine ⟨fun j => if j = y then row else V j, a', b', v', g, mo', pl, ?_, ?_, r3, fun j p1 p2 => ?_, fun j hj => ?_, fun j hj => ?_, by omega, by omega, ?_, r10.trans q10⟩
    · rw [l_P_Reader_takeSamples_23, gd_in hk (by decide), ck, s2, hht, if_neg (nI_ge (by omega) (by omega))]
      refine Eq.trans q1 ?_
      rw [hFs sy ⟨s1, s2, s3, s4, s5, s6⟩ y (by omega), bd_s, hset, bd_s]
      exact r1
    · rw [show f2 + wk * (d + 1) = f2 + wk * d + wk by rw [Nat.mul_succ, Nat.add_assoc]]
      rw [Nat.succ_mul] at r2
      exact q2.trans r2
    · by_cases e5 : j = y
      · subst e5
        simp only [if_true]
        refine ⟨q4, ?_, ?_⟩
        · rw [r5 j (by omega), hp1]; exact q8
        · rw [r6 _ (by omega)]; exact pk_us
      · simp only [if_neg e5]
        exact r4 j (by omega) p2
    · rw [r5 j (by omega), hp1, q9 j (by omega)]
    · rw [r6 j (by omega)]
      exact pk_un (by omega)
    · have r9' := Tm_pl q7 r9
      rw [pl_pl] at r9'
      exact r9'
/-- a plane, sample by sample -/
theorem readSamples_P {rd : Rd} {sy : Sy} {mo : Mo} {b : Pb} {v : Br} {k wk h n m a : Nat} {Bx : Int32} {F : Nat → Nat} (hk : k < 40) (hnk : n ≤ k) (hw1 : 1 ≤ wk) (hw : wk ≤ 16) (hh1 : 1 ≤ h) (hh : h ≤ 16) (hwd : Sy_wd sy k = nI wk) (hht : Sy_ht sy k = nI h) (hMw : Mo_wd mo (k + 40) = nI wk) (hMh : Mo_ht mo (k + 40) = nI h) (hkd : ¬ Mo_kind mo = 1) (hB : (Sy_bs sy k = -1 ∧ Bx < 0) ∨ (¬ Sy_bs sy k = -1 ∧ ¬ Bx < 0)) (hF : ∀ y, F y < 2 ^ wk) (hFs : ∀ sy', Ss n sy sy' → ∀ y, y < 16 → f_Symbols_foretoldRow sy' (nI k) (nI y) = some (nI (F y))) (hu : ∀ mo' : Mo, Sr 40 n mo mo' → ∀ x y, x < wk → y < 16 → f_Model_under mo' (nI (k + 40)) Bx (nI x) (nI y) = some (nI (F y / 2 ^ x % 2))) (hR : RcP b v mo m a) (ha : a + 1100 < 2 ^ 30) :
    ∃ (V : Nat → Nat) (a' : Nat) (b' : Pb) (v' : Br) (g f pl : Nat → Int32) (mo' : Mo), f_P_Reader_takeSamples rd b v sy (nI k) = some (b', v', Sy_s_rw sy g) ∧ f_Model_readPlane mo (nI (k + 40)) Bx = some mo' ∧ RcP b' v' mo' m a' ∧ (∀ y, y < h → V y < 2 ^ wk ∧ g (16 * k + y) = nI (V y ^^^ F y) ∧ f (16 * (k + 40) + y) = nI (V y ^^^ F y)) ∧ (∀ y, h ≤ y → y < 16 → f (16 * (k + 40) + y) = 0) ∧ (∀ j, j < 16 * k → g j = Sy_rw sy j) ∧ (∀ j, j < 16 * (k + 40) → f j = Mo_rw mo j) ∧ a ≤ a' ∧ a' ≤ a + 1024 ∧ Tm (Mo_s_rw (Mo_s_pl mo pl) f) mo' ∧ Br_byL v' = Br_byL v := by
  have ck : (nI k).toNatClampNeg = k := nI_clamp (by omega)
  have cK : (nI (k + 40)).toNatClampNeg = k + 40 := nI_clamp (by omega)
  have hwh : wk * h ≤ 256 := Nat.mul_le_mul hw hh
  have hwh1 : 1 ≤ wk * h := Nat.mul_le_mul hw1 hh1
  obtain ⟨bs, hbs, hbs1, hbs2⟩ : ∃ bs : Nat, bs ≤ 16 ∧ ((Bx < 0 ∧ bs = 0) ∨ (¬ Bx < 0 ∧ bs = 16)) ∧ ((Sy_bs sy k = -1 ∧ bs = 0) ∨ (¬ Sy_bs sy k = -1 ∧ bs = 16)) := by
    rcases hB with ⟨h1, h2⟩ | ⟨h1, h2⟩
    · exact ⟨0, by decide, Or.inl ⟨h2, rfl⟩, Or.inl ⟨h1, rfl⟩⟩
    · exact ⟨16, by decide, Or.inr ⟨h2, rfl⟩, Or.inr ⟨h1, rfl⟩⟩
  obtain ⟨p0, p1, p2, -⟩ := m_pl0_l (x1 := nI (k + 40)) (x2 := Bx) (x3 := nI wk) (x4 := nI (wk * h)) (K2 := fun mo_11 => l_Model_readPlane_47 (nI (k + 40)) Bx (nI wk) (nI (wk * h)) (fun mo_38 => some mo_38) (fun mo_39 x6_40 => l_Model_readPlane_157 (nI (k + 40)) Bx (nI wk) (nI (wk * h)) (fun mo_60 => l_Model_readPlane_236 (nI (k + 40)) Bx (nI wk) (nI (wk * h)) (fun mo_67 => l_Model_readPlane_265 (nI (k + 40)) Bx (nI wk) (nI (wk * h)) (fun mo_81 => some mo_81) 100000 mo_67 0) 100000 mo_60 0) 100000 mo_39 x6_40) 100000 mo_11 0 0) 100000 0 mo (by omega) (by omega)
  obtain ⟨V, a', b', v', g, mo1, pl, r1, r2, r3, r4, r5, r6, r7, r8, r9, r10⟩ := rs_y_P (rd := rd) (Kx := k + 40) (Bx := Bx) (sy0 := sy) (F := F) (n := n) (K1 := fun b1 v1 sy1 => some (b1, v1, sy1)) (K2 := fun mo_60 => l_Model_readPlane_236 (nI (k + 40)) Bx (nI wk) (nI (wk * h)) (fun mo_67 => l_Model_readPlane_265 (nI (k + 40)) Bx (nI wk) (nI (wk * h)) (fun mo_81 => some mo_81) 100000 mo_67 0) 100000 mo_60 0) hk hnk hw1 hw hh hwd hht hbs hbs1 hF hFs h 0 0 a 100000 (100000 - wk * h) b v sy (Mo_s_pl mo p0) (by omega) (by omega) ⟨rfl, rfl, rfl, rfl, rfl, fun j _ => rfl⟩ hR (by omega) (fun j _ hj => p2 j (Nat.zero_le _) hj) (Nat.two_pow_pos wk) (Or.inl ⟨rfl, rfl⟩)
  rw [pl_pl] at r9
  have hpl : Mo_pl mo1 = pl := by obtain ⟨_, _, _, _, _, rfl⟩ := r9; rfl
  have hSr : ∀ mo' : Mo, Sr 40 n mo1 mo' → Sr 40 n mo mo' := by
    intro mo' hS
    obtain ⟨_, _, _, _, _, rfl⟩ := r9
    exact hS
  obtain ⟨f, f1, f2, f3, f4⟩ := m_rows (K := k + 40) (B := Bx) (V := V) (F := F) (mo := mo1) (o := 40) (n := n) (by omega) (by omega) hw hh (fun y hy => (r4 y (Nat.zero_le _) hy).1) hF (fun mo' hS => hu mo' (hSr mo' hS)) (fun y hy => by rw [hpl]; exact (r4 y (Nat.zero_le _) hy).2.1)
  refine ⟨V, a', b', v', g, f, pl, Mo_s_rw mo1 f, ?_, ?_, r3, fun y hy => ⟨(r4 y (Nat.zero_le _) hy).1, (r4 y (Nat.zero_le _) hy).2.2, f2 y hy⟩, f3, fun j hj => r6 j (by omega), fun j hj => ?_, r7, by omega, ?_, r10⟩
  · rw [f_P_Reader_takeSamples, gd_in hk (by decide), ck]
    rcases hbs2 with ⟨h1, h2⟩ | ⟨h1, h2⟩
    · subst h2
      rw [if_pos h1, j_P_Reader_takeSamples_16_3]
      exact r1
    · subst h2
      rw [if_neg h1, j_P_Reader_takeSamples_16_3]
      exact r1
  · rw [f_Model_readPlane, gd_in (show k + 40 < 80 by omega) (by decide), cK, hMw, lt', gd_in (show k + 40 < 80 by omega) (by decide), hMh, pk_mul, lt']
    refine Eq.trans p1 ?_
    rw [l_Model_readPlane_47, if_neg (show ¬ nI (wk * h) ≤ 0 from nI_nle (by omega) (by omega)), if_neg (show ¬ Mo_kind (Mo_s_pl mo p0) = 1 from hkd)]
    rw [show 100000 - wk * h + wk * h = 100000 by omega, Nat.zero_mul] at r2
    refine Eq.trans r2 ?_
    rw [show 100000 - wk * h = (99999 - wk * h) + 1 by omega, l_Model_readPlane_157, Nat.mul_comm h wk, if_pos (nI_le (Nat.le_refl _) (by omega))]
    exact f1
  · rw [f4 j hj]
    obtain ⟨_, _, _, _, _, rfl⟩ := r9
    rfl
  · exact Tm_rw r9
theorem rs_x_C {rd : Rd} {sy : Sy} {k wk h y bs ab m Kx : Nat} {Bx : Int32} {K1 : Cb → Br → Int32 → Option (Cb × Br × Sy)} {K2 : Mo → Option Mo} (hk : k < 40) (hw : wk ≤ 16) (hh : h ≤ 16) (hy : y < h) (hwd : Sy_wd sy k = nI wk) (hbs : bs ≤ 16) (hab : ab < 2 ^ wk) (hB : (Bx < 0 ∧ bs = 0) ∨ (¬ Bx < 0 ∧ bs = 16)) : ∀ (d x row a f1 f2 : Nat) (b : Cb) (v : Br) (mo : Mo), x + d = wk → d < f1 → RcC b v mo m a → a + 4 * d + 8 < 2 ^ 30 → row < 2 ^ x → Mo_pl mo y = nI row → abOf mo y ab → ∃ (row' a' : Nat) (b' : Cb) (v' : Br) (mo' : Mo) (pl : Nat → Int32), l_C_Reader_takeSamples_40 rd sy (nI k) (nI bs) (nI ab) (nI y) K1 f1 b v (nI row) (nI x) = K1 b' v' (nI row') ∧ l_Model_readPlane_157 (nI Kx) Bx (nI wk) (nI (wk * h)) K2 (f2 + d) mo (nI (y * wk + x)) = l_Model_readPlane_157 (nI Kx) Bx (nI wk) (nI (wk * h)) K2 f2 mo' (nI (y * wk + wk)) ∧ RcC b' v' mo' m a' ∧ row' < 2 ^ wk ∧ a ≤ a' ∧ a' ≤ a + 4 * d ∧ Tm (Mo_s_pl mo pl) mo' ∧ pl y = nI row' ∧ (∀ j, j ≠ y → pl j = Mo_pl mo j) ∧ Br_byL v' = Br_byL v := by
  have ck : (nI k).toNatClampNeg = k := nI_clamp (by omega)
  have hwh : wk * h ≤ 256 := Nat.mul_le_mul hw hh
  have ha2 := pow16 hw hab
  intro d
  induction d with
  | zero =>
    intro x row a f1 f2 b v mo hx hf hR _ hrow hp _
    obtain ⟨f, rfl⟩ : ∃ f, f1 = f + 1 := ⟨f1 - 1, by omega⟩
    have e : x = wk := by omega
    subst e
    refine ⟨row, a, b, v, mo, Mo_pl mo, ?_, rfl, hR, hrow, Nat.le_refl a, by omega, Tm.refl mo, hp, fun j _ => rfl, rfl⟩
    rw [l_C_Reader_takeSamples_40, gd_in hk (by decide), ck, hwd, if_pos (nI_le (Nat.le_refl x) (by omega))]
  | succ d ih =>
    intro x row a f1 f2 b v mo hx hf hR ha hrow hp hab2
    obtain ⟨f, rfl⟩ : ∃ f, f1 = f + 1 := ⟨f1 - 1, by omega⟩
    have hrw : row < 2 ^ wk := Nat.lt_of_lt_of_le hrow (Nat.pow_le_pow_right (by decide) (by omega))
    have hr2 := pow16 hw hrw
    obtain ⟨d1, d2⟩ := div_at (w := wk) (y := y) (show x < wk by omega)
    have hlt := ctxN_lt (row := row) (ab := ab) (x := x) hbs
    obtain ⟨r, b1, v1, mo1, a1, t1, t2, t3, t4, t5, t6, t7, t8⟩ := takeC (c := nI (ctxN bs row ab x)) hR (by omega) (Or.inr ⟨_, hlt, rfl⟩)
    obtain ⟨ch, mo9, c1, c2, c3⟩ := mT_chain (nI_m1 (by omega)) t2
    obtain ⟨β, hβ, rfl⟩ := b01 t4
    obtain ⟨o1, o2⟩ := or_pow hrow (show x < 16 by omega) hβ
    have ha1 : a ≤ a1 := t8
    have hp1 : Mo_pl mo1 = Mo_pl mo := by obtain ⟨_, _, _, _, _, rfl⟩ := t5; rfl
    have hR2 : RcC b1 v1 (Mo_s_pl mo1 (upd (Mo_pl mo1) y (nI (row + β * 2 ^ x)))) m a1 := t3
    obtain ⟨row', a', b', v', mo', pl, q1, q2, q3, q4, q5, q6, q7, q8, q9, q10⟩ := ih (x + 1) (row + β * 2 ^ x) a1 f f2 b1 v1 (Mo_s_pl mo1 (upd (Mo_pl mo1) y (nI (row + β * 2 ^ x)))) (by omega) (by omega) hR2 (by omega) o2 pk_us (by
      rcases hab2 with ⟨h1, h2⟩ | ⟨y', h1, h2⟩
      · exact Or.inl ⟨h1, h2⟩
      · refine Or.inr ⟨y', h1, ?_⟩
        show upd (Mo_pl mo1) y _ y' = _
        rw [pk_un (by omega), hp1]
        exact h2)
    refine ⟨row', a', b', v', mo', pl, ?_, ?_, q3, q4, by omega, by omega, ?_, q8, fun j hj => ?_, q10.trans t6⟩
    · rw [l_C_Reader_takeSamples_40, gd_in hk (by decide), ck, hwd, if_neg (nI_ge (by omega) (by omega)), s_ctx hr2 ha2 (by omega), bd_s, t1, bd_s]
      show l_C_Reader_takeSamples_40 rd sy (nI k) (nI bs) (nI ab) (nI y) K1 f b1 v1 (nI row ||| (nI β <<< (nI x &&& 31))) (nI x + 1) = _
      rw [o1, nI_1]
      exact q1
    · have hi : y * wk + x < wk * h := by
        have : (y + 1) * wk ≤ h * wk := Nat.mul_le_mul_right wk hy
        rw [Nat.succ_mul, Nat.mul_comm h wk] at this
        omega
      have hw0 : 0 < wk := by omega
      have hd : decide (¬ nI wk = 0) = true := decide_eq_true (nI_ne0 hw0 (by omega))
      have hctx := m_ctx (mo := mo) (b := bs) (show x < wk by omega) hw (show y < 16 by omega) hrw hab hp hab2
      have key : ∀ z : Int32, f_Model_context mo (nI x) (nI y) (nI wk) z = some (nI (ctxN bs row ab x)) → j_Model_readPlane_183_46 mo (nI wk) (nI (y * wk + x)) (l_Model_readPlane_157 (nI Kx) Bx (nI wk) (nI (wk * h)) K2 (f2 + d)) z = l_Model_readPlane_157 (nI Kx) Bx (nI wk) (nI (wk * h)) K2 f2 mo' (nI (y * wk + wk)) := by
        intro z hz
        rw [j_Model_readPlane_183_46, pk_rem (by omega) hw0 (by omega), pk_div (by omega) hw0 (by omega), d1, d2, hz, bd_s, c1, bd_s, c2, bd_s]
        show bd (f_Model_learn mo9 (nI (ctxN bs row ab x)) (nI β)) _ = _
        rw [c3, bd_s, gd_t hd, gd_in (show y < 16 by omega) (by decide), gd_t hd, gd_in (show y < 16 by omega) (by decide), nI_clamp (show y < 2 ^ 31 by omega), hp1, hp, o1, nI_1]
        rw [hp1] at q2
        exact q2
      show l_Model_readPlane_157 (nI Kx) Bx (nI wk) (nI (wk * h)) K2 ((f2 + d) + 1) mo (nI (y * wk + x)) = _
      rw [l_Model_readPlane_157, if_neg (nI_ge hi (by omega)), gd_t hd, gd_t hd]
      rcases hB with ⟨b1', b2'⟩ | ⟨b1', b2'⟩
      · rw [if_pos b1']
        refine key 0 ?_
        rw [f_Model_context, if_pos rfl]
        subst b2'
        exact hctx
      · rw [if_neg b1']
        refine key 1 ?_
        rw [f_Model_context, if_neg i10]
        subst b2'
        exact hctx
    · rw [pl_pl] at q7
      exact Tm_pl t5 q7
    · rw [q9 j hj]
      show upd (Mo_pl mo1) y _ j = _
      rw [pk_un hj, hp1]
theorem rs_y_C {rd : Rd} {k wk h bs m Kx n : Nat} {Bx : Int32} {F : Nat → Nat} {sy0 : Sy} {K1 : Cb → Br → Sy → Option (Cb × Br × Sy)} {K2 : Mo → Option Mo} (hk : k < 40) (hnk : n ≤ k) (hw1 : 1 ≤ wk) (hw : wk ≤ 16) (hh : h ≤ 16) (hwd : Sy_wd sy0 k = nI wk) (hht : Sy_ht sy0 k = nI h) (hbs : bs ≤ 16) (hB : (Bx < 0 ∧ bs = 0) ∨ (¬ Bx < 0 ∧ bs = 16)) (hF : ∀ y, F y < 2 ^ wk) (hFs : ∀ sy', Ss n sy0 sy' → ∀ y, y < 16 → f_Symbols_foretoldRow sy' (nI k) (nI y) = some (nI (F y))) : ∀ (d y ab a f1 f2 : Nat) (b : Cb) (v : Br) (sy : Sy) (mo : Mo), y + d = h → d < f1 → Ss n sy0 sy → RcC b v mo m a → a + 64 * d + 16 < 2 ^ 30 → (∀ j, y ≤ j → j < 16 → Mo_pl mo j = 0) → ab < 2 ^ wk → abOf mo y ab → ∃ (V : Nat → Nat) (a' : Nat) (b' : Cb) (v' : Br) (g : Nat → Int32) (mo' : Mo) (pl : Nat → Int32), l_C_Reader_takeSamples_23 rd (nI k) (nI bs) K1 f1 b v sy (nI ab) (nI y) = K1 b' v' (Sy_s_rw sy g) ∧ l_Model_readPlane_157 (nI Kx) Bx (nI wk) (nI (wk * h)) K2 (f2 + wk * d) mo (nI (y * wk)) = l_Model_readPlane_157 (nI Kx) Bx (nI wk) (nI (wk * h)) K2 f2 mo' (nI (h * wk)) ∧ RcC b' v' mo' m a' ∧ (∀ j, y ≤ j → j < h → V j < 2 ^ wk ∧ pl j = nI (V j) ∧ g (16 * k + j) = nI (V j ^^^ F j)) ∧ (∀ j, j < y → pl j = Mo_pl mo j) ∧ (∀ j, j < 16 * k + y → g j = Sy_rw sy j) ∧ a ≤ a' ∧ a' ≤ a + 64 * d ∧ Tm (Mo_s_pl mo pl) mo' ∧ Br_byL v' = Br_byL v := by
  have ck : (nI k).toNatClampNeg = k := nI_clamp (by omega)
  intro d
  induction d with
  | zero =>
    intro y ab a f1 f2 b v sy mo hy hf hS hR _ _ _ _
    obtain ⟨f, rfl⟩ : ∃ f, f1 = f + 1 := ⟨f1 - 1, by omega⟩
    have e : y = h := by omega
    subst e
    refine ⟨fun _ => 0, a, b, v, Sy_rw sy, mo, Mo_pl mo, ?_, rfl, hR, fun j p q => by omega, fun j _ => rfl, fun j _ => rfl, Nat.le_refl a, by omega, Tm.refl mo, rfl⟩
    rw [l_C_Reader_takeSamples_23, gd_in hk (by decide), ck, hS.2.1, hht, if_pos (nI_le (Nat.le_refl y) (by omega))]
  | succ d ih =>
    intro y ab a f1 f2 b v sy mo hy hf hS hR ha hz hab hab2
    obtain ⟨f, rfl⟩ : ∃ f, f1 = f + 1 := ⟨f1 - 1, by omega⟩
    have hwd' : Sy_wd sy k = nI wk := by rw [hS.1]; exact hwd
    obtain ⟨row, a1, b1, v1, mo1, pl1, q1, q2, q3, q4, q5, q6, q7, q8, q9, q10⟩ := rs_x_C (rd := rd) (sy := sy) (Kx := Kx) (Bx := Bx) (K1 := fun pb_20 v_21 x6_22 => bd (f_Symbols_foretoldRow sy (nI k) (nI y)) <| fun r_23 => bd (f_Symbols_setRow sy (nI k) (nI y) (x6_22 ^^^ r_23)) <| fun (r_24, sy_25) => lt' (nI y + 1) <| fun x5_26 => (l_C_Reader_takeSamples_23 rd (nI k) (nI bs) K1 f) pb_20 v_21 sy_25 x6_22 x5_26) (K2 := K2) hk hw hh (show y < h by omega) hwd' hbs hab hB wk 0 0 a 100000 (f2 + wk * d) b v mo (by omega) (by omega) hR (by omega) (by decide) (hz y (Nat.le_refl y) (by omega)) hab2
    have hx : row ^^^ F y < 2 ^ wk := Nat.xor_lt_two_pow q4 (hF y)
    have hx2 := pow16 hw hx
    have hset : f_Symbols_setRow sy (nI k) (nI y) (nI row ^^^ nI (F y)) = some (nI (pop (row ^^^ F y) 16), Sy_s_rw sy (upd (Sy_rw sy) (16 * k + y) (nI (row ^^^ F y)))) := by
      rw [nx_xor, s_setRow _ hwd' hw hk (by omega), pk_tn (by omega), Nat.mod_eq_of_lt hx]
    have hp1 : Mo_pl mo1 = pl1 := by obtain ⟨_, _, _, _, _, rfl⟩ := q7; rfl
    obtain ⟨s1, s2, s3, s4, s5, s6⟩ := hS
    obtain ⟨V, a', b', v', g, mo', pl, r1, r2, r3, r4, r5, r6, r7, r8, r9, r10⟩ := ih (y + 1) row a1 f f2 b1 v1 (Sy_s_rw sy (upd (Sy_rw sy) (16 * k + y) (nI (row ^^^ F y)))) mo1 (by omega) (by omega) ⟨s1, s2, s3, s4, s5, fun j hj => by
      show upd (Sy_rw sy) (16 * k + y) _ j = _
      rw [pk_un (by omega)]; exact s6 j hj⟩ q3 (by omega) (fun j p1 p2 => by rw [hp1, q9 j (by omega)]; exact hz j (by omega) p2) q4 (Or.inr ⟨y, rfl, by rw [hp1]; exact q8⟩)
    rw [← nI_1 y] at r1
    refine ⟨fun j => if j = y then row else V j, a', b', v', g, mo', pl, ?_, ?_, r3, fun j p1 p2 => ?_, fun j hj => ?_, fun j hj => ?_, by omega, by omega, ?_, r10.trans q10⟩
    · rw [l_C_Reader_takeSamples_23, gd_in hk (by decide), ck, s2, hht, if_neg (nI_ge (by omega) (by omega))]
      refine Eq.trans q1 ?_
      rw [hFs sy ⟨s1, s2, s3, s4, s5, s6⟩ y (by omega), bd_s, hset, bd_s]
      exact r1
    · rw [show f2 + wk * (d + 1) = f2 + wk * d + wk by rw [Nat.mul_succ, Nat.add_assoc]]
      rw [Nat.succ_mul] at r2
      exact q2.trans r2
    · by_cases e5 : j = y
      · subst e5
        simp only [if_true]
        refine ⟨q4, ?_, ?_⟩
        · rw [r5 j (by omega), hp1]; exact q8
        · rw [r6 _ (by omega)]; exact pk_us
      · simp only [if_neg e5]
        exact r4 j (by omega) p2
    · rw [r5 j (by omega), hp1, q9 j (by omega)]
    · rw [r6 j (by omega)]
      exact pk_un (by omega)
    · have r9' := Tm_pl q7 r9
      rw [pl_pl] at r9'
      exact r9'
/-- a plane, sample by sample -/
theorem readSamples_C {rd : Rd} {sy : Sy} {mo : Mo} {b : Cb} {v : Br} {k wk h n m a : Nat} {Bx : Int32} {F : Nat → Nat} (hk : k < 40) (hnk : n ≤ k) (hw1 : 1 ≤ wk) (hw : wk ≤ 16) (hh1 : 1 ≤ h) (hh : h ≤ 16) (hwd : Sy_wd sy k = nI wk) (hht : Sy_ht sy k = nI h) (hMw : Mo_wd mo (k + 40) = nI wk) (hMh : Mo_ht mo (k + 40) = nI h) (hkd : ¬ Mo_kind mo = 1) (hB : (Sy_bs sy k = -1 ∧ Bx < 0) ∨ (¬ Sy_bs sy k = -1 ∧ ¬ Bx < 0)) (hF : ∀ y, F y < 2 ^ wk) (hFs : ∀ sy', Ss n sy sy' → ∀ y, y < 16 → f_Symbols_foretoldRow sy' (nI k) (nI y) = some (nI (F y))) (hu : ∀ mo' : Mo, Sr 40 n mo mo' → ∀ x y, x < wk → y < 16 → f_Model_under mo' (nI (k + 40)) Bx (nI x) (nI y) = some (nI (F y / 2 ^ x % 2))) (hR : RcC b v mo m a) (ha : a + 1100 < 2 ^ 30) :
    ∃ (V : Nat → Nat) (a' : Nat) (b' : Cb) (v' : Br) (g f pl : Nat → Int32) (mo' : Mo), f_C_Reader_takeSamples rd b v sy (nI k) = some (b', v', Sy_s_rw sy g) ∧ f_Model_readPlane mo (nI (k + 40)) Bx = some mo' ∧ RcC b' v' mo' m a' ∧ (∀ y, y < h → V y < 2 ^ wk ∧ g (16 * k + y) = nI (V y ^^^ F y) ∧ f (16 * (k + 40) + y) = nI (V y ^^^ F y)) ∧ (∀ y, h ≤ y → y < 16 → f (16 * (k + 40) + y) = 0) ∧ (∀ j, j < 16 * k → g j = Sy_rw sy j) ∧ (∀ j, j < 16 * (k + 40) → f j = Mo_rw mo j) ∧ a ≤ a' ∧ a' ≤ a + 1024 ∧ Tm (Mo_s_rw (Mo_s_pl mo pl) f) mo' ∧ Br_byL v' = Br_byL v := by
  have ck : (nI k).toNatClampNeg = k := nI_clamp (by omega)
  have cK : (nI (k + 40)).toNatClampNeg = k + 40 := nI_clamp (by omega)
  have hwh : wk * h ≤ 256 := Nat.mul_le_mul hw hh
  have hwh1 : 1 ≤ wk * h := Nat.mul_le_mul hw1 hh1
  obtain ⟨bs, hbs, hbs1, hbs2⟩ : ∃ bs : Nat, bs ≤ 16 ∧ ((Bx < 0 ∧ bs = 0) ∨ (¬ Bx < 0 ∧ bs = 16)) ∧ ((Sy_bs sy k = -1 ∧ bs = 0) ∨ (¬ Sy_bs sy k = -1 ∧ bs = 16)) := by
    rcases hB with ⟨h1, h2⟩ | ⟨h1, h2⟩
    · exact ⟨0, by decide, Or.inl ⟨h2, rfl⟩, Or.inl ⟨h1, rfl⟩⟩
    · exact ⟨16, by decide, Or.inr ⟨h2, rfl⟩, Or.inr ⟨h1, rfl⟩⟩
  obtain ⟨p0, p1, p2, -⟩ := m_pl0_l (x1 := nI (k + 40)) (x2 := Bx) (x3 := nI wk) (x4 := nI (wk * h)) (K2 := fun mo_11 => l_Model_readPlane_47 (nI (k + 40)) Bx (nI wk) (nI (wk * h)) (fun mo_38 => some mo_38) (fun mo_39 x6_40 => l_Model_readPlane_157 (nI (k + 40)) Bx (nI wk) (nI (wk * h)) (fun mo_60 => l_Model_readPlane_236 (nI (k + 40)) Bx (nI wk) (nI (wk * h)) (fun mo_67 => l_Model_readPlane_265 (nI (k + 40)) Bx (nI wk) (nI (wk * h)) (fun mo_81 => some mo_81) 100000 mo_67 0) 100000 mo_60 0) 100000 mo_39 x6_40) 100000 mo_11 0 0) 100000 0 mo (by omega) (by omega)
  obtain ⟨V, a', b', v', g, mo1, pl, r1, r2, r3, r4, r5, r6, r7, r8, r9, r10⟩ := rs_y_C (rd := rd) (Kx := k + 40) (Bx := Bx) (sy0 := sy) (F := F) (n := n) (K1 := fun b1 v1 sy1 => some (b1, v1, sy1)) (K2 := fun mo_60 => l_Model_readPlane_236 (nI (k + 40)) Bx (nI wk) (nI (wk * h)) (fun mo_67 => l_Model_readPlane_265 (nI (k + 40)) Bx (nI wk) (nI (wk * h)) (fun mo_81 => some mo_81) 100000 mo_67 0) 100000 mo_60 0) hk hnk hw1 hw hh hwd hht hbs hbs1 hF hFs h 0 0 a 100000 (100000 - wk * h) b v sy (Mo_s_pl mo p0) (by omega) (by omega) ⟨rfl, rfl, rfl, rfl, rfl, fun j _ => rfl⟩ hR (by omega) (fun j _ hj => p2 j (Nat.zero_le _) hj) (Nat.two_pow_pos wk) (Or.inl ⟨rfl, rfl⟩)
  rw [pl_pl] at r9
  have hpl : Mo_pl mo1 = pl := by obtain ⟨_, _, _, _, _, rfl⟩ := r9; rfl
  have hSr : ∀ mo' : Mo, Sr 40 n mo1 mo' → Sr 40 n mo mo' := by
    intro mo' hS
    obtain ⟨_, _, _, _, _, rfl⟩ := r9
    exact hS
  obtain ⟨f, f1, f2, f3, f4⟩ := m_rows (K := k + 40) (B := Bx) (V := V) (F := F) (mo := mo1) (o := 40) (n := n) (by omega) (by omega) hw hh (fun y hy => (r4 y (Nat.zero_le _) hy).1) hF (fun mo' hS => hu mo' (hSr mo' hS)) (fun y hy => by rw [hpl]; exact (r4 y (Nat.zero_le _) hy).2.1)
  refine ⟨V, a', b', v', g, f, pl, Mo_s_rw mo1 f, ?_, ?_, r3, fun y hy => ⟨(r4 y (Nat.zero_le _) hy).1, (r4 y (Nat.zero_le _) hy).2.2, f2 y hy⟩, f3, fun j hj => r6 j (by omega), fun j hj => ?_, r7, by omega, ?_, r10⟩
  · rw [f_C_Reader_takeSamples, gd_in hk (by decide), ck]
    rcases hbs2 with ⟨h1, h2⟩ | ⟨h1, h2⟩
    · subst h2
      rw [if_pos h1, j_C_Reader_takeSamples_16_3]
      exact r1
    · subst h2
      rw [if_neg h1, j_C_Reader_takeSamples_16_3]
      exact r1
  · rw [f_Model_readPlane, gd_in (show k + 40 < 80 by omega) (by decide), cK, hMw, lt', gd_in (show k + 40 < 80 by omega) (by decide), hMh, pk_mul, lt']
    refine Eq.trans p1 ?_
    rw [l_Model_readPlane_47, if_neg (show ¬ nI (wk * h) ≤ 0 from nI_nle (by omega) (by omega)), if_neg (show ¬ Mo_kind (Mo_s_pl mo p0) = 1 from hkd)]
    rw [show 100000 - wk * h + wk * h = 100000 by omega, Nat.zero_mul] at r2
    refine Eq.trans r2 ?_
    rw [show 100000 - wk * h = (99999 - wk * h) + 1 by omega, l_Model_readPlane_157, Nat.mul_comm h wk, if_pos (nI_le (Nat.le_refl _) (by omega))]
    exact f1
  · rw [f4 j hj]
    obtain ⟨_, _, _, _, _, rfl⟩ := r9
    rfl
  · exact Tm_rw r9
