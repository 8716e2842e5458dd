/-! Planes: what differs from what the base foretells -/
theorem dsub {x a : Nat} (hx : x < 2 ^ 29) (ha : a ≤ 8) : (a ≤ x + 4 → nI x - (nI a - 4) = nI (x + 4 - a)) ∧ (x + 4 < a → nI x - (nI a - 4) < 0) := by
  by_cases h4 : 4 ≤ a
  · have e : nI a - 4 = nI (a - 4) := pk_sub (b := 4) h4
    rw [e]
    refine ⟨fun h => ?_, fun h => pk_sneg (by omega) (by omega)⟩
    rw [pk_sub (by omega)]
    exact congrArg nI (by omega)
  · have e : nI a - 4 = -nI (4 - a) := by
      have := pk_sub (a := 4) (b := a) (by omega)
      rw [← this, Int32.neg_sub]
      rfl
    rw [e, Int32.sub_neg, nI_add]
    exact ⟨fun h => congrArg nI (by omega), fun h => by omega⟩
/-- a row of the base, shifted -/
def FT (w hb : Nat) (Rb : Nat → Nat) (ax ay y : Nat) : Nat := if ay ≤ y + 4 ∧ y + 4 - ay < hb then (if 4 ≤ ax then Rb (y + 4 - ay) * 2 ^ (ax - 4) else Rb (y + 4 - ay) / 2 ^ (4 - ax)) % 2 ^ w else 0
theorem FT_lt (w hb : Nat) (Rb : Nat → Nat) (ax ay y : Nat) : FT w hb Rb ax ay y < 2 ^ w := by
  unfold FT
  split
  · exact Nat.mod_lt _ (Nat.two_pow_pos w)
  · exact Nat.two_pow_pos w
theorem s_fore {sy : Sy} {k y b ax ay w hb : Nat} {Rb : Nat → Nat} (hk : k < 40) (hy : y < 16) (hb4 : b < 40) (hax : ax ≤ 8) (hay : ay ≤ 8) (e1 : Sy_bs sy k = nI b) (e2 : Sy_dx sy k = nI ax - 4) (e3 : Sy_dy sy k = nI ay - 4) (e4 : Sy_wd sy k = nI w) (hw : w ≤ 16) (e5 : Sy_ht sy b = nI hb) (hb16 : hb ≤ 16) (e6 : ∀ y, y < hb → Rb y < 65536 ∧ Sy_rw sy (16 * b + y) = nI (Rb y)) : f_Symbols_foretoldRow sy (nI k) (nI y) = some (nI (FT w hb Rb ax ay y)) := by
  have ck : (nI k).toNatClampNeg = k := nI_clamp (by omega)
  have cb : (nI b).toNatClampNeg = b := nI_clamp (by omega)
  have d := dsub (x := y) (by omega) hay
  simp only [f_Symbols_foretoldRow, lt', gd_in hk (by decide : 40 < 2 ^ 31), ck, e1, e2, e3]
  rw [if_neg (nI_m1 (by omega)), gd_in hb4 (by decide), cb, e5]
  unfold FT
  by_cases c1 : ay ≤ y + 4
  · rw [d.1 c1, if_neg (nI_pos (by omega))]
    by_cases c2 : y + 4 - ay < hb
    · obtain ⟨r1, r2⟩ := e6 _ c2
      rw [if_pos (nI_lt c2 (by omega)), if_pos ⟨c1, c2⟩, f_Symbols_rowOf, rix, gd_in (show 16 * b + (y + 4 - ay) < 640 by omega) (by decide), bd_s, nI_clamp (show 16 * b + (y + 4 - ay) < 2 ^ 31 by omega), r2]
      by_cases c3 : 4 ≤ ax
      · have e7 : nI ax - 4 = nI (ax - 4) := pk_sub (b := 4) c3
        have p4 : 2 ^ (ax - 4) ≤ 2 ^ 4 := Nat.pow_le_pow_right (by decide) (by omega)
        have p5 : Rb (y + 4 - ay) * 2 ^ (ax - 4) < 2 ^ 32 := by
          have := Nat.mul_le_mul (Nat.le_of_lt r1) p4
          omega
        rw [e7, if_neg (nI_pos (by omega)), n_shl (by omega) p5, if_pos c3, j_Symbols_foretoldRow_78_13, f_Symbols_withinWidth, gd_in hk (by decide), bd_s, ck, e4, mask _ hw, pk_tn p5]
      · have e7 : -(nI ax - 4) = nI (4 - ax) := by
          rw [Int32.neg_sub]
          exact pk_sub (a := 4) (by omega)
        have e8 : nI ax - 4 < 0 := pk_sneg (b := 4) (by decide) (by omega)
        have p6 : Rb (y + 4 - ay) / 2 ^ (4 - ax) ≤ Rb (y + 4 - ay) := Nat.div_le_self _ _
        rw [if_pos e8, e7, n_shr (by omega) (by omega), if_neg c3, j_Symbols_foretoldRow_78_13, f_Symbols_withinWidth, gd_in hk (by decide), bd_s, ck, e4, mask _ hw, pk_tn (by omega)]
    · rw [if_neg (nI_nlt (by omega) (by omega)), if_neg (fun z => c2 z.2)]
      rfl
  · rw [if_pos (d.2 (by omega)), if_neg (fun z => c1 z.1)]
    rfl
theorem bit_hi {r wb i : Nat} (h : r < 2 ^ wb) (hi : wb ≤ i) : r / 2 ^ i % 2 = 0 := by
  rw [Nat.div_eq_of_lt (Nat.lt_of_lt_of_le h (Nat.pow_le_pow_right (by decide) hi))]
theorem FT_bit {w r ax x : Nat} (hx : x < w) : (if 4 ≤ ax then r * 2 ^ (ax - 4) else r / 2 ^ (4 - ax)) % 2 ^ w / 2 ^ x % 2 = if ax ≤ x + 4 then r / 2 ^ (x + 4 - ax) % 2 else 0 := by
  rw [bit_mod hx]
  by_cases c : 4 ≤ ax
  · rw [if_pos c]
    by_cases c2 : ax ≤ x + 4
    · rw [if_pos c2, show 2 ^ x = 2 ^ (x + 4 - ax) * 2 ^ (ax - 4) by rw [← Nat.pow_add]; exact congrArg (fun z => 2 ^ z) (by omega), Nat.mul_div_mul_right _ _ (Nat.two_pow_pos _)]
    · rw [if_neg c2, show 2 ^ (ax - 4) = 2 ^ (ax - 4 - x) * 2 ^ x by rw [← Nat.pow_add]; exact congrArg (fun z => 2 ^ z) (by omega), ← Nat.mul_assoc, Nat.mul_div_cancel _ (Nat.two_pow_pos x), show 2 ^ (ax - 4 - x) = 2 ^ (ax - 4 - x - 1) * 2 by rw [← Nat.pow_succ]; exact congrArg (fun z => 2 ^ z) (by omega), ← Nat.mul_assoc, Nat.mul_mod_left]
  · rw [if_neg c, if_pos (by omega), Nat.div_div_eq_div_mul, ← Nat.pow_add]
    exact congrArg (fun z => r / 2 ^ z % 2) (by omega)
theorem m_under {mo : Mo} {K B x y ax ay w wb hb : Nat} {Rb : Nat → Nat} (hK : K < 80) (hB : B < 80) (hax : ax ≤ 8) (hay : ay ≤ 8) (hxw : x < w) (hw : w ≤ 16) (hy : y < 16) (e2 : Mo_dx mo K = nI ax - 4) (e3 : Mo_dy mo K = nI ay - 4) (e4 : Mo_wd mo B = nI wb) (hwb : wb ≤ 16) (e5 : Mo_ht mo B = nI hb) (hb16 : hb ≤ 16) (e6 : ∀ y, y < hb → Rb y < 2 ^ wb ∧ Mo_rw mo (16 * B + y) = nI (Rb y)) : f_Model_under mo (nI K) (nI B) (nI x) (nI y) = some (nI (FT w hb Rb ax ay y / 2 ^ x % 2)) := by
  have cK : (nI K).toNatClampNeg = K := nI_clamp (by omega)
  have cB : (nI B).toNatClampNeg = B := nI_clamp (by omega)
  have dx := dsub (x := x) (by omega) hax
  have dy := dsub (x := y) (by omega) hay
  have key : f_Model_sample mo (nI B) (nI x - (nI ax - 4)) (nI y - (nI ay - 4)) = some (nI (FT w hb Rb ax ay y / 2 ^ x % 2)) := by
    have h0 : ∀ z1 z2 : Int32, j_Model_sample_33_2 mo (nI B) z1 z2 0 = some (nI 0) := fun z1 z2 => by rw [j_Model_sample_33_2, if_pos rfl]; rfl
    rw [f_Model_sample, gd_in hB (by decide), gd_in hB (by decide), cB, e4, e5, h0]
    unfold FT
    by_cases cx : ax ≤ x + 4
    · rw [dx.1 cx, if_neg (nI_pos (by omega))]
      by_cases cy : ay ≤ y + 4
      · rw [dy.1 cy, if_neg (nI_pos (by omega))]
        by_cases c2 : y + 4 - ay < hb
        · obtain ⟨r1, r2⟩ := e6 _ c2
          have r3 := pow16 hwb r1
          rw [if_pos (show ay ≤ y + 4 ∧ y + 4 - ay < hb from ⟨cy, c2⟩), FT_bit hxw, if_pos cx]
          by_cases c3 : x + 4 - ax < wb
          · rw [if_neg (nI_ge c3 (by omega)), if_neg (nI_ge c2 (by omega)), j_Model_sample_33_2, if_neg i10, rixM, gd_in (show 16 * B + (y + 4 - ay) < 1280 by omega) (by decide), nI_clamp (show 16 * B + (y + 4 - ay) < 2 ^ 31 by omega), r2, n_bit (by omega) (by omega)]
          · rw [if_pos (nI_le (by omega) (by omega)), bit_hi r1 (by omega)]
        · rw [if_neg (show ¬ (ay ≤ y + 4 ∧ y + 4 - ay < hb) from fun z => c2 z.2), Nat.zero_div]
          by_cases c3 : x + 4 - ax < wb
          · rw [if_neg (nI_ge c3 (by omega)), if_pos (nI_le (by omega) (by omega))]
          · rw [if_pos (nI_le (by omega) (by omega))]
      · rw [if_pos (dy.2 (by omega)), if_neg (show ¬ (ay ≤ y + 4 ∧ y + 4 - ay < hb) from fun z => cy z.1), Nat.zero_div]
    · rw [if_pos (dx.2 (by omega))]
      by_cases cy : ay ≤ y + 4 ∧ y + 4 - ay < hb
      · rw [if_pos cy, FT_bit hxw, if_neg cx]
      · rw [if_neg cy, Nat.zero_div]
  rw [f_Model_under, if_pos (nI_pos' (by omega)), gd_in hK (by decide), gd_in hK (by decide), cK, e2, e3, key, bd_s]
/-- the rows of both sides, as numbers -/
def Rw (o : Nat) (sy : Sy) (mo : Mo) (n : Nat) (wd ht : Nat → Nat) (R : Nat → Nat → Nat) : Prop := ∀ k, k < n → ∀ y, y < ht k → R k y < 2 ^ wd k ∧ Sy_rw sy (16 * k + y) = nI (R k y) ∧ Mo_rw mo (16 * (k + o) + y) = nI (R k y)
theorem Rw_of {o : Nat} {sy : Sy} {mo : Mo} {n : Nat} {wd ht : Nat → Nat} (hD : Dc o sy mo n wd ht) : ∃ R, Rw o sy mo n wd ht R := by
  refine ⟨fun k y => (Mo_rw mo (16 * (k + o) + y)).toNatClampNeg, fun k hk y hy => ?_⟩
  obtain ⟨⟨a1, a2, a3, a4⟩, -, -, -, -, -, a7, -⟩ := hD.2 k hk
  obtain ⟨c1, r, hr, c2⟩ := a7 y hy
  have c2' : Mo_rw mo (16 * (k + o) + y) = nI r := c2
  have c1' : Sy_rw sy (16 * k + y) = nI r := c1.trans c2
  have hr2 := pow16 a4 hr
  show (Mo_rw mo (16 * (k + o) + y)).toNatClampNeg < 2 ^ wd k ∧ Sy_rw sy (16 * k + y) = nI (Mo_rw mo (16 * (k + o) + y)).toNatClampNeg ∧ Mo_rw mo (16 * (k + o) + y) = nI (Mo_rw mo (16 * (k + o) + y)).toNatClampNeg
  rw [c2', nI_clamp (by omega), c1']
  exact ⟨hr, rfl, rfl⟩
/-- what a symbol's plane is made of is the same -/
def Sm (mo mo' : Mo) : Prop := Mo_wd mo' = Mo_wd mo ∧ Mo_ht mo' = Mo_ht mo ∧ Mo_rw mo' = Mo_rw mo ∧ Mo_bs mo' = Mo_bs mo ∧ Mo_dx mo' = Mo_dx mo ∧ Mo_dy mo' = Mo_dy mo
theorem Sm.refl (mo : Mo) : Sm mo mo := ⟨rfl, rfl, rfl, rfl, rfl, rfl⟩
/-- what is foretold of a symbol, on both sides -/
theorem fore_gen {o : Nat} {sy : Sy} {mo : Mo} {n : Nat} {wd ht : Nat → Nat} {k w ax ay : Nat} {B : Int32} (hD : Dc o sy mo n wd ht) (ho : o ≤ 40) (hk : k < 40) (hw : w ≤ 16) (e4 : Sy_wd sy k = nI w) (hb : (Sy_bs sy k = -1 ∧ B = -1) ∨ ∃ b, b < n ∧ Sy_bs sy k = nI b ∧ B = nI (b + o)) (hax : ax ≤ 8) (hay : ay ≤ 8) (x1 : Sy_dx sy k = nI ax - 4) (x2 : Mo_dx mo (k + o) = nI ax - 4) (y1 : Sy_dy sy k = nI ay - 4) (y2 : Mo_dy mo (k + o) = nI ay - 4) :
    ∃ F : Nat → Nat, (∀ y, F y < 2 ^ w) ∧ (∀ y, y < 16 → f_Symbols_foretoldRow sy (nI k) (nI y) = some (nI (F y))) ∧ ∀ mo' : Mo, Sm mo mo' → ∀ x y, x < w → y < 16 → f_Model_under mo' (nI (k + o)) B (nI x) (nI y) = some (nI (F y / 2 ^ x % 2)) := by
  have h40 := hD.1
  rcases hb with ⟨b1, b2⟩ | ⟨b, hb, b1, b2⟩
  · refine ⟨fun _ => 0, fun y => Nat.two_pow_pos w, fun y hy => ?_, fun mo' _ x y hx hy => ?_⟩
    · rw [f_Symbols_foretoldRow, gd_in hk (by decide), nI_clamp (show k < 2 ^ 31 by omega), b1, lt', if_pos rfl]
      rfl
    · subst b2
      rw [f_Model_under, if_neg (by decide), Nat.zero_div]
      rfl
  · obtain ⟨R, hR⟩ := Rw_of hD
    obtain ⟨⟨p1, p2, p3, p4⟩, ⟨q1, q2, q3, q4⟩, -⟩ := hD.2 b hb
    refine ⟨FT w (ht b) (R b) ax ay, fun y => FT_lt _ _ _ _ _ _, fun y hy => ?_, fun mo' hS x y hx hy => ?_⟩
    · exact s_fore hk hy (by omega) hax hay b1 x1 y1 e4 hw q1 q4 (fun y hy => ⟨pow16 p4 (hR b hb y hy).1, (hR b hb y hy).2.1⟩)
    · subst b2
      obtain ⟨s1, s2, s3, s4, s5, s6⟩ := hS
      exact m_under (wb := wd b) (by omega) (by omega) hax hay hx hw hy (by rw [s5]; exact x2) (by rw [s6]; exact y2) (by rw [s1]; exact p2) p4 (by rw [s2]; exact q2) q4 (fun y hy => ⟨(hR b hb y hy).1, by rw [s3]; exact (hR b hb y hy).2.2⟩)
theorem xor_bit (a b x : Nat) : a / 2 ^ x % 2 ^^^ b / 2 ^ x % 2 = (a ^^^ b) / 2 ^ x % 2 := by
  rw [← Nat.toNat_testBit, ← Nat.toNat_testBit, ← Nat.toNat_testBit, Nat.testBit_xor]
  cases a.testBit x <;> cases b.testBit x <;> rfl
/-- one bit more of a row -/
theorem or_bit {V x : Nat} (hx : x < 16) : nI (V % 2 ^ x) ||| (nI (V / 2 ^ x % 2) <<< (nI x &&& 31)) = nI (V % 2 ^ (x + 1)) := by
  have p : 2 ^ x ≤ 2 ^ 15 := Nat.pow_le_pow_right (by decide) (by omega)
  have q : V / 2 ^ x % 2 < 2 := Nat.mod_lt _ (by decide)
  have p5 : V / 2 ^ x % 2 * 2 ^ x < 2 ^ 32 := by
    have := Nat.mul_le_mul (Nat.le_of_lt q) p
    omega
  have h2 := Nat.two_pow_add_eq_or_of_lt (Nat.mod_lt V (Nat.two_pow_pos x)) (V / 2 ^ x % 2)
  rw [n_shl (by omega) p5, nx_or, Nat.or_comm, show V / 2 ^ x % 2 * 2 ^ x = 2 ^ x * (V / 2 ^ x % 2) from Nat.mul_comm _ _, ← h2, Nat.mod_pow_succ, Nat.add_comm]
theorem m_plane_x {x3 : Int32} {k w y V r F : Nat} {K : Mo → Option Mo} {mo0 : Mo} {Bs : Int32} (hk : k < 80) (hw : w ≤ 16) (hy : y < 16) (hV : V = r ^^^ F) (hV2 : V < 2 ^ w) (hBs : Mo_bs mo0 k = Bs) (hs : ∀ mo' : Mo, Sm mo0 mo' → ∀ x, x < w → f_Model_sample mo' (nI k) (nI x) (nI y) = some (nI (r / 2 ^ x % 2))) (hu : ∀ mo' : Mo, Sm mo0 mo' → ∀ x, x < w → f_Model_under mo' (nI k) Bs (nI x) (nI y) = some (nI (F / 2 ^ x % 2))) :
    ∀ (m x : Nat) (mo : Mo), Sm mo0 mo → Mo_pl mo y = nI (V % 2 ^ x) → x ≤ w → w - x < m → ∃ f : Nat → Int32, l_Model_writePlane_41 (nI k) (nI w) x3 (nI y) K m mo (nI x) = K (Mo_s_pl mo f) ∧ f y = nI V ∧ ∀ j, j ≠ y → f j = Mo_pl mo j := by
  have ck : (nI k).toNatClampNeg = k := nI_clamp (by omega)
  have cy : (nI y).toNatClampNeg = y := nI_clamp (by omega)
  intro m
  induction m with
  | zero => intro x mo _ _ _ h; omega
  | succ m ih =>
    intro x mo hS hp h1 h2
    rw [l_Model_writePlane_41]
    by_cases e : x = w
    · subst e
      rw [if_pos (nI_le (Nat.le_refl x) (by omega))]
      exact ⟨Mo_pl mo, rfl, by rw [hp, Nat.mod_eq_of_lt hV2], fun j _ => rfl⟩
    · rw [if_neg (nI_ge (by omega) (by omega)), gd_in hy (by decide), hs mo hS x (by omega), bd_s, gd_in hk (by decide), ck, show Mo_bs mo k = Bs by rw [hS.2.2.2.1]; exact hBs, hu mo hS x (by omega), bd_s, gd_in hy (by decide), cy, hp, nx_xor, xor_bit, ← hV, or_bit (by omega)]
      obtain ⟨f, f1, f2, f3⟩ := ih (x + 1) (Mo_s_pl mo (upd (Mo_pl mo) y (nI (V % 2 ^ (x + 1))))) hS pk_us (by omega) (by omega)
      rw [← nI_1 x, pl_pl] at f1
      exact ⟨f, f1, f2, fun j hj => (f3 j hj).trans (pk_un hj)⟩
theorem m_plane {x3 : Int32} {k w h : Nat} {V r F : Nat → Nat} {K : Mo → Option Mo} {mo0 : Mo} {Bs : Int32} (hk : k < 80) (hw : w ≤ 16) (hh : h ≤ 16) (hht : Mo_ht mo0 k = nI h) (hV : ∀ y, y < h → V y = r y ^^^ F y ∧ V y < 2 ^ w) (hBs : Mo_bs mo0 k = Bs) (hs : ∀ mo' : Mo, Sm mo0 mo' → ∀ x y, x < w → y < h → f_Model_sample mo' (nI k) (nI x) (nI y) = some (nI (r y / 2 ^ x % 2))) (hu : ∀ mo' : Mo, Sm mo0 mo' → ∀ x y, x < w → y < h → f_Model_under mo' (nI k) Bs (nI x) (nI y) = some (nI (F y / 2 ^ x % 2))) :
    ∀ (m y : Nat) (mo : Mo), Sm mo0 mo → y ≤ h → h - y < m → ∃ f : Nat → Int32, l_Model_writePlane_19 (nI k) (nI w) x3 K m mo (nI y) = K (Mo_s_pl mo f) ∧ (∀ j, y ≤ j → j < h → f j = nI (V j)) ∧ ∀ j, j < y → f j = Mo_pl mo j := by
  have ck : (nI k).toNatClampNeg = k := nI_clamp (by omega)
  intro m
  induction m with
  | zero => intro y mo _ _ h; omega
  | succ m ih =>
    intro y mo hS h1 h2
    rw [l_Model_writePlane_19, gd_in hk (by decide), ck, show Mo_ht mo k = nI h by rw [hS.2.1]; exact hht]
    by_cases e : y = h
    · subst e
      rw [if_pos (nI_le (Nat.le_refl y) (by omega))]
      exact ⟨Mo_pl mo, rfl, fun j a b => by omega, fun j _ => rfl⟩
    · have hy16 : y < 16 := by omega
      rw [if_neg (nI_ge (by omega) (by omega)), gd_in hy16 (by decide), nI_clamp (show y < 2 ^ 31 by omega)]
      obtain ⟨hV1, hV2⟩ := hV y (by omega)
      obtain ⟨f, f1, f2, f3⟩ := m_plane_x (x3 := x3) (K := fun mo_21 => lt' (nI y + 1) <| fun x4_22 => (l_Model_writePlane_19 (nI k) (nI w) x3 K m) mo_21 x4_22) hk hw hy16 hV1 hV2 hBs (fun mo' q x hx => hs mo' q x y hx (by omega)) (fun mo' q x hx => hu mo' q x y hx (by omega)) 100000 0 (Mo_s_pl mo (upd (Mo_pl mo) y 0)) hS (by rw [Nat.pow_zero, Nat.mod_one]; exact pk_us) (Nat.zero_le _) (by omega)
      obtain ⟨g, g1, g2, g3⟩ := ih (y + 1) (Mo_s_pl mo f) hS (by omega) (by omega)
      rw [← nI_1 y, pl_pl] at g1
      rw [pl_pl] at f1
      refine ⟨g, Eq.trans f1 g1, fun j a b => ?_, fun j a => ?_⟩
      · by_cases e5 : j = y
        · subst e5; rw [g3 j (by omega)]; exact f2
        · exact g2 j (by omega) b
      · rw [g3 j (by omega)]
        show f j = _
        rw [f3 j (by omega)]
        exact pk_un (by omega)
theorem s_plane_P {sy : Sy} {k h : Nat} {r F : Nat → Nat} {K : Wr → Option Wr} (hk : k < 40) (hh : h ≤ 16) (hht : Sy_ht sy k = nI h) (hr : ∀ y, y < h → Sy_rw sy (16 * k + y) = nI (r y)) (hF : ∀ y, y < 16 → f_Symbols_foretoldRow sy (nI k) (nI y) = some (nI (F y))) :
    ∀ (m y : Nat) (wr : Wr), y ≤ h → h - y < m → ∃ f : Nat → Int32, l_P_Writer_layPlane_2 sy (nI k) K m wr (nI y) = K (Wr_s_pl wr f) ∧ (∀ j, y ≤ j → j < h → f j = nI (r j ^^^ F j)) ∧ ∀ j, j < y → f j = Wr_pl wr j := by
  have ck : (nI k).toNatClampNeg = k := nI_clamp (by omega)
  intro m
  induction m with
  | zero => intro y wr _ h; omega
  | succ m ih =>
    intro y wr h1 h2
    rw [l_P_Writer_layPlane_2, gd_in hk (by decide), ck, hht]
    by_cases e : y = h
    · subst e
      rw [if_pos (nI_le (Nat.le_refl y) (by omega))]
      exact ⟨Wr_pl wr, rfl, fun j a b => by omega, fun j _ => rfl⟩
    · rw [if_neg (nI_ge (by omega) (by omega)), f_Symbols_rowOf, rix, gd_in (show 16 * k + y < 640 by omega) (by decide), bd_s, nI_clamp (show 16 * k + y < 2 ^ 31 by omega), hr y (by omega), hF y (by omega), bd_s, gd_in (show y < 16 by omega) (by decide), nI_clamp (show y < 2 ^ 31 by omega), nx_xor]
      obtain ⟨g, g1, g2, g3⟩ := ih (y + 1) (Wr_s_pl wr (upd (Wr_pl wr) y (nI (r y ^^^ F y)))) (by omega) (by omega)
      rw [← nI_1 y] at g1
      refine ⟨g, g1, fun j a b => ?_, fun j a => ?_⟩
      · by_cases e5 : j = y
        · subst e5; rw [g3 j (by omega)]; exact pk_us
        · exact g2 j (by omega) b
      · rw [g3 j (by omega)]
        exact pk_un (by omega)
theorem s_plane_C {sy : Sy} {k h : Nat} {r F : Nat → Nat} {K : Wr → Option Wr} (hk : k < 40) (hh : h ≤ 16) (hht : Sy_ht sy k = nI h) (hr : ∀ y, y < h → Sy_rw sy (16 * k + y) = nI (r y)) (hF : ∀ y, y < 16 → f_Symbols_foretoldRow sy (nI k) (nI y) = some (nI (F y))) :
    ∀ (m y : Nat) (wr : Wr), y ≤ h → h - y < m → ∃ f : Nat → Int32, l_C_Writer_layPlane_2 sy (nI k) K m wr (nI y) = K (Wr_s_pl wr f) ∧ (∀ j, y ≤ j → j < h → f j = nI (r j ^^^ F j)) ∧ ∀ j, j < y → f j = Wr_pl wr j := by
  have ck : (nI k).toNatClampNeg = k := nI_clamp (by omega)
  intro m
  induction m with
  | zero => intro y wr _ h; omega
  | succ m ih =>
    intro y wr h1 h2
    rw [l_C_Writer_layPlane_2, gd_in hk (by decide), ck, hht]
    by_cases e : y = h
    · subst e
      rw [if_pos (nI_le (Nat.le_refl y) (by omega))]
      exact ⟨Wr_pl wr, rfl, fun j a b => by omega, fun j _ => rfl⟩
    · rw [if_neg (nI_ge (by omega) (by omega)), f_Symbols_rowOf, rix, gd_in (show 16 * k + y < 640 by omega) (by decide), bd_s, nI_clamp (show 16 * k + y < 2 ^ 31 by omega), hr y (by omega), hF y (by omega), bd_s, gd_in (show y < 16 by omega) (by decide), nI_clamp (show y < 2 ^ 31 by omega), nx_xor]
      obtain ⟨g, g1, g2, g3⟩ := ih (y + 1) (Wr_s_pl wr (upd (Wr_pl wr) y (nI (r y ^^^ F y)))) (by omega) (by omega)
      rw [← nI_1 y] at g1
      refine ⟨g, g1, fun j a b => ?_, fun j a => ?_⟩
      · by_cases e5 : j = y
        · subst e5; rw [g3 j (by omega)]; exact pk_us
        · exact g2 j (by omega) b
      · rw [g3 j (by omega)]
        exact pk_un (by omega)
