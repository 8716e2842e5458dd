/-! The dictionaries of both sides, held against each other -/
theorem rix (k y : Nat) : nI k * 16 + nI y = nI (16 * k + y) := by
  rw [show (16 : Int32) = nI 16 from rfl, pk_mul, nI_add, Nat.mul_comm]
theorem rixM (k y : Nat) : 16 * nI k + nI y = nI (16 * k + y) := by
  rw [show (16 : Int32) = nI 16 from rfl, pk_mul, nI_add]
theorem nlt_le {x y : Int32} (h : ¬ x < y) : y ≤ x := by
  rw [Int32.lt_iff_toInt_lt] at h; rw [Int32.le_iff_toInt_le]; omega
theorem nle_lt {x y : Int32} (h : ¬ x ≤ y) : y < x := by
  rw [Int32.le_iff_toInt_le] at h; rw [Int32.lt_iff_toInt_lt]; omega
theorem le_nlt {x y : Int32} (h : x ≤ y) : ¬ y < x := by
  rw [Int32.le_iff_toInt_le] at h; rw [Int32.lt_iff_toInt_lt]; omega
theorem lt_nle {x y : Int32} (h : x < y) : ¬ y ≤ x := by
  rw [Int32.lt_iff_toInt_lt] at h; rw [Int32.le_iff_toInt_le]; omega
theorem i_lt1 {x : Int32} : x < 1 ↔ x ≤ 0 := by
  rw [Int32.lt_iff_toInt_lt, Int32.le_iff_toInt_le]
  have e1 : (1 : Int32).toInt = 1 := by decide
  have e0 : (0 : Int32).toInt = 0 := by decide
  omega
theorem in116 {x : Int32} (h1 : ¬ x < 1) (h2 : ¬ 16 < x) : ∃ a : Nat, 1 ≤ a ∧ a ≤ 16 ∧ x = nI a := by
  rw [Int32.lt_iff_toInt_lt] at h1 h2
  have e1 : (1 : Int32).toInt = 1 := by decide
  have e16 : (16 : Int32).toInt = 16 := by decide
  have h3 : ¬ x < 0 := by
    rw [Int32.lt_iff_toInt_lt]
    have e0 : (0 : Int32).toInt = 0 := by decide
    omega
  obtain ⟨j, hj, rfl⟩ := nI_of h3
  rw [nI_toInt hj] at h1 h2
  exact ⟨j, by omega, by omega, rfl⟩
theorem mask {w : Nat} (x : Int32) (hw : w ≤ 16) : x &&& (((1 : Int32) <<< (nI w &&& 31)) - 1) = nI (x.toBitVec.toNat % 2 ^ w) := by
  have h16 : 2 ^ w ≤ 2 ^ 16 := Nat.pow_le_pow_right (by decide) hw
  have hp := Nat.two_pow_pos w
  have e : (1 : Int32) <<< (nI w &&& 31) = nI (2 ^ w) := by
    have := n_shl (x := 1) (i := w) (by omega) (by omega)
    rw [Nat.one_mul] at this
    exact this
  rw [e]
  have e2 : nI (2 ^ w) - 1 = nI (2 ^ w - 1) := pk_sub (a := 2 ^ w) (b := 1) (by omega)
  rw [e2]
  exact pk_and x w (pk_tn (by omega))
theorem mod_lt16 {w : Nat} (x : Nat) (hw : w ≤ 16) : x % 2 ^ w < 65536 := by
  have h16 : 2 ^ w ≤ 2 ^ 16 := Nat.pow_le_pow_right (by decide) hw
  have := Nat.mod_lt x (Nat.two_pow_pos w)
  omega
theorem pow16 {w r : Nat} (hw : w ≤ 16) (h : r < 2 ^ w) : r < 65536 := by
  have h16 : 2 ^ w ≤ 2 ^ 16 := Nat.pow_le_pow_right (by decide) hw
  omega
/-- a symbol of both sides -/
def Sv (n : Nat) (wd ht : Nat → Nat) (k : Nat) (w1 w2 h1 h2 e1 e2 b1 b2 x1 x2 y1 y2 : Int32) (r1 r2 : Nat → Int32) : Prop :=
  (w1 = nI (wd k) ∧ w2 = nI (wd k) ∧ 1 ≤ wd k ∧ wd k ≤ 16) ∧ (h1 = nI (ht k) ∧ h2 = nI (ht k) ∧ 1 ≤ ht k ∧ ht k ≤ 16) ∧
  (e1 = e2 ∧ (e2 = 0 ∨ e2 = 1)) ∧ (b1 = b2 ∧ (b2 = -1 ∨ ∃ b, b < n ∧ b2 = nI b ∧ bef wd ht b k = true)) ∧
  (x1 = x2 ∧ ∃ a : Nat, a ≤ 8 ∧ x2 = nI a - 4) ∧ (y1 = y2 ∧ ∃ a : Nat, a ≤ 8 ∧ y2 = nI a - 4) ∧
  (∀ y, y < ht k → r1 y = r2 y ∧ ∃ r, r < 2 ^ wd k ∧ r2 y = nI r) ∧ (∀ y, ht k ≤ y → y < 16 → r2 y = 0)
/-- the class's symbols and the reference's, those of the latter from place o -/
def Dc (o : Nat) (sy : Sy) (mo : Mo) (n : Nat) (wd ht : Nat → Nat) : Prop := n ≤ 40 ∧ ∀ k, k < n → Sv n wd ht k (Sy_wd sy k) (Mo_wd mo (k + o)) (Sy_ht sy k) (Mo_ht mo (k + o)) (Sy_ex sy k) (Mo_ex mo (k + o)) (Sy_bs sy k) (Mo_bs mo (k + o)) (Sy_dx sy k) (Mo_dx mo (k + o)) (Sy_dy sy k) (Mo_dy mo (k + o)) (fun y => Sy_rw sy (16 * k + y)) (fun y => Mo_rw mo (16 * (k + o) + y))
theorem D0 {sy : Sy} {mo : Mo} {n : Nat} {wd ht : Nat → Nat} {k : Nat} (h : Dc 0 sy mo n wd ht) (hk : k < n) : Sv n wd ht k (Sy_wd sy k) (Mo_wd mo k) (Sy_ht sy k) (Mo_ht mo k) (Sy_ex sy k) (Mo_ex mo k) (Sy_bs sy k) (Mo_bs mo k) (Sy_dx sy k) (Mo_dx mo k) (Sy_dy sy k) (Mo_dy mo k) (fun y => Sy_rw sy (16 * k + y)) (fun y => Mo_rw mo (16 * k + y)) := h.2 k hk
theorem Dc_S {o : Nat} {sy : Sy} {mo : Mo} {n : Nat} {wd ht : Nat → Nat} (hn : Sy_n sy = nI n) (h : Dc o sy mo n wd ht) : SzS sy n wd ht :=
  ⟨hn, h.1, fun k hk => ⟨⟨(h.2 k hk).1.1, (h.2 k hk).1.2.2.1, (h.2 k hk).1.2.2.2⟩, (h.2 k hk).2.1.1, (h.2 k hk).2.1.2.2.1, (h.2 k hk).2.1.2.2.2⟩⟩
theorem Dc_M {sy : Sy} {mo : Mo} {n : Nat} {wd ht : Nat → Nat} (hn : Mo_n mo = nI n) (h : Dc 0 sy mo n wd ht) : SzM mo n wd ht :=
  ⟨hn, h.1, fun k hk => ⟨⟨(D0 h hk).1.2.1, (D0 h hk).1.2.2.1, (D0 h hk).1.2.2.2⟩, (D0 h hk).2.1.2.1, (D0 h hk).2.1.2.2.1, (D0 h hk).2.1.2.2.2⟩⟩
/-- the classes -/
def Cn (cu : Sy) (mo : Mo) (n : Nat) : Prop := ∃ cl : Nat, cl ≤ n ∧ Mo_cl mo = nI cl ∧ ∀ k, k < n → Sy_co cu k = if k < cl then Mo_co mo k else -1
/-- what is written -/
def Ow (w : Br) (mo : Mo) : Prop := ∃ m : Nat, m ≤ 16000 ∧ m ≤ Br_byL w ∧ Br_byL w ≤ 40000 ∧ Br_n w = nI m ∧ Mo_on mo = nI m ∧ ∀ i, i < m → Br_by w i = Mo_out mo i
/-- what waits to be read -/
def Iv (v : Br) (mo : Mo) : Prop := ∃ m : Nat, m ≤ 3000 ∧ Br_byL v = 3000 ∧ Br_n v = nI m ∧ Mo_inn mo = nI m ∧ ∀ i, i < m → Br_by v i = Mo_inp mo i
def RlB (kd : Int32) (sd : Sd) (cu : Sy) (w v : Br) (mo : Mo) : Prop :=
  (Sd_kd sd = kd ∧ Mo_kind mo = kd) ∧ (∃ (n : Nat) (wd ht : Nat → Nat), Sy_n cu = nI n ∧ Mo_n mo = nI n ∧ Dc 0 cu mo n wd ht ∧ Cn cu mo n) ∧ Ow w mo ∧ Iv v mo
def Rl_P (sd : Sd) (cu sp : Sy) (w v : Br) (wr : Wr) (rd : Rd) (pb : Pb) (mo : Mo) : Prop := ∃ kd : Int32, (kd = 0 ∨ kd = 1) ∧ Wr_br wr = kd ∧ Rd_br rd = kd ∧ RlB kd sd cu w v mo
def Rl_C (sd : Sd) (cu sp : Sy) (w v : Br) (wr : Wr) (rd : Rd) (cb : Cb) (mo : Mo) : Prop := Wr_br wr = 0 ∧ Rd_br rd = 0 ∧ RlB 2 sd cu w v mo
theorem rf0 (mo : Mo) : f_Model_refuses mo 0 = some (0, Mo_s_code mo 0) := by rw [f_Model_refuses]; rfl
theorem rf1 (mo : Mo) : f_Model_refuses mo 1 = some (1, Mo_s_code mo 1) := by rw [f_Model_refuses]; rfl
theorem rf2 (mo : Mo) : f_Model_refuses mo 2 = some (1, Mo_s_code mo 2) := by rw [f_Model_refuses]; rfl
theorem rf3 (mo : Mo) : f_Model_refuses mo 3 = some (1, Mo_s_code mo 3) := by rw [f_Model_refuses]; rfl
section Req
variable {sd : Sd} {cu : Sy} {mo : Mo} {n : Nat} {x : Int32} {j : Nat}
theorem rs_ok (hn : Sy_n cu = nI n) (h40 : n ≤ 40) (hj : j < n) : f_SD_requireSymbol sd cu (nI j) = some () := by
  rw [f_SD_requireSymbol, if_neg (nI_pos (by omega)), hn, if_pos (nI_lt hj (by omega))]
theorem re_ok (hn : Sy_n cu = nI n) (h40 : n ≤ 40) (hj : j < n) : e_SD_requireSymbol sd cu (nI j) = none := by
  rw [e_SD_requireSymbol, if_neg (nI_pos (by omega)), hn, if_pos (nI_lt hj (by omega))]
theorem re_no (hn : Sy_n cu = nI n) (hx : x < 0 ∨ nI n ≤ x) : e_SD_requireSymbol sd cu x = some 3 := by
  rw [e_SD_requireSymbol]
  by_cases h0 : x < 0
  · rw [if_pos h0]
  · rcases hx with h | h
    · exact absurd h h0
    · rw [if_neg h0, hn, if_neg (le_nlt h)]
theorem ms_ok (hm : Mo_n mo = nI n) (h40 : n ≤ 40) (hj : j < n) : f_Model_isSymbol mo (nI j) = some 1 := by
  rw [f_Model_isSymbol, if_neg (nI_pos (by omega)), hm, if_neg (nI_ge hj (by omega))]
theorem ms_no (hm : Mo_n mo = nI n) (hx : x < 0 ∨ nI n ≤ x) : f_Model_isSymbol mo x = some 0 := by
  rw [f_Model_isSymbol]
  by_cases h0 : x < 0
  · rw [if_pos h0]
  · rcases hx with h | h
    · exact absurd h h0
    · rw [if_neg h0, hm, if_pos h]
end Req
theorem s_setRow {sy : Sy} {k y w : Nat} (x : Int32) (hwd : Sy_wd sy k = nI w) (hw : w ≤ 16) (hk : k < 40) (hy : y < 16) : f_Symbols_setRow sy (nI k) (nI y) x = some (nI (pop (x.toBitVec.toNat % 2 ^ w) 16), Sy_s_rw sy (upd (Sy_rw sy) (16 * k + y) (nI (x.toBitVec.toNat % 2 ^ w)))) := by
  have ck : (nI k).toNatClampNeg = k := nI_clamp (by omega)
  have cr : (nI (16 * k + y)).toNatClampNeg = 16 * k + y := nI_clamp (by omega)
  rw [f_Symbols_setRow, f_Symbols_withinWidth, gd_in hk (by decide), ck, hwd, mask x hw, bd_s, rix, gd_in (show 16 * k + y < 640 by omega) (by decide), cr, s_bitCount (mod_lt16 _ hw)]
  rfl
theorem s_add_l {k h w : Nat} {K : Sy → Option (Int32 × Sy)} (hw : w ≤ 16) (hk : k < 40) (hh : h ≤ 16) : ∀ (m y : Nat) (sy : Sy), Sy_wd sy k = nI w → y ≤ h → h - y < m → ∃ f' : Nat → Int32, l_Symbols_add_44 (nI h) (nI k) K m sy (nI y) = K (Sy_s_rw sy f') ∧ (∀ y', y ≤ y' → y' < h → f' (16 * k + y') = 0) ∧ ∀ j, (j < 16 * k + y ∨ 16 * k + h ≤ j) → f' j = Sy_rw sy j := by
  intro m
  induction m with
  | zero => intro y sy _ _ h2; omega
  | succ m ih =>
    intro y sy hwd h1 h2
    rw [l_Symbols_add_44]
    by_cases e : y = h
    · subst e
      rw [if_pos (nI_le (Nat.le_refl y) (by omega))]
      exact ⟨Sy_rw sy, rfl, fun y' a b => by omega, fun j _ => rfl⟩
    · rw [if_neg (nI_ge (by omega) (by omega)), s_setRow 0 hwd hw hk (by omega), bd_s]
      obtain ⟨f', e1, e2, e3⟩ := ih (y + 1) (Sy_s_rw sy (upd (Sy_rw sy) (16 * k + y) (nI ((0 : Int32).toBitVec.toNat % 2 ^ w)))) hwd (by omega) (by omega)
      rw [← nI_1 y] at e1
      refine ⟨f', e1, fun y' a b => ?_, fun j hj => ?_⟩
      · by_cases e5 : y' = y
        · subst e5
          have e6 := e3 (16 * k + y') (by omega)
          rw [e6]
          show upd (Sy_rw sy) (16 * k + y') (nI ((0 : Int32).toBitVec.toNat % 2 ^ w)) (16 * k + y') = 0
          rw [pk_us, show (0 : Int32).toBitVec.toNat = 0 from rfl, Nat.zero_mod]
          rfl
        · exact e2 y' (by omega) b
      · have e6 := e3 j (by omega)
        rw [e6]
        exact pk_un (by omega)
theorem s_add {sy : Sy} {n w h : Nat} (hn : Sy_n sy = nI n) (h40 : n < 40) (hw : w ≤ 16) (hh : h ≤ 16) : ∃ f : Nat → Int32, f_Symbols_add sy (nI w) (nI h) = some (nI n, (upd (Sy_wd sy) n (nI w), upd (Sy_ht sy) n (nI h), upd (Sy_ex sy) n (vp_nar .boolean 0), upd (Sy_bs sy) n (-1), upd (Sy_dx sy) n 0, upd (Sy_dy sy) n 0, upd (Sy_co sy) n (-1), nI (n + 1), f, Sy_fc sy)) ∧ (∀ y, y < h → f (16 * n + y) = 0) ∧ ∀ j, j < 16 * n → f j = Sy_rw sy j := by
  have ck : (nI n).toNatClampNeg = n := nI_clamp (by omega)
  obtain ⟨f, e1, e2, e3⟩ := s_add_l (k := n) (h := h) (w := w) (K := fun sy_20 => lt' (Sy_s_n sy_20 (nI n + 1)) <| fun sy_21 => some (nI n, sy_21)) hw h40 hh 100000 0 (upd (Sy_wd sy) n (nI w), upd (Sy_ht sy) n (nI h), upd (Sy_ex sy) n (vp_nar .boolean 0), upd (Sy_bs sy) n (-1), upd (Sy_dx sy) n 0, upd (Sy_dy sy) n 0, upd (Sy_co sy) n (-1), Sy_n sy, Sy_rw sy, Sy_fc sy) pk_us (Nat.zero_le h) (by omega)
  refine ⟨f, ?_, fun y hy => e2 y (Nat.zero_le y) hy, fun j hj => e3 j (by omega)⟩
  rw [f_Symbols_add, hn]
  simp only [lt', gd_in h40 (by decide : 40 < 2 ^ 31), ck, f_Symbols_refine, bd_s]
  rw [← nI_1 n]
  exact e1
theorem m_symbol_l {n : Nat} {K : Mo → Option (Int32 × Mo)} (h40 : n < 40) : ∀ (m y : Nat) (mo : Mo), Mo_n mo = nI n → y ≤ 16 → 16 - y < m → ∃ f' : Nat → Int32, l_Model_symbol_80 K m mo (nI y) = K (Mo_s_rw mo f') ∧ (∀ y', y ≤ y' → y' < 16 → f' (16 * n + y') = 0) ∧ ∀ j, (j < 16 * n + y ∨ 16 * n + 16 ≤ j) → f' j = Mo_rw mo j := by
  intro m
  induction m with
  | zero => intro y mo _ _ h2; omega
  | succ m ih =>
    intro y mo hn h1 h2
    rw [l_Model_symbol_80]
    by_cases e : y = 16
    · subst e
      rw [if_pos (show (16 : Int32) ≤ nI 16 from nI_le (Nat.le_refl 16) (by decide))]
      exact ⟨Mo_rw mo, rfl, fun y' a b => by omega, fun j _ => rfl⟩
    · rw [if_neg (show ¬ (16 : Int32) ≤ nI y from nI_ge (b := 16) (by omega) (by decide)), hn, rixM, gd_in (show 16 * n + y < 1280 by omega) (by decide), nI_clamp (show 16 * n + y < 2 ^ 31 by omega)]
      obtain ⟨f', e1, e2, e3⟩ := ih (y + 1) (Mo_s_rw mo (upd (Mo_rw mo) (16 * n + y) 0)) hn (by omega) (by omega)
      rw [← nI_1 y] at e1
      refine ⟨f', e1, fun y' a b => ?_, fun j hj => ?_⟩
      · by_cases e5 : y' = y
        · subst e5
          have e6 := e3 (16 * n + y') (by omega)
          rw [e6]
          exact pk_us
        · exact e2 y' (by omega) b
      · have e6 := e3 j (by omega)
        rw [e6]
        exact pk_un (by omega)
theorem m_symbol {mo : Mo} {n w h : Nat} (hn : Mo_n mo = nI n) (h40 : n < 40) : ∃ f : Nat → Int32, j_Model_symbol_49_4 mo (nI w) (nI h) 0 = some (nI n, Mo_s_n (Mo_s_dy (Mo_s_dx (Mo_s_bs (Mo_s_ex (Mo_s_rw (Mo_s_ht (Mo_s_wd (Mo_s_code mo 0) (upd (Mo_wd mo) n (nI w))) (upd (Mo_ht mo) n (nI h))) f) (upd (Mo_ex mo) n (vp_nar .boolean 0))) (upd (Mo_bs mo) n (-1))) (upd (Mo_dx mo) n 0)) (upd (Mo_dy mo) n 0)) (nI (n + 1))) ∧ (∀ y, y < 16 → f (16 * n + y) = 0) ∧ ∀ j, j < 16 * n → f j = Mo_rw mo j := by
  have ck : (nI n).toNatClampNeg = n := nI_clamp (by omega)
  have hg : inb (nI n) 80 = true := inb_nI (by omega) (by decide)
  obtain ⟨f, e1, e2, e3⟩ := m_symbol_l (n := n) (K := fun mo_20 => gd (inb (Mo_n mo_20) 80) <| lt' (Mo_s_ex mo_20 (upd (Mo_ex mo_20) (Mo_n mo_20).toNatClampNeg (vp_nar .boolean 0))) <| fun mo_22 => gd (inb (Mo_n mo_22) 80) <| lt' (Mo_s_bs mo_22 (upd (Mo_bs mo_22) (Mo_n mo_22).toNatClampNeg (-1))) <| fun mo_25 => gd (inb (Mo_n mo_25) 80) <| lt' (Mo_s_dx mo_25 (upd (Mo_dx mo_25) (Mo_n mo_25).toNatClampNeg 0)) <| fun mo_28 => gd (inb (Mo_n mo_28) 80) <| lt' (Mo_s_dy mo_28 (upd (Mo_dy mo_28) (Mo_n mo_28).toNatClampNeg 0)) <| fun mo_31 => lt' (Mo_s_n mo_31 ((Mo_n mo_31) + 1)) <| fun mo_33 => some ((Mo_n mo_33) - 1, mo_33)) h40 100000 0 (Mo_s_ht (Mo_s_wd (Mo_s_code mo 0) (upd (Mo_wd mo) n (nI w))) (upd (Mo_ht mo) n (nI h))) hn (by omega) (by omega)
  refine ⟨f, ?_, fun y hy => e2 y (Nat.zero_le y) hy, fun j hj => e3 j (by omega)⟩
  rw [j_Model_symbol_49_4, rf0, bd_s]
  show gd (inb (Mo_n mo) 80) (gd (inb (Mo_n mo) 80) (l_Model_symbol_80 _ 100000 (Mo_s_ht (Mo_s_wd (Mo_s_code mo 0) (upd (Mo_wd mo) (Mo_n mo).toNatClampNeg (nI w))) (upd (Mo_ht mo) (Mo_n mo).toNatClampNeg (nI h))) 0)) = _
  rw [hn, ck, gd_t hg, gd_t hg]
  refine Eq.trans e1 ?_
  show gd (inb (Mo_n mo) 80) (gd (inb (Mo_n mo) 80) (gd (inb (Mo_n mo) 80) (gd (inb (Mo_n mo) 80) (some ((Mo_n mo + 1) - 1, Mo_s_n (Mo_s_dy (Mo_s_dx (Mo_s_bs (Mo_s_ex (Mo_s_rw (Mo_s_ht (Mo_s_wd (Mo_s_code mo 0) (upd (Mo_wd mo) n (nI w))) (upd (Mo_ht mo) n (nI h))) f) (upd (Mo_ex mo) (Mo_n mo).toNatClampNeg (vp_nar .boolean 0))) (upd (Mo_bs mo) (Mo_n mo).toNatClampNeg (-1))) (upd (Mo_dx mo) (Mo_n mo).toNatClampNeg 0)) (upd (Mo_dy mo) (Mo_n mo).toNatClampNeg 0)) (Mo_n mo + 1)))))) = _
  rw [hn, ck, gd_t hg, gd_t hg, gd_t hg, gd_t hg, nI_1 n, nI_pred]
