/-! Long numbers: masks and shifts -/
theorem lk_tn {n : Nat} (h : n < 2 ^ 64) : (lN n).toBitVec.toNat = n := Nat.mod_eq_of_lt h
theorem lk_eq {x : Int64} {n : Nat} (hn : n < 2 ^ 64) (h : x.toBitVec.toNat = n) : x = lN n := by
  apply Int64.toBitVec_inj.mp
  apply BitVec.eq_of_toNat_eq
  rw [h, lk_tn hn]
theorem lk_and {n : Nat} (h : n < 2 ^ 64) {m : Int64} (k : Nat) (hm : m.toBitVec.toNat = 2 ^ k - 1) : lN n &&& m = lN (n % 2 ^ k) := by
  apply lk_eq (Nat.lt_of_le_of_lt (Nat.mod_le _ _) h)
  rw [Int64.toBitVec_and, BitVec.toNat_and, hm, Nat.and_two_pow_sub_one_eq_mod, lk_tn h]
theorem lk_shl {n : Nat} (s : Int64) (k : Nat) (hs : (s.toBitVec.smod 64).toNat = k) (h : n * 2 ^ k < 2 ^ 64) : lN n <<< s = lN (n * 2 ^ k) := by
  have hn : n < 2 ^ 64 := Nat.lt_of_le_of_lt (Nat.le_mul_of_pos_right n (Nat.two_pow_pos k)) h
  apply lk_eq h
  show ((lN n).toBitVec <<< (s.toBitVec.smod 64).toNat).toNat = _
  rw [hs, BitVec.toNat_shiftLeft, Nat.shiftLeft_eq, lk_tn hn, Nat.mod_eq_of_lt h]
theorem lk_shr {n : Nat} (h : n < 2 ^ 63) (s : Int64) (k : Nat) (hs : (s.toBitVec.smod 64).toNat = k) : lN n >>> s = lN (n / 2 ^ k) := by
  apply Int64.toInt_inj.mp
  have h2 : n / 2 ^ k ≤ n := Nat.div_le_self _ _
  show ((lN n).toBitVec.sshiftRight (s.toBitVec.smod 64).toNat).toInt = _
  rw [hs, BitVec.toInt_sshiftRight, pk_lT (by omega)]
  show (lN n).toInt >>> k = _
  rw [pk_lT h, Int.shiftRight_eq_div_pow]
  rfl
theorem lk_or (a b : Nat) : lN a ||| lN b = lN (a ||| b) := by
  apply Int64.toBitVec_inj.mp
  apply BitVec.eq_of_toNat_eq
  show ((BitVec.ofNat 64 a) ||| (BitVec.ofNat 64 b)).toNat = (BitVec.ofNat 64 (a ||| b)).toNat
  rw [BitVec.toNat_or, BitVec.toNat_ofNat, BitVec.toNat_ofNat, BitVec.toNat_ofNat, Nat.or_mod_two_pow]
/-- the highest byte of four -/
theorem lk_top {n : Nat} (h : n < 2 ^ 32) : lN n >>> ((24 : Int32).toInt64 &&& 63) = lN (n / 16777216) := lk_shr (by omega) _ 24 (by decide)
theorem lk_shC {n : Nat} (h : n < 2 ^ 32) : (lN n &&& 16777215) <<< ((8 : Int32).toInt64 &&& 63) = lN (n % 16777216 * 256) := by
  rw [lk_and (by omega) 24 (by decide)]
  exact lk_shl _ 8 (by decide) (by have := Nat.mod_lt n (show 2 ^ 24 > 0 by decide); omega)
theorem lk_shM {n : Nat} (h : n < 2 ^ 32) : (lN n <<< ((8 : Int32).toInt64 &&& 63)) &&& 4294967295 = lN (n % 16777216 * 256) := by
  rw [lk_shl _ 8 (by decide) (show n * 2 ^ 8 < 2 ^ 64 by omega), lk_and (by omega) 32 (by decide)]
  exact congrArg lN (by omega)
theorem lk_or255 {n : Nat} : lN (n * 256) ||| 255 = lN (n * 256 + 255) := by
  have h : 2 ^ 8 * n + 255 = 2 ^ 8 * n ||| 255 := Nat.two_pow_add_eq_or_of_lt (by decide) n
  rw [show (255 : Int64) = lN 255 from rfl, lk_or, show n * 256 = 2 ^ 8 * n by omega, ← h]
/-- a byte behind the others, where the row may grow -/
theorem s_addG {b : Br} {m : Nat} (x : Int32) (h : m ≤ Br_byL b) (h16 : m ≤ 16000) (hL : Br_byL b ≤ 40000) (hn : Br_n b = nI m) : ∃ (L : Nat) (f : Nat → Int32), f_ByteRow_add b x = some (L, f, nI (m + 1), Br_tk b) ∧ m + 1 ≤ L ∧ L ≤ 40000 ∧ (∀ i, i < m → f i = Br_by b i) ∧ f m = x := by
  by_cases e : m < Br_byL b
  · exact ⟨Br_byL b, upd (Br_by b) m x, s_add1 x e hL hn, e, hL, fun i hi => pk_un (by omega), pk_us⟩
  · have e2 : Br_byL b = m := by omega
    have hlt : ¬ Br_n b < Int32.ofNat (Br_byL b) := by rw [hn, e2]; exact nI_nlt (Nat.le_refl m) (by omega)
    have hg : f_ByteRow_grow b = some (2 * m + 1, va_cpy (Br_by b) (fun _ => 0) 0 0 m, nI m, Br_tk b) := by
      rw [f_ByteRow_grow, gd_t (decide_eq_true ⟨by rw [hn, e2], hL⟩), e2, hn]
    refine ⟨2 * m + 1, upd (va_cpy (Br_by b) (fun _ => 0) 0 0 m) m x, ?_, by omega, by omega, fun i hi => ?_, pk_us⟩
    · rw [f_ByteRow_add, if_neg hlt, hg, bd_s]
      show gd (inb (nI m) (2 * m + 1)) (some (2 * m + 1, upd (va_cpy (Br_by b) (fun _ => 0) 0 0 m) (nI m).toNatClampNeg x, nI m + 1, Br_tk b)) = _
      rw [gd_in (show m < 2 * m + 1 by omega) (by omega), nI_clamp (show m < 2 ^ 31 by omega), nI_1]
    · rw [pk_un (by omega), pk_cpy_in (by omega) (by omega)]
      exact congrArg (Br_by b) (by omega)
/-! What a part of the reference may change -/
def Mo_e (mo : Mo) (z_out : (Nat → Int32)) (z_on : Int32) (z_ob : Int32) (z_lo : Int64) (z_hi : Int64) (z_ch : (Nat → Int32)) : Mo := (Mo_code mo, Mo_kind mo, Mo_n mo, Mo_wd mo, Mo_ht mo, Mo_rw mo, Mo_ex mo, Mo_bs mo, Mo_dx mo, Mo_dy mo, Mo_pc mo, Mo_od mo, Mo_cl mo, Mo_co mo, Mo_fc mo, z_on, z_ob, z_out, Mo_inn mo, Mo_ia mo, Mo_inp mo, z_ch, z_lo, z_hi, Mo_tk mo, Mo_pl mo, Mo_why mo)
def Em (mo mo' : Mo) : Prop := ∃ (z_out : (Nat → Int32)) (z_on : Int32) (z_ob : Int32) (z_lo : Int64) (z_hi : Int64) (z_ch : (Nat → Int32)), mo' = Mo_e mo z_out z_on z_ob z_lo z_hi z_ch
theorem Em.refl (mo : Mo) : Em mo mo := ⟨Mo_out mo, Mo_on mo, Mo_ob mo, Mo_lo mo, Mo_hi mo, Mo_ch mo, rfl⟩
theorem Em_2 (mo : Mo) (a_out b_out : (Nat → Int32)) (a_on b_on : Int32) (a_ob b_ob : Int32) (a_lo b_lo : Int64) (a_hi b_hi : Int64) (a_ch b_ch : (Nat → Int32)) : Mo_e (Mo_e mo a_out a_on a_ob a_lo a_hi a_ch) b_out b_on b_ob b_lo b_hi b_ch = Mo_e mo b_out b_on b_ob b_lo b_hi b_ch := by
  obtain ⟨m1, m2, m3, m4, m5, m6, m7, m8, m9, m10, m11, m12, m13, m14, m15, m16, m17, m18, m19, m20, m21, m22, m23, m24, m25, m26, m27⟩ := mo
  exact Eq.trans (b := (m1, m2, m3, m4, m5, m6, m7, m8, m9, m10, m11, m12, m13, m14, m15, b_on, b_ob, b_out, m19, m20, m21, b_ch, b_lo, b_hi, m25, m26, m27)) rfl rfl
theorem Em.trans {a b c : Mo} (h1 : Em a b) (h2 : Em b c) : Em a c := by
  obtain ⟨a_out, a_on, a_ob, a_lo, a_hi, a_ch, rfl⟩ := h1
  obtain ⟨b_out, b_on, b_ob, b_lo, b_hi, b_ch, rfl⟩ := h2
  exact ⟨b_out, b_on, b_ob, b_lo, b_hi, b_ch, Em_2 a a_out b_out a_on b_on a_ob b_ob a_lo b_lo a_hi b_hi a_ch b_ch⟩
def Mo_w (mo : Mo) (z_pl : (Nat → Int32)) (z_out : (Nat → Int32)) (z_on : Int32) (z_ob : Int32) (z_lo : Int64) (z_hi : Int64) (z_ch : (Nat → Int32)) : Mo := (Mo_code mo, Mo_kind mo, Mo_n mo, Mo_wd mo, Mo_ht mo, Mo_rw mo, Mo_ex mo, Mo_bs mo, Mo_dx mo, Mo_dy mo, Mo_pc mo, Mo_od mo, Mo_cl mo, Mo_co mo, Mo_fc mo, z_on, z_ob, z_out, Mo_inn mo, Mo_ia mo, Mo_inp mo, z_ch, z_lo, z_hi, Mo_tk mo, z_pl, Mo_why mo)
def Ep (mo mo' : Mo) : Prop := ∃ (z_pl : (Nat → Int32)) (z_out : (Nat → Int32)) (z_on : Int32) (z_ob : Int32) (z_lo : Int64) (z_hi : Int64) (z_ch : (Nat → Int32)), mo' = Mo_w mo z_pl z_out z_on z_ob z_lo z_hi z_ch
theorem Ep.refl (mo : Mo) : Ep mo mo := ⟨Mo_pl mo, Mo_out mo, Mo_on mo, Mo_ob mo, Mo_lo mo, Mo_hi mo, Mo_ch mo, rfl⟩
theorem Ep_2 (mo : Mo) (a_pl b_pl : (Nat → Int32)) (a_out b_out : (Nat → Int32)) (a_on b_on : Int32) (a_ob b_ob : Int32) (a_lo b_lo : Int64) (a_hi b_hi : Int64) (a_ch b_ch : (Nat → Int32)) : Mo_w (Mo_w mo a_pl a_out a_on a_ob a_lo a_hi a_ch) b_pl b_out b_on b_ob b_lo b_hi b_ch = Mo_w mo b_pl b_out b_on b_ob b_lo b_hi b_ch := by
  obtain ⟨m1, m2, m3, m4, m5, m6, m7, m8, m9, m10, m11, m12, m13, m14, m15, m16, m17, m18, m19, m20, m21, m22, m23, m24, m25, m26, m27⟩ := mo
  exact Eq.trans (b := (m1, m2, m3, m4, m5, m6, m7, m8, m9, m10, m11, m12, m13, m14, m15, b_on, b_ob, b_out, m19, m20, m21, b_ch, b_lo, b_hi, m25, b_pl, m27)) rfl rfl
theorem Ep.trans {a b c : Mo} (h1 : Ep a b) (h2 : Ep b c) : Ep a c := by
  obtain ⟨a_pl, a_out, a_on, a_ob, a_lo, a_hi, a_ch, rfl⟩ := h1
  obtain ⟨b_pl, b_out, b_on, b_ob, b_lo, b_hi, b_ch, rfl⟩ := h2
  exact ⟨b_pl, b_out, b_on, b_ob, b_lo, b_hi, b_ch, Ep_2 a a_pl b_pl a_out b_out a_on b_on a_ob b_ob a_lo b_lo a_hi b_hi a_ch b_ch⟩
theorem Em_P (mo : Mo) (y_out : (Nat → Int32)) (y_on : Int32) (y_ob : Int32) (y_ch : (Nat → Int32)) : Em mo (Mo_s_ch (Mo_s_ob (Mo_s_on (Mo_s_out mo y_out) y_on) y_ob) y_ch) := by
  refine ⟨y_out, y_on, y_ob, Mo_lo mo, Mo_hi mo, y_ch, ?_⟩
  obtain ⟨m1, m2, m3, m4, m5, m6, m7, m8, m9, m10, m11, m12, m13, m14, m15, m16, m17, m18, m19, m20, m21, m22, m23, m24, m25, m26, m27⟩ := mo
  exact Eq.trans (b := (m1, m2, m3, m4, m5, m6, m7, m8, m9, m10, m11, m12, m13, m14, m15, y_on, y_ob, y_out, m19, m20, m21, y_ch, m23, m24, m25, m26, m27)) rfl rfl
theorem Em_S (mo : Mo) (y_out : (Nat → Int32)) (y_on : Int32) (y_lo : Int64) (y_hi : Int64) : Em mo (Mo_s_hi (Mo_s_lo (Mo_s_on (Mo_s_out mo y_out) y_on) y_lo) y_hi) := by
  refine ⟨y_out, y_on, Mo_ob mo, y_lo, y_hi, Mo_ch mo, ?_⟩
  obtain ⟨m1, m2, m3, m4, m5, m6, m7, m8, m9, m10, m11, m12, m13, m14, m15, m16, m17, m18, m19, m20, m21, m22, m23, m24, m25, m26, m27⟩ := mo
  exact Eq.trans (b := (m1, m2, m3, m4, m5, m6, m7, m8, m9, m10, m11, m12, m13, m14, m15, y_on, m17, y_out, m19, m20, m21, m22, y_lo, y_hi, m25, m26, m27)) rfl rfl
theorem Em_L (mo : Mo) (y_hi : Int64) (y_lo : Int64) : Em mo (Mo_s_lo (Mo_s_hi mo y_hi) y_lo) := by
  refine ⟨Mo_out mo, Mo_on mo, Mo_ob mo, y_lo, y_hi, Mo_ch mo, ?_⟩
  obtain ⟨m1, m2, m3, m4, m5, m6, m7, m8, m9, m10, m11, m12, m13, m14, m15, m16, m17, m18, m19, m20, m21, m22, m23, m24, m25, m26, m27⟩ := mo
  exact Eq.trans (b := (m1, m2, m3, m4, m5, m6, m7, m8, m9, m10, m11, m12, m13, m14, m15, m16, m17, m18, m19, m20, m21, m22, y_lo, y_hi, m25, m26, m27)) rfl rfl
theorem Em_C (mo : Mo) (y_ch : (Nat → Int32)) : Em mo (Mo_s_ch mo y_ch) := by
  refine ⟨Mo_out mo, Mo_on mo, Mo_ob mo, Mo_lo mo, Mo_hi mo, y_ch, ?_⟩
  obtain ⟨m1, m2, m3, m4, m5, m6, m7, m8, m9, m10, m11, m12, m13, m14, m15, m16, m17, m18, m19, m20, m21, m22, m23, m24, m25, m26, m27⟩ := mo
  exact Eq.trans (b := (m1, m2, m3, m4, m5, m6, m7, m8, m9, m10, m11, m12, m13, m14, m15, m16, m17, m18, m19, m20, m21, y_ch, m23, m24, m25, m26, m27)) rfl rfl
theorem Em_O (mo : Mo) (y_out : (Nat → Int32)) (y_ob : Int32) : Em mo (Mo_s_ob (Mo_s_out mo y_out) y_ob) := by
  refine ⟨y_out, Mo_on mo, y_ob, Mo_lo mo, Mo_hi mo, Mo_ch mo, ?_⟩
  obtain ⟨m1, m2, m3, m4, m5, m6, m7, m8, m9, m10, m11, m12, m13, m14, m15, m16, m17, m18, m19, m20, m21, m22, m23, m24, m25, m26, m27⟩ := mo
  exact Eq.trans (b := (m1, m2, m3, m4, m5, m6, m7, m8, m9, m10, m11, m12, m13, m14, m15, m16, y_ob, y_out, m19, m20, m21, m22, m23, m24, m25, m26, m27)) rfl rfl
theorem Em_B (mo : Mo) (y_out : (Nat → Int32)) (y_on : Int32) : Em mo (Mo_s_on (Mo_s_out mo y_out) y_on) := by
  refine ⟨y_out, y_on, Mo_ob mo, Mo_lo mo, Mo_hi mo, Mo_ch mo, ?_⟩
  obtain ⟨m1, m2, m3, m4, m5, m6, m7, m8, m9, m10, m11, m12, m13, m14, m15, m16, m17, m18, m19, m20, m21, m22, m23, m24, m25, m26, m27⟩ := mo
  exact Eq.trans (b := (m1, m2, m3, m4, m5, m6, m7, m8, m9, m10, m11, m12, m13, m14, m15, y_on, m17, y_out, m19, m20, m21, m22, m23, m24, m25, m26, m27)) rfl rfl
theorem Em_l (mo : Mo) (y_lo : Int64) : Em mo (Mo_s_lo mo y_lo) := by
  refine ⟨Mo_out mo, Mo_on mo, Mo_ob mo, y_lo, Mo_hi mo, Mo_ch mo, ?_⟩
  obtain ⟨m1, m2, m3, m4, m5, m6, m7, m8, m9, m10, m11, m12, m13, m14, m15, m16, m17, m18, m19, m20, m21, m22, m23, m24, m25, m26, m27⟩ := mo
  exact Eq.trans (b := (m1, m2, m3, m4, m5, m6, m7, m8, m9, m10, m11, m12, m13, m14, m15, m16, m17, m18, m19, m20, m21, m22, y_lo, m24, m25, m26, m27)) rfl rfl
theorem Em_h (mo : Mo) (y_hi : Int64) : Em mo (Mo_s_hi mo y_hi) := by
  refine ⟨Mo_out mo, Mo_on mo, Mo_ob mo, Mo_lo mo, y_hi, Mo_ch mo, ?_⟩
  obtain ⟨m1, m2, m3, m4, m5, m6, m7, m8, m9, m10, m11, m12, m13, m14, m15, m16, m17, m18, m19, m20, m21, m22, m23, m24, m25, m26, m27⟩ := mo
  exact Eq.trans (b := (m1, m2, m3, m4, m5, m6, m7, m8, m9, m10, m11, m12, m13, m14, m15, m16, m17, m18, m19, m20, m21, m22, m23, y_hi, m25, m26, m27)) rfl rfl
theorem Em_R (mo : Mo) (y_lo : Int64) (y_hi : Int64) : Em mo (Mo_s_hi (Mo_s_lo mo y_lo) y_hi) := by
  refine ⟨Mo_out mo, Mo_on mo, Mo_ob mo, y_lo, y_hi, Mo_ch mo, ?_⟩
  obtain ⟨m1, m2, m3, m4, m5, m6, m7, m8, m9, m10, m11, m12, m13, m14, m15, m16, m17, m18, m19, m20, m21, m22, m23, m24, m25, m26, m27⟩ := mo
  exact Eq.trans (b := (m1, m2, m3, m4, m5, m6, m7, m8, m9, m10, m11, m12, m13, m14, m15, m16, m17, m18, m19, m20, m21, m22, y_lo, y_hi, m25, m26, m27)) rfl rfl
theorem Ep_p (mo : Mo) (y_pl : (Nat → Int32)) : Ep mo (Mo_s_pl mo y_pl) := by
  refine ⟨y_pl, Mo_out mo, Mo_on mo, Mo_ob mo, Mo_lo mo, Mo_hi mo, Mo_ch mo, ?_⟩
  obtain ⟨m1, m2, m3, m4, m5, m6, m7, m8, m9, m10, m11, m12, m13, m14, m15, m16, m17, m18, m19, m20, m21, m22, m23, m24, m25, m26, m27⟩ := mo
  exact Eq.trans (b := (m1, m2, m3, m4, m5, m6, m7, m8, m9, m10, m11, m12, m13, m14, m15, m16, m17, m18, m19, m20, m21, m22, m23, m24, m25, y_pl, m27)) rfl rfl
theorem Ep.of {mo mo' : Mo} (h : Em mo mo') : Ep mo mo' := by
  obtain ⟨a, b, c, d, e, f, rfl⟩ := h
  refine ⟨Mo_pl mo, a, b, c, d, e, f, ?_⟩
  obtain ⟨m1, m2, m3, m4, m5, m6, m7, m8, m9, m10, m11, m12, m13, m14, m15, m16, m17, m18, m19, m20, m21, m22, m23, m24, m25, m26, m27⟩ := mo
  exact Eq.trans (b := (m1, m2, m3, m4, m5, m6, m7, m8, m9, m10, m11, m12, m13, m14, m15, b, c, a, m19, m20, m21, f, d, e, m25, m26, m27)) rfl rfl
theorem pl_pl (mo : Mo) (f g : Nat → Int32) : Mo_s_pl (Mo_s_pl mo f) g = Mo_s_pl mo g := by
  obtain ⟨m1, m2, m3, m4, m5, m6, m7, m8, m9, m10, m11, m12, m13, m14, m15, m16, m17, m18, m19, m20, m21, m22, m23, m24, m25, m26, m27⟩ := mo
  exact Eq.trans (b := (m1, m2, m3, m4, m5, m6, m7, m8, m9, m10, m11, m12, m13, m14, m15, m16, m17, m18, m19, m20, m21, m22, m23, m24, m25, g, m27)) rfl rfl
theorem Ep.pl {a b : Mo} {f : Nat → Int32} (h : Ep (Mo_s_pl a f) b) : Ep a b := Ep.trans (Ep_p a f) h
/-- one bit of the reference, with its context -/
def mS (mo : Mo) (b c : Int32) : Option Mo := if c = -1 then f_Model_emit mo b 32768 else bd (f_Model_chanceOf mo c) (fun ch => bd (f_Model_emit mo b ch) (fun mo1 => f_Model_learn mo1 c b))
/-- what a bit costs -/
def cst (c : Int32) : Nat := if c = -1 then 2 else 11
/-- a bit and its context -/
def tok (b c : Int32) : Prop := (b = 0 ∨ b = 1) ∧ (c = -1 ∨ ∃ k : Nat, k < 32 ∧ c = nI k)
theorem Em_learn {mo mo' : Mo} {c b : Int32} (h : f_Model_learn mo c b = some mo') : Em mo mo' := by
  unfold f_Model_learn at h
  obtain ⟨-, h⟩ := gd_ex h
  split at h
  · obtain ⟨-, h⟩ := gd_ex h
    obtain ⟨-, h⟩ := gd_ex h
    cases h
    exact Em_C _ _
  · obtain ⟨-, h⟩ := gd_ex h
    obtain ⟨-, h⟩ := gd_ex h
    cases h
    exact Em_C _ _
theorem m_learn {mo : Mo} {k : Nat} (b : Int32) (hk : k < 32) : f_Model_learn mo (nI k) b = some (Mo_s_ch mo (upd (Mo_ch mo) k (if b = 1 then Mo_ch mo k + (65535 - Mo_ch mo k) / 16 else Mo_ch mo k + -(Mo_ch mo k / 16)))) := by
  simp only [f_Model_learn, gd_in hk (by decide : 32 < 2 ^ 31), nI_clamp (show k < 2 ^ 31 by omega), lt']
  by_cases e : b = 1
  · rw [if_pos e, if_pos e]
  · rw [if_neg e, if_neg e]
/-! Plain bits -/
def WcP (pb : Pb) (w : Br) (mo : Mo) (b : Nat) : Prop := ∃ m q h : Nat, q < 8 ∧ h < 2 ^ q ∧ 8 * m + q ≤ b ∧ Pb_he pb = nI h ∧ Pb_hm pb = nI q ∧ (Br_n w = nI m ∧ m ≤ Br_byL w ∧ Br_byL w ≤ 40000) ∧ Mo_ob mo = nI (8 * m + q) ∧ Mo_on mo = nI (if q = 0 then m else m + 1) ∧ (∀ i, i < m → Br_by w i = Mo_out mo i) ∧ (0 < q → Mo_out mo m = nI (h * 2 ^ (8 - q)))
/-- a bit at its place in a byte -/
theorem bit_in {h q β : Nat} (hq : q < 8) (hh : h < 2 ^ q) (hβ : β < 2) : nI (h * 2 ^ (8 - q)) ||| nI β <<< ((7 - nI q) &&& 31) = nI ((2 * h + β) * 2 ^ (7 - q)) := by
  have e1 : (7 : Int32) - nI q = nI (7 - q) := pk_sub (a := 7) (b := q) (by omega)
  have p1 : 2 ^ (8 - q) = 2 * 2 ^ (7 - q) := by rw [show 8 - q = 7 - q + 1 by omega, Nat.pow_succ]; omega
  have p3 : 2 ^ (7 - q) ≤ 2 ^ 7 := Nat.pow_le_pow_right (by decide) (by omega)
  have p4 : 0 < 2 ^ (7 - q) := Nat.two_pow_pos _
  have p2 : β * 2 ^ (7 - q) < 2 ^ (8 - q) := by
    rw [p1]
    exact Nat.mul_lt_mul_of_pos_right hβ p4
  have p5 : β * 2 ^ (7 - q) < 2 ^ 32 := by omega
  rw [e1, n_shl (by omega) p5, nx_or]
  have h2 := Nat.two_pow_add_eq_or_of_lt p2 h
  rw [show h * 2 ^ (8 - q) = 2 ^ (8 - q) * h from Nat.mul_comm _ _, ← h2]
  apply congrArg nI
  rw [p1, Nat.add_mul, Nat.mul_comm 2 h, Nat.mul_assoc h 2, Nat.mul_comm h]
theorem ez1 (mo : Mo) (f : Nat → Int32) : Mo_ob (Mo_s_out mo f) = Mo_ob mo := rfl
theorem ez4 (mo : Mo) (f : Nat → Int32) : Mo_on (Mo_s_out mo f) = Mo_on mo := rfl
theorem ez5 (mo : Mo) (f : Nat → Int32) (x : Int32) : Mo_ob (Mo_s_on (Mo_s_out mo f) x) = Mo_ob mo := by
  obtain ⟨m1, m2, m3, m4, m5, m6, m7, m8, m9, m10, m11, m12, m13, m14, m15, m16, m17, m18, m19, m20, m21, m22, m23, m24, m25, m26, m27⟩ := mo
  exact Eq.trans (b := m17) rfl rfl
theorem ez6 (mo : Mo) (f : Nat → Int32) (x : Int32) : Mo_on (Mo_s_on (Mo_s_out mo f) x) = x := rfl
theorem ez7 (mo : Mo) (f : Nat → Int32) (x : Int32) : Mo_out (Mo_s_on (Mo_s_out mo f) x) = f := rfl
theorem ez2 (mo : Mo) (f g : Nat → Int32) (x y : Int32) : Mo_s_ob (Mo_s_out (Mo_s_on (Mo_s_out mo f) x) g) y = Mo_s_ob (Mo_s_on (Mo_s_out mo g) x) y := by
  obtain ⟨m1, m2, m3, m4, m5, m6, m7, m8, m9, m10, m11, m12, m13, m14, m15, m16, m17, m18, m19, m20, m21, m22, m23, m24, m25, m26, m27⟩ := mo
  exact Eq.trans (b := (m1, m2, m3, m4, m5, m6, m7, m8, m9, m10, m11, m12, m13, m14, m15, x, y, g, m19, m20, m21, m22, m23, m24, m25, m26, m27)) rfl rfl
theorem ez3 (mo : Mo) (g : Nat → Int32) (y : Int32) : Mo_s_ob (Mo_s_out mo g) y = Mo_s_ob (Mo_s_on (Mo_s_out mo g) (Mo_on mo)) y := by
  obtain ⟨m1, m2, m3, m4, m5, m6, m7, m8, m9, m10, m11, m12, m13, m14, m15, m16, m17, m18, m19, m20, m21, m22, m23, m24, m25, m26, m27⟩ := mo
  exact Eq.trans (b := (m1, m2, m3, m4, m5, m6, m7, m8, m9, m10, m11, m12, m13, m14, m15, m16, y, g, m19, m20, m21, m22, m23, m24, m25, m26, m27)) rfl rfl
theorem m_outB {mo : Mo} {m : Nat} (x : Int64) (hn : Mo_on mo = nI m) (hm : m < 16000) : f_Model_outByte mo x = some (Mo_s_on (Mo_s_out mo (upd (Mo_out mo) m (x.toInt32 &&& 255))) (nI (m + 1))) := by
  rw [f_Model_outByte, hn, gd_in hm (by decide), nI_clamp (show m < 2 ^ 31 by omega), lt', lt', ez4, hn, nI_1]
theorem ey1 (mo : Mo) (f : Nat → Int32) (x : Int32) : Mo_lo (Mo_s_on (Mo_s_out mo f) x) = Mo_lo mo := by
  obtain ⟨m1, m2, m3, m4, m5, m6, m7, m8, m9, m10, m11, m12, m13, m14, m15, m16, m17, m18, m19, m20, m21, m22, m23, m24, m25, m26, m27⟩ := mo
  exact Eq.trans (b := m23) rfl rfl
theorem ey2 (mo : Mo) (f : Nat → Int32) (x : Int32) : Mo_hi (Mo_s_on (Mo_s_out mo f) x) = Mo_hi mo := by
  obtain ⟨m1, m2, m3, m4, m5, m6, m7, m8, m9, m10, m11, m12, m13, m14, m15, m16, m17, m18, m19, m20, m21, m22, m23, m24, m25, m26, m27⟩ := mo
  exact Eq.trans (b := m24) rfl rfl
theorem ey3 (mo : Mo) (f : Nat → Int32) (x : Int32) : Mo_ch (Mo_s_on (Mo_s_out mo f) x) = Mo_ch mo := by
  obtain ⟨m1, m2, m3, m4, m5, m6, m7, m8, m9, m10, m11, m12, m13, m14, m15, m16, m17, m18, m19, m20, m21, m22, m23, m24, m25, m26, m27⟩ := mo
  exact Eq.trans (b := m22) rfl rfl
theorem ew1 (mo : Mo) (x y : Int64) : Mo_lo (Mo_s_hi (Mo_s_lo mo x) y) = x := rfl
theorem ew2 (mo : Mo) (x y : Int64) : Mo_hi (Mo_s_hi (Mo_s_lo mo x) y) = y := rfl
theorem ew3 (mo : Mo) (x y : Int64) : Mo_on (Mo_s_hi (Mo_s_lo mo x) y) = Mo_on mo := by
  obtain ⟨m1, m2, m3, m4, m5, m6, m7, m8, m9, m10, m11, m12, m13, m14, m15, m16, m17, m18, m19, m20, m21, m22, m23, m24, m25, m26, m27⟩ := mo
  exact Eq.trans (b := m16) rfl rfl
theorem ew4 (mo : Mo) (x y : Int64) : Mo_out (Mo_s_hi (Mo_s_lo mo x) y) = Mo_out mo := by
  obtain ⟨m1, m2, m3, m4, m5, m6, m7, m8, m9, m10, m11, m12, m13, m14, m15, m16, m17, m18, m19, m20, m21, m22, m23, m24, m25, m26, m27⟩ := mo
  exact Eq.trans (b := m18) rfl rfl
theorem ew5 (mo : Mo) (x y : Int64) : Mo_ch (Mo_s_hi (Mo_s_lo mo x) y) = Mo_ch mo := by
  obtain ⟨m1, m2, m3, m4, m5, m6, m7, m8, m9, m10, m11, m12, m13, m14, m15, m16, m17, m18, m19, m20, m21, m22, m23, m24, m25, m26, m27⟩ := mo
  exact Eq.trans (b := m22) rfl rfl
theorem z255 : (0 : Int64).toInt32 &&& 255 = 0 := by decide
theorem m_emitP {mo : Mo} {m q h β : Nat} (x : Int32) (hk : ¬ 2 ≤ Mo_kind mo) (hq : q < 8) (hh : h < 2 ^ q) (hβ : β < 2) (hm : m < 15999) (ho : Mo_ob mo = nI (8 * m + q)) (hn : Mo_on mo = nI (if q = 0 then m else m + 1)) (hb : 0 < q → Mo_out mo m = nI (h * 2 ^ (8 - q))) : ∃ f : Nat → Int32, f_Model_emit mo (nI β) x = some (Mo_s_ob (Mo_s_on (Mo_s_out mo f) (nI (m + 1))) (nI (8 * m + q + 1))) ∧ (∀ i, i < m → f i = Mo_out mo i) ∧ f m = nI ((2 * h + β) * 2 ^ (7 - q)) := by
  have e1 : nI (8 * m + q) - nI (8 * m + q) / 8 * 8 = nI q := by
    have := pk_rem (a := 8 * m + q) (d := 8) (by omega) (by decide) (by decide)
    rw [show (8 * m + q) % 8 = q by omega] at this
    exact this
  have cm : (nI m).toNatClampNeg = m := nI_clamp (by omega)
  have hp := nI_pred m
  have key : ∀ mo2 : Mo, Mo_ob mo2 = nI (8 * m + q) → Mo_on mo2 = nI (m + 1) → Mo_out mo2 m = nI (h * 2 ^ (8 - q)) → j_Model_emit_23_20 (nI β) mo2 = some (Mo_s_ob (Mo_s_out mo2 (upd (Mo_out mo2) m (nI ((2 * h + β) * 2 ^ (7 - q))))) (nI (8 * m + q + 1))) := by
    intro mo2 h1 h2 h3
    rw [j_Model_emit_23_20, h2, hp, gd_in (show m < 16000 by omega) (by decide), gd_in (show m < 16000 by omega) (by decide), cm, h3, h1, e1, bit_in hq hh hβ, lt', lt', ez1, h1, nI_1]
  rw [f_Model_emit, if_neg hk, ho, e1]
  by_cases e : q = 0
  · subst e
    have h0 : h = 0 := by omega
    subst h0
    rw [if_pos rfl] at hn
    obtain ⟨M, hM⟩ : ∃ z, z = Mo_s_on (Mo_s_out mo (upd (Mo_out mo) m ((0 : Int64).toInt32 &&& 255))) (nI (m + 1)) := ⟨_, rfl⟩
    have M1 : Mo_ob M = nI (8 * m + 0) := by subst hM; exact (ez5 mo _ _).trans ho
    have M2 : Mo_on M = nI (m + 1) := by subst hM; exact ez6 mo _ _
    have M3 : Mo_out M = upd (Mo_out mo) m ((0 : Int64).toInt32 &&& 255) := by subst hM; exact ez7 mo _ _
    rw [if_pos (show nI 0 = 0 from rfl), m_outB 0 hn (by omega), bd_s, ← hM]
    refine ⟨upd (upd (Mo_out mo) m ((0 : Int64).toInt32 &&& 255)) m (nI ((2 * 0 + β) * 2 ^ (7 - 0))), ?_, fun i hi => ?_, pk_us⟩
    · rw [key M M1 M2 (by rw [M3, pk_us, z255, Nat.zero_mul]; rfl), M3]
      subst hM
      exact congrArg some (ez2 mo _ _ _ _)
    · rw [pk_un (by omega), pk_un (by omega)]
  · rw [if_neg e] at hn
    rw [if_neg (nI_ne0 (show 0 < q by omega) (by omega))]
    refine ⟨upd (Mo_out mo) m (nI ((2 * h + β) * 2 ^ (7 - q))), ?_, fun i hi => pk_un (by omega), pk_us⟩
    rw [key mo ho hn (hb (by omega)), ez3, hn]
theorem mS_P {mo : Mo} {β : Nat} {c : Int32} (hk : ¬ 2 ≤ Mo_kind mo) (hc : c = -1 ∨ ∃ k : Nat, k < 32 ∧ c = nI k) {mo1 : Mo} (he : ∀ x : Int32, f_Model_emit mo (nI β) x = some mo1) : ∃ ch : Nat → Int32, mS mo (nI β) c = some (Mo_s_ch mo1 ch) := by
  by_cases e : c = -1
  · exact ⟨Mo_ch mo1, by rw [mS, if_pos e, he]⟩
  · rcases hc with h | ⟨k, hk2, rfl⟩
    · exact absurd h e
    · have hch : ∃ x, f_Model_chanceOf mo (nI k) = some x := by
        rw [f_Model_chanceOf, gd_in hk2 (by decide), gd_in hk2 (by decide), gd_in hk2 (by decide)]
        split
        · split
          · exact ⟨_, rfl⟩
          · exact ⟨_, rfl⟩
        · exact ⟨_, rfl⟩
      obtain ⟨x, hx⟩ := hch
      rw [mS, if_neg e, hx, bd_s, he, bd_s, m_learn _ hk2]
      exact ⟨_, rfl⟩
theorem b01 {b : Int32} (h : b = 0 ∨ b = 1) : ∃ β : Nat, β < 2 ∧ b = nI β := by
  rcases h with h | h
  · exact ⟨0, by decide, h⟩
  · exact ⟨1, by decide, h⟩
theorem cst_pos (c : Int32) : 1 ≤ cst c := by unfold cst; split <;> decide
theorem stepP {pb : Pb} {w : Br} {mo : Mo} {n : Nat} {b c : Int32} (hk : ¬ 2 ≤ Mo_kind mo) (h : WcP pb w mo n) (hn : n ≤ 127000) (ht : tok b c) : ∃ (pb' : Pb) (w' : Br) (mo' : Mo), f_P_PlainBits_putBit pb w b c = some (pb', w') ∧ mS mo b c = some mo' ∧ WcP pb' w' mo' (n + cst c) ∧ Em mo mo' := by
  obtain ⟨m, q, h, hq, hh, hmn, he, hm, ⟨w1, w2, w3⟩, o1, o2, o3, o4⟩ := h
  obtain ⟨β, hβ, rfl⟩ := b01 ht.1
  have hc1 := cst_pos c
  have hq8 : q = 7 ∨ q < 7 := by omega
  have h128 : h < 128 := Nat.lt_of_lt_of_le hh (Nat.pow_le_pow_right (show 0 < 2 by decide) (show q ≤ 7 by omega))
  have hm9 : m < 15999 := by omega
  have hems : ∃ f : Nat → Int32, (∀ x : Int32, f_Model_emit mo (nI β) x = some (Mo_s_ob (Mo_s_on (Mo_s_out mo f) (nI (m + 1))) (nI (8 * m + q + 1)))) ∧ (∀ i, i < m → f i = Mo_out mo i) ∧ f m = nI ((2 * h + β) * 2 ^ (7 - q)) := by
    obtain ⟨f, f1, f2, f3⟩ := m_emitP (x := 0) hk hq hh hβ hm9 o1 o2 o4
    refine ⟨f, fun x => ?_, f2, f3⟩
    rw [← f1, f_Model_emit, f_Model_emit, if_neg hk, if_neg hk]
  obtain ⟨f, f1, f2, f3⟩ := hems
  obtain ⟨ch, hch⟩ := mS_P hk ht.2 f1
  have hsh : (nI h <<< ((1 : Int32) &&& 31)) ||| nI β = nI (2 * h + β) := by
    have e1 : nI h <<< ((1 : Int32) &&& 31) = nI (h * 2 ^ 1) := n_shl (i := 1) (by decide) (by omega)
    have h2 := Nat.two_pow_add_eq_or_of_lt (b := β) (i := 1) (by omega) h
    rw [e1, nx_or, show h * 2 ^ 1 = 2 ^ 1 * h from Nat.mul_comm _ _, ← h2, show 2 ^ 1 * h = 2 * h from rfl]
  have ep : f_P_PlainBits_putBit pb w (nI β) c = (if nI (q + 1) = 8 then bd (f_ByteRow_add w (nI (2 * h + β))) (fun w_6 => some ((0, 0), w_6)) else some ((nI (2 * h + β), nI (q + 1)), w)) := by
    rw [f_P_PlainBits_putBit, he, hsh]
    show (if Pb_hm pb + 1 = 8 then bd (f_ByteRow_add w (nI (2 * h + β))) (fun w_6 => some ((0, 0), w_6)) else some ((nI (2 * h + β), Pb_hm pb + 1), w)) = _
    rw [hm, nI_1]
  have hEm : Em mo (Mo_s_ch (Mo_s_ob (Mo_s_on (Mo_s_out mo f) (nI (m + 1))) (nI (8 * m + q + 1))) ch) := Em_P mo f _ _ ch
  rcases hq8 with h7 | h7
  · subst h7
    obtain ⟨L, g, g1, g2, g3, g4, g5⟩ := s_addG (b := w) (m := m) (nI (2 * h + β)) w2 (by omega) w3 w1
    refine ⟨(0, 0), (L, g, nI (m + 1), Br_tk w), _, ?_, hch, ⟨m + 1, 0, 0, by decide, by decide, by omega, rfl, rfl, ⟨rfl, g2, g3⟩, ?_, ?_, fun i hi => ?_, fun z => by omega⟩, hEm⟩
    · rw [ep, if_pos (show nI (7 + 1) = 8 from rfl), g1, bd_s]
    · show nI (8 * m + 7 + 1) = nI (8 * (m + 1) + 0)
      exact congrArg nI (by omega)
    · show nI (m + 1) = nI (if 0 = 0 then m + 1 else m + 1 + 1)
      rfl
    · show g i = f i
      by_cases e : i = m
      · subst e
        rw [g5, f3, Nat.sub_self, Nat.pow_zero, Nat.mul_one]
      · rw [g4 i (by omega), f2 i (by omega)]
        exact o3 i (by omega)
  · refine ⟨(nI (2 * h + β), nI (q + 1)), w, _, ?_, hch, ⟨m, q + 1, 2 * h + β, by omega, ?_, by omega, rfl, rfl, ⟨w1, w2, w3⟩, ?_, ?_, fun i hi => ?_, fun _ => ?_⟩, hEm⟩
    · rw [ep, if_neg (fun z => by have := (nI_eq (a := q + 1) (b := 8) (by omega) (by decide)).mp z; omega)]
    · rw [Nat.pow_succ]; omega
    · show nI (8 * m + q + 1) = nI (8 * m + (q + 1))
      rfl
    · show nI (m + 1) = nI (if q + 1 = 0 then m else m + 1)
      rw [if_neg (by omega)]
    · show Br_by w i = f i
      rw [f2 i hi]
      exact o3 i hi
    · show f m = nI ((2 * h + β) * 2 ^ (8 - (q + 1)))
      rw [f3, show 8 - (q + 1) = 7 - q by omega]
/-! Bits by chance -/
/-- chances of both sides -/
def Chs (cb : Cb) (mo : Mo) : Prop := ∀ c, c < 32 → ∃ p : Nat, p ≤ 65535 ∧ Cb_ch cb c = nI p ∧ Mo_ch mo c = nI p
def WcK (cb : Cb) (w : Br) (mo : Mo) (b : Nat) : Prop := ∃ m lo hi : Nat, (Cb_lo cb = lN lo ∧ Cb_hi cb = lN hi ∧ Mo_lo mo = lN lo ∧ Mo_hi mo = lN hi) ∧ lo / 16777216 < hi / 16777216 ∧ hi < 2 ^ 32 ∧ (Br_n w = nI m ∧ m ≤ Br_byL w ∧ Br_byL w ≤ 40000) ∧ Mo_on mo = nI m ∧ (∀ i, i < m → Br_by w i = Mo_out mo i) ∧ 2 ^ (8 * m + 32) ≤ (hi - lo + 1) * 2 ^ b
def WcC (cb : Cb) (w : Br) (mo : Mo) (b : Nat) : Prop := WcK cb w mo b ∧ Chs cb mo
/-- from the size of the interval: how many bytes there are -/
theorem few {m b s t : Nat} (h : 2 ^ (8 * m + 32) ≤ s * 2 ^ b) (hs : s ≤ 2 ^ t) : 8 * m + 32 ≤ t + b := by
  have h2 : 2 ^ (8 * m + 32) ≤ 2 ^ (t + b) := by
    rw [Nat.pow_add 2 t b]
    exact Nat.le_trans h (Nat.mul_le_mul_right _ hs)
  exact (Nat.pow_le_pow_iff_right (by decide)).mp h2
theorem c_agree {cb : Cb} {lo hi : Nat} (h1 : Cb_lo cb = lN lo) (h2 : Cb_hi cb = lN hi) (hl : lo < 2 ^ 32) (hh : hi < 2 ^ 32) : f_C_ChanceBits_highestBytesAgree cb = some (if lo / 16777216 = hi / 16777216 then 1 else 0) := by
  rw [f_C_ChanceBits_highestBytesAgree, h1, h2, lk_top hl, lk_top hh]
  by_cases e : lo / 16777216 = hi / 16777216
  · rw [if_pos e, e, if_pos ((lg_cmp_eq _ _).mpr rfl)]
  · rw [if_neg e, if_neg (fun z => e ((pk_lEQ (by omega) (by omega)).mp ((lg_cmp_eq _ _).mp z)))]
theorem m_shared {mo : Mo} {lo hi : Nat} (h1 : Mo_lo mo = lN lo) (h2 : Mo_hi mo = lN hi) (hl : lo < 2 ^ 32) (hh : hi < 2 ^ 32) : f_Model_isShared mo = some (if lo / 16777216 = hi / 16777216 then 1 else 0) := by
  rw [f_Model_isShared, h1, h2, lk_top hl, lk_top hh]
  by_cases e : lo / 16777216 = hi / 16777216
  · rw [if_pos e, e, if_pos ((lg_cmp_eq _ _).mpr rfl)]
  · rw [if_neg e, if_neg (fun z => e ((pk_lEQ (by omega) (by omega)).mp ((lg_cmp_eq _ _).mp z)))]
theorem c_shift {cb : Cb} {lo hi : Nat} (h1 : Cb_lo cb = lN lo) (h2 : Cb_hi cb = lN hi) (hl : lo < 2 ^ 32) (hh : hi < 2 ^ 32) : f_C_ChanceBits_shift cb = some (Cb_s_hi (Cb_s_lo cb (lN (lo % 16777216 * 256))) (lN (hi % 16777216 * 256 + 255))) := by
  rw [f_C_ChanceBits_shift, h1, lk_shC hl]
  show some (Cb_s_hi (Cb_s_lo cb (lN (lo % 16777216 * 256))) (((Cb_hi cb &&& 16777215) <<< ((8 : Int32).toInt64 &&& 63)) ||| 255)) = _
  rw [h2, lk_shC hh, lk_or255]
theorem m_shift {mo : Mo} {lo hi : Nat} (h1 : Mo_lo mo = lN lo) (h2 : Mo_hi mo = lN hi) (hl : lo < 2 ^ 32) (hh : hi < 2 ^ 32) : f_Model_shift mo = some (Mo_s_hi (Mo_s_lo mo (lN (lo % 16777216 * 256))) (lN (hi % 16777216 * 256 + 255))) := by
  rw [f_Model_shift, h1, lk_shM hl]
  show some (Mo_s_hi (Mo_s_lo mo (lN (lo % 16777216 * 256))) (((Mo_hi mo <<< ((8 : Int32).toInt64 &&& 63)) &&& 4294967295) ||| 255)) = _
  rw [h2, lk_shM hh, lk_or255]
theorem cput_4 {K1 : Cb → Br → Option (Cb × Br)} {K2 : Mo → Option Mo} {m lo hi b : Nat} {cb : Cb} {w : Br} {mo : Mo} (m1 m2 : Nat) (h1 : 1 ≤ m1) (h2 : 1 ≤ m2) (a1 : Cb_lo cb = lN lo) (a2 : Cb_hi cb = lN hi) (a3 : Mo_lo mo = lN lo) (a4 : Mo_hi mo = lN hi) (hle : lo ≤ hi) (hh : hi < 2 ^ 32) (hz : lo % 4294967296 = 0 ∧ hi % 4294967296 = 4294967295) (w1 : Br_n w = nI m) (w2 : m ≤ Br_byL w) (w3 : Br_byL w ≤ 40000) (o1 : Mo_on mo = nI m) (o2 : ∀ i, i < m → Br_by w i = Mo_out mo i) (hp : 2 ^ (8 * m + 32) ≤ (hi - lo + 1) * 2 ^ b) (hb : b ≤ 127011) : ∃ (cb' : Cb) (w' : Br) (mo' : Mo), l_C_ChanceBits_putBit_13 K1 m1 cb w (nI 4) = K1 cb' w' ∧ l_Model_emit_102 K2 m2 mo = K2 mo' ∧ WcK cb' w' mo' b ∧ Em mo mo' ∧ Cb_ch cb' = Cb_ch cb ∧ Mo_ch mo' = Mo_ch mo := by
  obtain ⟨f1, rfl⟩ : ∃ f, m1 = f + 1 := ⟨m1 - 1, by omega⟩
  obtain ⟨f2, rfl⟩ : ∃ f, m2 = f + 1 := ⟨m2 - 1, by omega⟩
  rw [l_C_ChanceBits_putBit_13, l_Model_emit_102, m_shared a3 a4 (by omega) hh, bd_s]
  rw [if_pos (show (4 : Int32) ≤ nI 4 from nI_le (Nat.le_refl 4) (by decide)), if_neg (show ¬ lo / 16777216 = hi / 16777216 by omega), if_pos rfl]
  exact ⟨cb, w, mo, rfl, rfl, ⟨m, lo, hi, ⟨a1, a2, a3, a4⟩, by omega, hh, ⟨w1, w2, w3⟩, o1, o2, hp⟩, Em.refl mo, rfl, rfl⟩
theorem cput_3 {K1 : Cb → Br → Option (Cb × Br)} {K2 : Mo → Option Mo} {m lo hi b : Nat} {cb : Cb} {w : Br} {mo : Mo} (m1 m2 : Nat) (h1 : 2 ≤ m1) (h2 : 2 ≤ m2) (a1 : Cb_lo cb = lN lo) (a2 : Cb_hi cb = lN hi) (a3 : Mo_lo mo = lN lo) (a4 : Mo_hi mo = lN hi) (hle : lo ≤ hi) (hh : hi < 2 ^ 32) (hz : lo % 16777216 = 0 ∧ hi % 16777216 = 16777215) (w1 : Br_n w = nI m) (w2 : m ≤ Br_byL w) (w3 : Br_byL w ≤ 40000) (o1 : Mo_on mo = nI m) (o2 : ∀ i, i < m → Br_by w i = Mo_out mo i) (hp : 2 ^ (8 * m + 32) ≤ (hi - lo + 1) * 2 ^ b) (hb : b ≤ 127011) : ∃ (cb' : Cb) (w' : Br) (mo' : Mo), l_C_ChanceBits_putBit_13 K1 m1 cb w (nI 3) = K1 cb' w' ∧ l_Model_emit_102 K2 m2 mo = K2 mo' ∧ WcK cb' w' mo' b ∧ Em mo mo' ∧ Cb_ch cb' = Cb_ch cb ∧ Mo_ch mo' = Mo_ch mo := by
  obtain ⟨f1, rfl⟩ : ∃ f, m1 = f + 1 := ⟨m1 - 1, by omega⟩
  obtain ⟨f2, rfl⟩ : ∃ f, m2 = f + 1 := ⟨m2 - 1, by omega⟩
  rw [l_C_ChanceBits_putBit_13, l_Model_emit_102, m_shared a3 a4 (by omega) hh, bd_s]
  rw [if_neg (show ¬ (4 : Int32) ≤ nI 3 from nI_ge (b := 4) (by decide) (by decide)), c_agree a1 a2 (by omega) hh, bd_s]
  by_cases e : lo / 16777216 = hi / 16777216
  · have hfew := few (t := 24) hp (by omega)
    obtain ⟨L, g, g1, g2, g3, g4, g5⟩ := s_addG (b := w) (m := m) ((lN lo >>> ((24 : Int32).toInt64 &&& 63)).toInt32) w2 (by omega) w3 w1
    have hbyte : ((lN lo >>> ((24 : Int32).toInt64 &&& 63)).toInt32) = nI (lo / 16777216) := by rw [lk_top (by omega), lN_i]
    have hbyte2 : nI (lo / 16777216) &&& 255 = nI (lo / 16777216) := by
      rw [pk_andN (by omega) 8 (by decide)]
      exact congrArg nI (by omega)
    obtain ⟨M, hM⟩ : ∃ z, z = Mo_s_on (Mo_s_out mo (upd (Mo_out mo) m ((lN lo >>> ((24 : Int32).toInt64 &&& 63)).toInt32 &&& 255))) (nI (m + 1)) := ⟨_, rfl⟩
    have M1 : Mo_lo M = lN lo := by subst hM; exact (ey1 mo _ _).trans a3
    have M2 : Mo_hi M = lN hi := by subst hM; exact (ey2 mo _ _).trans a4
    have M3 : Mo_on M = nI (m + 1) := by subst hM; exact ez6 mo _ _
    have M4 : Mo_out M = upd (Mo_out mo) m (nI (lo / 16777216)) := by subst hM; exact (ez7 mo _ _).trans (by rw [hbyte, hbyte2])
    have M5 : Mo_ch M = Mo_ch mo := by subst hM; exact ey3 mo _ _
    have M6 : Em mo M := by subst hM; exact Em_B mo _ _
    obtain ⟨N, hN⟩ : ∃ z, z = Mo_s_hi (Mo_s_lo M (lN (lo % 16777216 * 256))) (lN (hi % 16777216 * 256 + 255)) := ⟨_, rfl⟩
    have N1 : Mo_lo N = lN (lo % 16777216 * 256) := by subst hN; exact ew1 M _ _
    have N2 : Mo_hi N = lN (hi % 16777216 * 256 + 255) := by subst hN; exact ew2 M _ _
    have N3 : Mo_on N = nI (m + 1) := by subst hN; exact (ew3 M _ _).trans M3
    have N4 : Mo_out N = upd (Mo_out mo) m (nI (lo / 16777216)) := by subst hN; exact (ew4 M _ _).trans M4
    have N5 : Mo_ch N = Mo_ch mo := by subst hN; exact (ew5 M _ _).trans M5
    have N6 : Em mo N := Em.trans M6 (by subst hN; exact Em_R M _ _)
    rw [if_pos e, if_neg i10, if_neg i10, a1, g1, bd_s, c_shift a1 a2 (by omega) hh, bd_s, a3, m_outB _ o1 (by omega), bd_s, ← hM, m_shift M1 M2 (by omega) hh, bd_s, ← hN]
    obtain ⟨cb', w', mo', r1, r2, r3, r4, r5, r6⟩ := cput_4 (K1 := K1) (K2 := K2) (m := m + 1) (lo := lo % 16777216 * 256) (hi := hi % 16777216 * 256 + 255) (b := b) (cb := Cb_s_hi (Cb_s_lo cb (lN (lo % 16777216 * 256))) (lN (hi % 16777216 * 256 + 255))) (w := (L, g, nI (m + 1), Br_tk w)) (mo := N) f1 f2 (by omega) (by omega) rfl rfl N1 N2 (by omega) (by omega) ⟨by omega, by omega⟩ rfl g2 g3 N3 (fun i hi2 => by
      rw [N4]
      show g i = upd (Mo_out mo) m (nI (lo / 16777216)) i
      by_cases e5 : i = m
      · subst e5; rw [g5, hbyte, pk_us]
      · rw [g4 i (by omega), pk_un e5]; exact o2 i (by omega)) (by
      rw [show hi % 16777216 * 256 + 255 - lo % 16777216 * 256 + 1 = 256 * (hi - lo + 1) by omega, show 8 * (m + 1) + 32 = 8 + (8 * m + 32) by omega, Nat.pow_add 2 8, Nat.mul_assoc]
      exact Nat.mul_le_mul_left _ hp) hb
    exact ⟨cb', w', mo', r1, r2, r3, Em.trans N6 r4, r5, r6.trans N5⟩
  · rw [if_neg e, if_pos rfl, if_pos rfl]
    exact ⟨cb, w, mo, rfl, rfl, ⟨m, lo, hi, ⟨a1, a2, a3, a4⟩, by omega, hh, ⟨w1, w2, w3⟩, o1, o2, hp⟩, Em.refl mo, rfl, rfl⟩
theorem cput_2 {K1 : Cb → Br → Option (Cb × Br)} {K2 : Mo → Option Mo} {m lo hi b : Nat} {cb : Cb} {w : Br} {mo : Mo} (m1 m2 : Nat) (h1 : 3 ≤ m1) (h2 : 3 ≤ m2) (a1 : Cb_lo cb = lN lo) (a2 : Cb_hi cb = lN hi) (a3 : Mo_lo mo = lN lo) (a4 : Mo_hi mo = lN hi) (hle : lo ≤ hi) (hh : hi < 2 ^ 32) (hz : lo % 65536 = 0 ∧ hi % 65536 = 65535) (w1 : Br_n w = nI m) (w2 : m ≤ Br_byL w) (w3 : Br_byL w ≤ 40000) (o1 : Mo_on mo = nI m) (o2 : ∀ i, i < m → Br_by w i = Mo_out mo i) (hp : 2 ^ (8 * m + 32) ≤ (hi - lo + 1) * 2 ^ b) (hb : b ≤ 127011) : ∃ (cb' : Cb) (w' : Br) (mo' : Mo), l_C_ChanceBits_putBit_13 K1 m1 cb w (nI 2) = K1 cb' w' ∧ l_Model_emit_102 K2 m2 mo = K2 mo' ∧ WcK cb' w' mo' b ∧ Em mo mo' ∧ Cb_ch cb' = Cb_ch cb ∧ Mo_ch mo' = Mo_ch mo := by
  obtain ⟨f1, rfl⟩ : ∃ f, m1 = f + 1 := ⟨m1 - 1, by omega⟩
  obtain ⟨f2, rfl⟩ : ∃ f, m2 = f + 1 := ⟨m2 - 1, by omega⟩
  rw [l_C_ChanceBits_putBit_13, l_Model_emit_102, m_shared a3 a4 (by omega) hh, bd_s]
  rw [if_neg (show ¬ (4 : Int32) ≤ nI 2 from nI_ge (b := 4) (by decide) (by decide)), c_agree a1 a2 (by omega) hh, bd_s]
  by_cases e : lo / 16777216 = hi / 16777216
  · have hfew := few (t := 24) hp (by omega)
    obtain ⟨L, g, g1, g2, g3, g4, g5⟩ := s_addG (b := w) (m := m) ((lN lo >>> ((24 : Int32).toInt64 &&& 63)).toInt32) w2 (by omega) w3 w1
    have hbyte : ((lN lo >>> ((24 : Int32).toInt64 &&& 63)).toInt32) = nI (lo / 16777216) := by rw [lk_top (by omega), lN_i]
    have hbyte2 : nI (lo / 16777216) &&& 255 = nI (lo / 16777216) := by
      rw [pk_andN (by omega) 8 (by decide)]
      exact congrArg nI (by omega)
    obtain ⟨M, hM⟩ : ∃ z, z = Mo_s_on (Mo_s_out mo (upd (Mo_out mo) m ((lN lo >>> ((24 : Int32).toInt64 &&& 63)).toInt32 &&& 255))) (nI (m + 1)) := ⟨_, rfl⟩
    have M1 : Mo_lo M = lN lo := by subst hM; exact (ey1 mo _ _).trans a3
    have M2 : Mo_hi M = lN hi := by subst hM; exact (ey2 mo _ _).trans a4
    have M3 : Mo_on M = nI (m + 1) := by subst hM; exact ez6 mo _ _
    have M4 : Mo_out M = upd (Mo_out mo) m (nI (lo / 16777216)) := by subst hM; exact (ez7 mo _ _).trans (by rw [hbyte, hbyte2])
    have M5 : Mo_ch M = Mo_ch mo := by subst hM; exact ey3 mo _ _
    have M6 : Em mo M := by subst hM; exact Em_B mo _ _
    obtain ⟨N, hN⟩ : ∃ z, z = Mo_s_hi (Mo_s_lo M (lN (lo % 16777216 * 256))) (lN (hi % 16777216 * 256 + 255)) := ⟨_, rfl⟩
    have N1 : Mo_lo N = lN (lo % 16777216 * 256) := by subst hN; exact ew1 M _ _
    have N2 : Mo_hi N = lN (hi % 16777216 * 256 + 255) := by subst hN; exact ew2 M _ _
    have N3 : Mo_on N = nI (m + 1) := by subst hN; exact (ew3 M _ _).trans M3
    have N4 : Mo_out N = upd (Mo_out mo) m (nI (lo / 16777216)) := by subst hN; exact (ew4 M _ _).trans M4
    have N5 : Mo_ch N = Mo_ch mo := by subst hN; exact (ew5 M _ _).trans M5
    have N6 : Em mo N := Em.trans M6 (by subst hN; exact Em_R M _ _)
    rw [if_pos e, if_neg i10, if_neg i10, a1, g1, bd_s, c_shift a1 a2 (by omega) hh, bd_s, a3, m_outB _ o1 (by omega), bd_s, ← hM, m_shift M1 M2 (by omega) hh, bd_s, ← hN]
    obtain ⟨cb', w', mo', r1, r2, r3, r4, r5, r6⟩ := cput_3 (K1 := K1) (K2 := K2) (m := m + 1) (lo := lo % 16777216 * 256) (hi := hi % 16777216 * 256 + 255) (b := b) (cb := Cb_s_hi (Cb_s_lo cb (lN (lo % 16777216 * 256))) (lN (hi % 16777216 * 256 + 255))) (w := (L, g, nI (m + 1), Br_tk w)) (mo := N) f1 f2 (by omega) (by omega) rfl rfl N1 N2 (by omega) (by omega) ⟨by omega, by omega⟩ rfl g2 g3 N3 (fun i hi2 => by
      rw [N4]
      show g i = upd (Mo_out mo) m (nI (lo / 16777216)) i
      by_cases e5 : i = m
      · subst e5; rw [g5, hbyte, pk_us]
      · rw [g4 i (by omega), pk_un e5]; exact o2 i (by omega)) (by
      rw [show hi % 16777216 * 256 + 255 - lo % 16777216 * 256 + 1 = 256 * (hi - lo + 1) by omega, show 8 * (m + 1) + 32 = 8 + (8 * m + 32) by omega, Nat.pow_add 2 8, Nat.mul_assoc]
      exact Nat.mul_le_mul_left _ hp) hb
    exact ⟨cb', w', mo', r1, r2, r3, Em.trans N6 r4, r5, r6.trans N5⟩
  · rw [if_neg e, if_pos rfl, if_pos rfl]
    exact ⟨cb, w, mo, rfl, rfl, ⟨m, lo, hi, ⟨a1, a2, a3, a4⟩, by omega, hh, ⟨w1, w2, w3⟩, o1, o2, hp⟩, Em.refl mo, rfl, rfl⟩
theorem cput_1 {K1 : Cb → Br → Option (Cb × Br)} {K2 : Mo → Option Mo} {m lo hi b : Nat} {cb : Cb} {w : Br} {mo : Mo} (m1 m2 : Nat) (h1 : 4 ≤ m1) (h2 : 4 ≤ m2) (a1 : Cb_lo cb = lN lo) (a2 : Cb_hi cb = lN hi) (a3 : Mo_lo mo = lN lo) (a4 : Mo_hi mo = lN hi) (hle : lo ≤ hi) (hh : hi < 2 ^ 32) (hz : lo % 256 = 0 ∧ hi % 256 = 255) (w1 : Br_n w = nI m) (w2 : m ≤ Br_byL w) (w3 : Br_byL w ≤ 40000) (o1 : Mo_on mo = nI m) (o2 : ∀ i, i < m → Br_by w i = Mo_out mo i) (hp : 2 ^ (8 * m + 32) ≤ (hi - lo + 1) * 2 ^ b) (hb : b ≤ 127011) : ∃ (cb' : Cb) (w' : Br) (mo' : Mo), l_C_ChanceBits_putBit_13 K1 m1 cb w (nI 1) = K1 cb' w' ∧ l_Model_emit_102 K2 m2 mo = K2 mo' ∧ WcK cb' w' mo' b ∧ Em mo mo' ∧ Cb_ch cb' = Cb_ch cb ∧ Mo_ch mo' = Mo_ch mo := by
  obtain ⟨f1, rfl⟩ : ∃ f, m1 = f + 1 := ⟨m1 - 1, by omega⟩
  obtain ⟨f2, rfl⟩ : ∃ f, m2 = f + 1 := ⟨m2 - 1, by omega⟩
  rw [l_C_ChanceBits_putBit_13, l_Model_emit_102, m_shared a3 a4 (by omega) hh, bd_s]
  rw [if_neg (show ¬ (4 : Int32) ≤ nI 1 from nI_ge (b := 4) (by decide) (by decide)), c_agree a1 a2 (by omega) hh, bd_s]
  by_cases e : lo / 16777216 = hi / 16777216
  · have hfew := few (t := 24) hp (by omega)
    obtain ⟨L, g, g1, g2, g3, g4, g5⟩ := s_addG (b := w) (m := m) ((lN lo >>> ((24 : Int32).toInt64 &&& 63)).toInt32) w2 (by omega) w3 w1
    have hbyte : ((lN lo >>> ((24 : Int32).toInt64 &&& 63)).toInt32) = nI (lo / 16777216) := by rw [lk_top (by omega), lN_i]
    have hbyte2 : nI (lo / 16777216) &&& 255 = nI (lo / 16777216) := by
      rw [pk_andN (by omega) 8 (by decide)]
      exact congrArg nI (by omega)
    obtain ⟨M, hM⟩ : ∃ z, z = Mo_s_on (Mo_s_out mo (upd (Mo_out mo) m ((lN lo >>> ((24 : Int32).toInt64 &&& 63)).toInt32 &&& 255))) (nI (m + 1)) := ⟨_, rfl⟩
    have M1 : Mo_lo M = lN lo := by subst hM; exact (ey1 mo _ _).trans a3
    have M2 : Mo_hi M = lN hi := by subst hM; exact (ey2 mo _ _).trans a4
    have M3 : Mo_on M = nI (m + 1) := by subst hM; exact ez6 mo _ _
    have M4 : Mo_out M = upd (Mo_out mo) m (nI (lo / 16777216)) := by subst hM; exact (ez7 mo _ _).trans (by rw [hbyte, hbyte2])
    have M5 : Mo_ch M = Mo_ch mo := by subst hM; exact ey3 mo _ _
    have M6 : Em mo M := by subst hM; exact Em_B mo _ _
    obtain ⟨N, hN⟩ : ∃ z, z = Mo_s_hi (Mo_s_lo M (lN (lo % 16777216 * 256))) (lN (hi % 16777216 * 256 + 255)) := ⟨_, rfl⟩
    have N1 : Mo_lo N = lN (lo % 16777216 * 256) := by subst hN; exact ew1 M _ _
    have N2 : Mo_hi N = lN (hi % 16777216 * 256 + 255) := by subst hN; exact ew2 M _ _
    have N3 : Mo_on N = nI (m + 1) := by subst hN; exact (ew3 M _ _).trans M3
    have N4 : Mo_out N = upd (Mo_out mo) m (nI (lo / 16777216)) := by subst hN; exact (ew4 M _ _).trans M4
    have N5 : Mo_ch N = Mo_ch mo := by subst hN; exact (ew5 M _ _).trans M5
    have N6 : Em mo N := Em.trans M6 (by subst hN; exact Em_R M _ _)
    rw [if_pos e, if_neg i10, if_neg i10, a1, g1, bd_s, c_shift a1 a2 (by omega) hh, bd_s, a3, m_outB _ o1 (by omega), bd_s, ← hM, m_shift M1 M2 (by omega) hh, bd_s, ← hN]
    obtain ⟨cb', w', mo', r1, r2, r3, r4, r5, r6⟩ := cput_2 (K1 := K1) (K2 := K2) (m := m + 1) (lo := lo % 16777216 * 256) (hi := hi % 16777216 * 256 + 255) (b := b) (cb := Cb_s_hi (Cb_s_lo cb (lN (lo % 16777216 * 256))) (lN (hi % 16777216 * 256 + 255))) (w := (L, g, nI (m + 1), Br_tk w)) (mo := N) f1 f2 (by omega) (by omega) rfl rfl N1 N2 (by omega) (by omega) ⟨by omega, by omega⟩ rfl g2 g3 N3 (fun i hi2 => by
      rw [N4]
      show g i = upd (Mo_out mo) m (nI (lo / 16777216)) i
      by_cases e5 : i = m
      · subst e5; rw [g5, hbyte, pk_us]
      · rw [g4 i (by omega), pk_un e5]; exact o2 i (by omega)) (by
      rw [show hi % 16777216 * 256 + 255 - lo % 16777216 * 256 + 1 = 256 * (hi - lo + 1) by omega, show 8 * (m + 1) + 32 = 8 + (8 * m + 32) by omega, Nat.pow_add 2 8, Nat.mul_assoc]
      exact Nat.mul_le_mul_left _ hp) hb
    exact ⟨cb', w', mo', r1, r2, r3, Em.trans N6 r4, r5, r6.trans N5⟩
  · rw [if_neg e, if_pos rfl, if_pos rfl]
    exact ⟨cb, w, mo, rfl, rfl, ⟨m, lo, hi, ⟨a1, a2, a3, a4⟩, by omega, hh, ⟨w1, w2, w3⟩, o1, o2, hp⟩, Em.refl mo, rfl, rfl⟩
theorem cput_0 {K1 : Cb → Br → Option (Cb × Br)} {K2 : Mo → Option Mo} {m lo hi b : Nat} {cb : Cb} {w : Br} {mo : Mo} (m1 m2 : Nat) (h1 : 5 ≤ m1) (h2 : 5 ≤ m2) (a1 : Cb_lo cb = lN lo) (a2 : Cb_hi cb = lN hi) (a3 : Mo_lo mo = lN lo) (a4 : Mo_hi mo = lN hi) (hle : lo ≤ hi) (hh : hi < 2 ^ 32) (hz : True) (w1 : Br_n w = nI m) (w2 : m ≤ Br_byL w) (w3 : Br_byL w ≤ 40000) (o1 : Mo_on mo = nI m) (o2 : ∀ i, i < m → Br_by w i = Mo_out mo i) (hp : 2 ^ (8 * m + 32) ≤ (hi - lo + 1) * 2 ^ b) (hb : b ≤ 127011) : ∃ (cb' : Cb) (w' : Br) (mo' : Mo), l_C_ChanceBits_putBit_13 K1 m1 cb w (nI 0) = K1 cb' w' ∧ l_Model_emit_102 K2 m2 mo = K2 mo' ∧ WcK cb' w' mo' b ∧ Em mo mo' ∧ Cb_ch cb' = Cb_ch cb ∧ Mo_ch mo' = Mo_ch mo := by
  obtain ⟨f1, rfl⟩ : ∃ f, m1 = f + 1 := ⟨m1 - 1, by omega⟩
  obtain ⟨f2, rfl⟩ : ∃ f, m2 = f + 1 := ⟨m2 - 1, by omega⟩
  rw [l_C_ChanceBits_putBit_13, l_Model_emit_102, m_shared a3 a4 (by omega) hh, bd_s]
  rw [if_neg (show ¬ (4 : Int32) ≤ nI 0 from nI_ge (b := 4) (by decide) (by decide)), c_agree a1 a2 (by omega) hh, bd_s]
  by_cases e : lo / 16777216 = hi / 16777216
  · have hfew := few (t := 24) hp (by omega)
    obtain ⟨L, g, g1, g2, g3, g4, g5⟩ := s_addG (b := w) (m := m) ((lN lo >>> ((24 : Int32).toInt64 &&& 63)).toInt32) w2 (by omega) w3 w1
    have hbyte : ((lN lo >>> ((24 : Int32).toInt64 &&& 63)).toInt32) = nI (lo / 16777216) := by rw [lk_top (by omega), lN_i]
    have hbyte2 : nI (lo / 16777216) &&& 255 = nI (lo / 16777216) := by
      rw [pk_andN (by omega) 8 (by decide)]
      exact congrArg nI (by omega)
    obtain ⟨M, hM⟩ : ∃ z, z = Mo_s_on (Mo_s_out mo (upd (Mo_out mo) m ((lN lo >>> ((24 : Int32).toInt64 &&& 63)).toInt32 &&& 255))) (nI (m + 1)) := ⟨_, rfl⟩
    have M1 : Mo_lo M = lN lo := by subst hM; exact (ey1 mo _ _).trans a3
    have M2 : Mo_hi M = lN hi := by subst hM; exact (ey2 mo _ _).trans a4
    have M3 : Mo_on M = nI (m + 1) := by subst hM; exact ez6 mo _ _
    have M4 : Mo_out M = upd (Mo_out mo) m (nI (lo / 16777216)) := by subst hM; exact (ez7 mo _ _).trans (by rw [hbyte, hbyte2])
    have M5 : Mo_ch M = Mo_ch mo := by subst hM; exact ey3 mo _ _
    have M6 : Em mo M := by subst hM; exact Em_B mo _ _
    obtain ⟨N, hN⟩ : ∃ z, z = Mo_s_hi (Mo_s_lo M (lN (lo % 16777216 * 256))) (lN (hi % 16777216 * 256 + 255)) := ⟨_, rfl⟩
    have N1 : Mo_lo N = lN (lo % 16777216 * 256) := by subst hN; exact ew1 M _ _
    have N2 : Mo_hi N = lN (hi % 16777216 * 256 + 255) := by subst hN; exact ew2 M _ _
    have N3 : Mo_on N = nI (m + 1) := by subst hN; exact (ew3 M _ _).trans M3
    have N4 : Mo_out N = upd (Mo_out mo) m (nI (lo / 16777216)) := by subst hN; exact (ew4 M _ _).trans M4
    have N5 : Mo_ch N = Mo_ch mo := by subst hN; exact (ew5 M _ _).trans M5
    have N6 : Em mo N := Em.trans M6 (by subst hN; exact Em_R M _ _)
    rw [if_pos e, if_neg i10, if_neg i10, a1, g1, bd_s, c_shift a1 a2 (by omega) hh, bd_s, a3, m_outB _ o1 (by omega), bd_s, ← hM, m_shift M1 M2 (by omega) hh, bd_s, ← hN]
    obtain ⟨cb', w', mo', r1, r2, r3, r4, r5, r6⟩ := cput_1 (K1 := K1) (K2 := K2) (m := m + 1) (lo := lo % 16777216 * 256) (hi := hi % 16777216 * 256 + 255) (b := b) (cb := Cb_s_hi (Cb_s_lo cb (lN (lo % 16777216 * 256))) (lN (hi % 16777216 * 256 + 255))) (w := (L, g, nI (m + 1), Br_tk w)) (mo := N) f1 f2 (by omega) (by omega) rfl rfl N1 N2 (by omega) (by omega) ⟨by omega, by omega⟩ rfl g2 g3 N3 (fun i hi2 => by
      rw [N4]
      show g i = upd (Mo_out mo) m (nI (lo / 16777216)) i
      by_cases e5 : i = m
      · subst e5; rw [g5, hbyte, pk_us]
      · rw [g4 i (by omega), pk_un e5]; exact o2 i (by omega)) (by
      rw [show hi % 16777216 * 256 + 255 - lo % 16777216 * 256 + 1 = 256 * (hi - lo + 1) by omega, show 8 * (m + 1) + 32 = 8 + (8 * m + 32) by omega, Nat.pow_add 2 8, Nat.mul_assoc]
      exact Nat.mul_le_mul_left _ hp) hb
    exact ⟨cb', w', mo', r1, r2, r3, Em.trans N6 r4, r5, r6.trans N5⟩
  · rw [if_neg e, if_pos rfl, if_pos rfl]
    exact ⟨cb, w, mo, rfl, rfl, ⟨m, lo, hi, ⟨a1, a2, a3, a4⟩, by omega, hh, ⟨w1, w2, w3⟩, o1, o2, hp⟩, Em.refl mo, rfl, rfl⟩
/-- a chance within its bounds -/
def clp (p : Nat) : Nat := if p < 64 then 64 else if 65472 < p then 65472 else p
theorem clp_in (p : Nat) : 64 ≤ clp p ∧ clp p ≤ 65472 := by
  unfold clp
  split
  · omega
  · split <;> omega
theorem c_clp {p : Nat} (hp : p ≤ 65535) : (if 64 < (if nI p < 65472 then nI p else 65472) then (if nI p < 65472 then nI p else 65472) else 64) = nI (clp p) := by
  have e1 : (nI p < (65472 : Int32)) ↔ p < 65472 := nI_ltI (a := p) (b := 65472) (by omega) (by decide)
  have e2 : ((64 : Int32) < nI p) ↔ 64 < p := nI_ltI (a := 64) (b := p) (by decide) (by omega)
  unfold clp
  by_cases c1 : p < 65472
  · rw [if_pos (e1.mpr c1)]
    by_cases c2 : 64 < p
    · rw [if_pos (e2.mpr c2), if_neg (by omega), if_neg (by omega)]
    · rw [if_neg (fun z => c2 (e2.mp z))]
      by_cases c3 : p < 64
      · rw [if_pos c3]; rfl
      · rw [if_neg c3, if_neg (by omega), show p = 64 by omega]; rfl
  · rw [if_neg (fun z => c1 (e1.mp z)), if_pos (by decide), if_neg (by omega)]
    by_cases c3 : 65472 < p
    · rw [if_pos c3]; rfl
    · rw [if_neg c3, show p = 65472 by omega]; rfl
theorem m_clp {mo : Mo} {k p : Nat} (hk : k < 32) (hp : p ≤ 65535) (h : Mo_ch mo k = nI p) : f_Model_chanceOf mo (nI k) = some (nI (clp p)) := by
  have e1 : (nI p ≤ (65472 : Int32)) ↔ p ≤ 65472 := nI_leI (a := p) (b := 65472) (by omega) (by decide)
  have e2 : ((64 : Int32) ≤ nI p) ↔ 64 ≤ p := nI_leI (a := 64) (b := p) (by decide) (by omega)
  rw [f_Model_chanceOf, gd_in hk (by decide), gd_in hk (by decide), gd_in hk (by decide), nI_clamp (show k < 2 ^ 31 by omega), h]
  unfold clp
  by_cases c1 : 64 ≤ p
  · by_cases c2 : p ≤ 65472
    · rw [if_pos (e2.mpr c1), if_pos (e1.mpr c2), if_neg (show ¬ p < 64 by omega), if_neg (show ¬ 65472 < p by omega)]
    · rw [if_pos (e2.mpr c1), if_neg (fun z => c2 (e1.mp z)), if_neg (show ¬ p < 64 by omega), if_pos (show 65472 < p by omega)]; rfl
  · rw [if_neg (fun z => c1 (e2.mp z)), if_pos (show p < 64 by omega)]; rfl
/-- where the interval is split -/
def spl (lo hi p : Nat) : Nat := lo + (hi - lo) * p / 65536
theorem spl_mul {lo hi p : Nat} (hh : hi < 2 ^ 32) (hp : p ≤ 65535) : (hi - lo) * p < 2 ^ 48 := by
  have h1 : (hi - lo) * p ≤ (hi - lo) * 65535 := Nat.mul_le_mul_left _ hp
  omega
theorem c_spl {cb : Cb} {lo hi p : Nat} (h1 : Cb_lo cb = lN lo) (h2 : Cb_hi cb = lN hi) (hle : lo ≤ hi) (hh : hi < 2 ^ 32) (hp : p ≤ 65535) : j_C_ChanceBits_split_30_2 cb (nI p) = some (lN (spl lo hi p)) := by
  have hm := spl_mul (lo := lo) hh hp
  rw [j_C_ChanceBits_split_30_2, h1, h2, lN_sub hle, nI_l (by omega), lN_mul, lk_shr (by omega) _ 16 (by decide), lN_add]
  rfl
theorem m_spl {mo : Mo} {lo hi p : Nat} (h1 : Mo_lo mo = lN lo) (h2 : Mo_hi mo = lN hi) (hle : lo ≤ hi) (hh : hi < 2 ^ 32) (hp : p ≤ 65535) : f_Model_splitBy mo (nI p) = some (lN (spl lo hi p)) := by
  have hm := spl_mul (lo := lo) hh hp
  have hd : lN ((hi - lo) * p) / 65536 = lN ((hi - lo) * p / 65536) := pk_lDiv (b := 65536) (by omega) (by decide) (by decide)
  rw [f_Model_splitBy, h1, h2, lN_sub hle, nI_l (by omega), lN_mul, hd, lN_add]
  rfl
/-- the chance of a bit -/
def chn (cb : Cb) (c : Int32) (p : Nat) : Prop := (c = -1 ∧ p = 32768) ∨ ∃ k p0 : Nat, k < 32 ∧ c = nI k ∧ p0 ≤ 65535 ∧ Cb_ch cb k = nI p0 ∧ p = clp p0
theorem chn_in {cb : Cb} {c : Int32} {p : Nat} (h : chn cb c p) : 64 ≤ p ∧ p ≤ 65472 := by
  rcases h with ⟨-, h⟩ | ⟨k, p0, -, -, -, -, h⟩
  · omega
  · rw [h]; exact clp_in p0
theorem chn_of {cb : Cb} {mo : Mo} {c : Int32} (hC : Chs cb mo) (hc : c = -1 ∨ ∃ k : Nat, k < 32 ∧ c = nI k) : ∃ p, chn cb c p := by
  rcases hc with h | ⟨k, hk, h⟩
  · exact ⟨32768, Or.inl ⟨h, rfl⟩⟩
  · obtain ⟨p0, p1, p2, p3⟩ := hC k hk
    exact ⟨clp p0, Or.inr ⟨k, p0, hk, h, p1, p2, rfl⟩⟩
theorem c_split {cb : Cb} {c : Int32} {lo hi p : Nat} (h1 : Cb_lo cb = lN lo) (h2 : Cb_hi cb = lN hi) (hle : lo ≤ hi) (hh : hi < 2 ^ 32) (hp : chn cb c p) : f_C_ChanceBits_split cb c = some (lN (spl lo hi p)) := by
  rcases hp with ⟨rfl, rfl⟩ | ⟨k, p0, hk, rfl, q1, q2, rfl⟩
  · rw [f_C_ChanceBits_split, if_pos (show (-1 : Int32) < 0 by decide)]
    exact c_spl h1 h2 hle hh (by decide)
  · have := clp_in p0
    rw [f_C_ChanceBits_split, if_neg (nI_pos (by omega)), if_neg (show ¬ (32 : Int32) ≤ nI k from nI_ge (b := 32) hk (by decide)), gd_in hk (by decide), nI_clamp (show k < 2 ^ 31 by omega), q2, c_clp q1]
    exact c_spl h1 h2 hle hh (by omega)
/-- what is learnt -/
def lrn (f : Nat → Int32) (c : Int32) (b : Int32) : Nat → Int32 := if c = -1 then f else upd f c.toNatClampNeg (if b = 1 then f c.toNatClampNeg + (65535 - f c.toNatClampNeg) / 16 else f c.toNatClampNeg - f c.toNatClampNeg / 16)
theorem c_narrow {cb : Cb} {b c : Int32} {x : Int64} (hc : c = -1 ∨ ∃ k : Nat, k < 32 ∧ c = nI k) : f_C_ChanceBits_narrow cb b x c = some (lrn (Cb_ch cb) c b, (if b = 1 then Cb_lo cb else x + 1), (if b = 1 then x else Cb_hi cb), Cb_cd cb) := by
  have key : ∀ cb2 : Cb, j_C_ChanceBits_narrow_20_2 b c cb2 = some (Cb_s_ch cb2 (lrn (Cb_ch cb2) c b)) := by
    intro cb2
    rcases hc with rfl | ⟨k, hk, rfl⟩
    · rw [j_C_ChanceBits_narrow_20_2, if_pos (show (-1 : Int32) < 0 by decide), lrn, if_pos rfl]
    · rw [j_C_ChanceBits_narrow_20_2, if_neg (nI_pos (by omega)), if_neg (show ¬ (32 : Int32) ≤ nI k from nI_ge (b := 32) hk (by decide)), lrn, if_neg (nI_m1 (by omega))]
      simp only [gd_in hk (by decide : 32 < 2 ^ 31), lt']
      show (if b = 1 then some (Cb_s_ch cb2 (upd (Cb_ch cb2) (nI k).toNatClampNeg (Cb_ch cb2 (nI k).toNatClampNeg + (65535 - Cb_ch cb2 (nI k).toNatClampNeg) / 16))) else some (Cb_s_ch cb2 (upd (Cb_ch cb2) (nI k).toNatClampNeg (Cb_ch cb2 (nI k).toNatClampNeg - Cb_ch cb2 (nI k).toNatClampNeg / 16)))) = _
      by_cases e : b = 1
      · rw [if_pos e, if_pos e]
      · rw [if_neg e, if_neg e]
  rw [f_C_ChanceBits_narrow]
  by_cases e : b = 1
  · rw [if_pos e, if_pos e, if_pos e]
    exact key _
  · rw [if_neg e, if_neg e, if_neg e]
    exact key _
theorem Chs_lrn {cb cb' : Cb} {mo mo' : Mo} {b c : Int32} (hC : Chs cb mo) (hc : c = -1 ∨ ∃ k : Nat, k < 32 ∧ c = nI k) (h1 : Cb_ch cb' = lrn (Cb_ch cb) c b) (h2 : Mo_ch mo' = lrn (Mo_ch mo) c b) : Chs cb' mo' := by
  intro k hk
  rw [h1, h2]
  rcases hc with rfl | ⟨j, hj, rfl⟩
  · rw [lrn, lrn, if_pos rfl, if_pos rfl]; exact hC k hk
  · rw [lrn, lrn, if_neg (nI_m1 (by omega)), if_neg (nI_m1 (by omega)), nI_clamp (show j < 2 ^ 31 by omega)]
    by_cases e : k = j
    · subst e
      obtain ⟨p, p1, p2, p3⟩ := hC k hk
      rw [pk_us, pk_us, p2, p3]
      by_cases e2 : b = 1
      · refine ⟨p + (65535 - p) / 16, by omega, ?_, ?_⟩ <;>
        · rw [if_pos e2, show (65535 : Int32) - nI p = nI (65535 - p) from pk_sub (a := 65535) p1, show nI (65535 - p) / 16 = nI ((65535 - p) / 16) from pk_div (d := 16) (by omega) (by decide) (by decide), nI_add]
      · refine ⟨p - p / 16, by omega, ?_, ?_⟩ <;>
        · rw [if_neg e2, show nI p / 16 = nI (p / 16) from pk_div (d := 16) (by omega) (by decide) (by decide), pk_sub (by omega)]
    · rw [pk_un e, pk_un e]; exact hC k hk
theorem m_lrn {mo : Mo} {b c : Int32} {k : Nat} (hk : k < 32) (hc : c = nI k) : f_Model_learn mo c b = some (Mo_s_ch mo (lrn (Mo_ch mo) c b)) := by
  subst hc
  rw [m_learn b hk, lrn, if_neg (nI_m1 (by omega)), nI_clamp (show k < 2 ^ 31 by omega), ← Int32.sub_eq_add_neg]
/-- the interval behind a bit -/
theorem spl_in {lo hi p : Nat} (hlt : lo < hi) (h1 : 64 ≤ p) (h2 : p ≤ 65472) : lo ≤ spl lo hi p ∧ spl lo hi p < hi ∧ hi - lo + 1 ≤ (spl lo hi p - lo + 1) * 2048 ∧ hi - lo + 1 ≤ (hi - (spl lo hi p + 1) + 1) * 2048 := by
  have q1 : (hi - lo) * 64 ≤ (hi - lo) * p := Nat.mul_le_mul_left _ h1
  have q2 : (hi - lo) * p ≤ (hi - lo) * 65472 := Nat.mul_le_mul_left _ h2
  unfold spl
  omega
theorem spl_ev {lo hi : Nat} (hlt : lo < hi) : hi - lo + 1 ≤ (spl lo hi 32768 - lo + 1) * 4 ∧ hi - lo + 1 ≤ (hi - (spl lo hi 32768 + 1) + 1) * 4 := by
  unfold spl
  omega
theorem pot {m b s s' k : Nat} (h : 2 ^ (8 * m + 32) ≤ s * 2 ^ b) (hs : s ≤ s' * 2 ^ k) : 2 ^ (8 * m + 32) ≤ s' * 2 ^ (b + k) := by
  refine Nat.le_trans h (Nat.le_trans (Nat.mul_le_mul_right _ hs) ?_)
  rw [Nat.mul_assoc, ← Nat.pow_add, Nat.add_comm k b]
  exact Nat.le_refl _
theorem stepC {cb : Cb} {w : Br} {mo : Mo} {n : Nat} {b c : Int32} (hk : Mo_kind mo = 2) (h : WcC cb w mo n) (hn : n ≤ 127000) (ht : tok b c) : ∃ (cb' : Cb) (w' : Br) (mo' : Mo), f_C_ChanceBits_putBit cb w b c = some (cb', w') ∧ mS mo b c = some mo' ∧ WcC cb' w' mo' (n + cst c) ∧ Em mo mo' := by
  obtain ⟨⟨m, lo, hi, ⟨a1, a2, a3, a4⟩, hlt, hh, ⟨w1, w2, w3⟩, o1, o2, hp⟩, hC⟩ := h
  obtain ⟨p, hp2⟩ := chn_of hC ht.2
  have hpi := chn_in hp2
  have hl2 : lo < hi := by omega
  have hs := spl_in hl2 hpi.1 hpi.2
  have hcost : ∀ s', (hi - lo + 1 ≤ s' * 2048) → (p = 32768 → hi - lo + 1 ≤ s' * 4) → hi - lo + 1 ≤ s' * 2 ^ cst c := by
    intro s' q1 q2
    rcases hp2 with ⟨rfl, rfl⟩ | ⟨k, p0, hk0, rfl, -⟩
    · exact q2 rfl
    · unfold cst; rw [if_neg (nI_m1 (by omega))]; exact q1
  have hcst : cst c ≤ 11 := by unfold cst; split <;> decide
  have hem : ∀ x : Int32, x = nI p → f_Model_emit mo b x = (if b = 1 then j_Model_emit_99_8 (Mo_s_hi mo (lN (spl lo hi p))) (lN lo) else j_Model_emit_99_8 (Mo_s_hi mo (lN hi)) (lN (spl lo hi p) + 1)) := by
    intro x hx
    subst hx
    rw [f_Model_emit, hk, if_pos (show (2 : Int32) ≤ 2 by decide), m_spl a3 a4 (by omega) hh (by omega), bd_s]
    by_cases e : b = 1
    · rw [if_pos e, if_pos e, j_Model_emit_80_4]
      show (if b = 1 then j_Model_emit_99_8 (Mo_s_hi mo (lN (spl lo hi p))) (Mo_lo mo) else _) = _
      rw [if_pos e, a3]
    · rw [if_neg e, if_neg e, j_Model_emit_80_4, a4]
      show (if b = 1 then _ else j_Model_emit_99_8 (Mo_s_hi mo (lN hi)) (lN (spl lo hi p) + 1)) = _
      rw [if_neg e]
  have hemS : ∀ mo1 : Mo, f_Model_emit mo b (nI p) = some mo1 → Mo_ch mo1 = Mo_ch mo → mS mo b c = some (Mo_s_ch mo1 (lrn (Mo_ch mo) c b)) := by
    intro mo1 q1 q2
    rcases hp2 with ⟨rfl, rfl⟩ | ⟨k, p0, hk0, rfl, g1, g2, rfl⟩
    · rw [mS, if_pos rfl]
      refine Eq.trans q1 ?_
      rw [lrn, if_pos rfl, ← q2]
    · obtain ⟨p9, p91, p92, p93⟩ := hC k hk0
      have e9 : p9 = p0 := (nI_eq (by omega) (by omega)).mp (p92.symm.trans g2)
      subst e9
      rw [mS, if_neg (nI_m1 (by omega)), m_clp hk0 p91 p93, bd_s, q1, bd_s, m_lrn hk0 rfl, q2]
  rw [f_C_ChanceBits_putBit, c_split a1 a2 (by omega) hh hp2, bd_s, c_narrow ht.2, bd_s]
  rcases ht.1 with hb | hb
  · subst hb
    obtain ⟨cb', w', mo', r1, r2, r3, r4, r5, r6⟩ := cput_0 (K1 := fun cb_12 w_13 => some (cb_12, w_13)) (K2 := fun mo_16 => some mo_16) (m := m) (lo := spl lo hi p + 1) (hi := hi) (b := n + cst c) (cb := (lrn (Cb_ch cb) c 0, lN (spl lo hi p) + 1, lN hi, Cb_cd cb)) (w := w) (mo := Mo_s_lo (Mo_s_hi mo (lN hi)) (lN (spl lo hi p) + 1)) 100000 100000 (by decide) (by decide) (lN_1 _) rfl (lN_1 _) rfl (by omega) hh trivial w1 w2 w3 o1 o2 (pot hp (hcost _ hs.2.2.2 (fun q => by subst q; exact (spl_ev hl2).2))) (by omega)
    have hmo : f_Model_emit mo 0 (nI p) = some mo' := by
      rw [hem _ rfl, if_neg (show ¬ (0 : Int32) = 1 by decide)]
      exact r2
    refine ⟨cb', w', _, ?_, hemS mo' hmo r6, ⟨?_, ?_⟩, ?_⟩
    · rw [if_neg (show ¬ (0 : Int32) = 1 by decide), if_neg (show ¬ (0 : Int32) = 1 by decide), a2]
      exact r1
    · exact r3
    · exact Chs_lrn hC ht.2 r5 rfl
    · exact Em.trans (Em.trans (Em_L mo _ _) r4) (Em_C _ _)
  · subst hb
    obtain ⟨cb', w', mo', r1, r2, r3, r4, r5, r6⟩ := cput_0 (K1 := fun cb_12 w_13 => some (cb_12, w_13)) (K2 := fun mo_16 => some mo_16) (m := m) (lo := lo) (hi := spl lo hi p) (b := n + cst c) (cb := (lrn (Cb_ch cb) c 1, lN lo, lN (spl lo hi p), Cb_cd cb)) (w := w) (mo := Mo_s_lo (Mo_s_hi mo (lN (spl lo hi p))) (lN lo)) 100000 100000 (by decide) (by decide) rfl rfl rfl rfl (by omega) (by omega) trivial w1 w2 w3 o1 o2 (pot hp (hcost _ hs.2.2.1 (fun q => by subst q; exact (spl_ev hl2).1))) (by omega)
    have hmo : f_Model_emit mo 1 (nI p) = some mo' := by
      rw [hem _ rfl, if_pos rfl]
      exact r2
    refine ⟨cb', w', _, ?_, hemS mo' hmo r6, ⟨?_, ?_⟩, ?_⟩
    · rw [if_pos rfl, if_pos rfl, a1]
      exact r1
    · exact r3
    · exact Chs_lrn hC ht.2 r5 rfl
    · exact Em.trans (Em.trans (Em_L mo _ _) r4) (Em_C _ _)
