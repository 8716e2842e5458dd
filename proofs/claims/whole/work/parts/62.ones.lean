/-! How many samples of a row are black: Integer.bitCount and the reference's ones. (s_l, nx_and, nx_xor, nx_or: kit/laws/BITS.to-paste) -/
theorem s_l : ∀ n, n < 32 → ((nI n &&& 31).toBitVec.smod 32).toNat = n := by decide +kernel
theorem nx_and (a b : Nat) : nI a &&& nI b = nI (a &&& b) := by
  apply Int32.toBitVec_inj.1
  show BitVec.ofNat 32 a &&& BitVec.ofNat 32 b = BitVec.ofNat 32 (a &&& b)
  apply BitVec.eq_of_getLsbD_eq
  intro i hi
  simp [hi]
theorem nx_xor (a b : Nat) : nI a ^^^ nI b = nI (a ^^^ b) := by
  apply Int32.toBitVec_inj.1
  show BitVec.ofNat 32 a ^^^ BitVec.ofNat 32 b = BitVec.ofNat 32 (a ^^^ b)
  apply BitVec.eq_of_getLsbD_eq
  intro i hi
  simp [hi]
theorem nx_or (a b : Nat) : nI a ||| nI b = nI (a ||| b) := by
  apply Int32.toBitVec_inj.1
  show BitVec.ofNat 32 a ||| BitVec.ofNat 32 b = BitVec.ofNat 32 (a ||| b)
  apply BitVec.eq_of_getLsbD_eq
  intro i hi
  simp [hi]
/-- shifts by a number of places, as numbers -/
theorem n_shr {x i : Nat} (hx : x < 2 ^ 31) (hi : i < 32) : nI x >>> (nI i &&& 31) = nI (x / 2 ^ i) := pk_shrN hx _ i (s_l i hi)
theorem n_shl {x i : Nat} (hi : i < 32) (hx : x * 2 ^ i < 2 ^ 32) : nI x <<< (nI i &&& 31) = nI (x * 2 ^ i) := pk_shlN _ i (s_l i hi) hx
theorem n_and1 {x : Nat} (hx : x < 2 ^ 32) : nI x &&& 1 = nI (x % 2) := pk_andN hx 1 rfl
theorem n_bit {x i : Nat} (hx : x < 2 ^ 31) (hi : i < 32) : (nI x >>> (nI i &&& 31)) &&& 1 = nI (x / 2 ^ i % 2) := by
  rw [n_shr hx hi, n_and1 (Nat.lt_of_le_of_lt (Nat.div_le_self _ _) (by omega))]
/-- how many of the lowest k bits are 1 -/
def pop (x : Nat) : Nat → Nat
  | 0 => 0
  | k + 1 => pop x k + x / 2 ^ k % 2
theorem pop_le (x k : Nat) : pop x k ≤ k := by
  induction k with
  | zero => exact Nat.le_refl 0
  | succ k ih => rw [pop]; have : x / 2 ^ k % 2 < 2 := Nat.mod_lt _ (by decide); omega
theorem m_ones_l {x : Nat} {k24 : Int32 → Option Int32} (hx : x < 65536) : ∀ (m i : Nat), i ≤ 16 → 16 - i < m → l_Model_ones_4 (nI x) k24 m (nI (pop x i)) (nI i) = k24 (nI (pop x 16)) := by
  intro m
  induction m with
  | zero => intro i _ h2; omega
  | succ m ih =>
    intro i h1 h2
    rw [l_Model_ones_4]
    by_cases e : i = 16
    · subst e
      rw [if_pos (show (16 : Int32) ≤ nI 16 from nI_le (a := 16) (b := 16) (Nat.le_refl 16) (by decide))]
    · rw [if_neg (show ¬ (16 : Int32) ≤ nI i from nI_ge (a := i) (b := 16) (by omega) (by decide))]
      show l_Model_ones_4 (nI x) k24 m (nI (pop x i) + ((nI x >>> (nI i &&& 31)) &&& 1)) (nI i + 1) = _
      rw [n_bit (by omega) (by omega), nI_add, nI_1, ← ih (i + 1) (by omega) (by omega)]
      rfl
theorem m_ones {x : Nat} (hx : x < 65536) : f_Model_ones (nI x) = some (nI (pop x 16)) := by
  rw [f_Model_ones]
  exact m_ones_l hx 100000 0 (by omega) (by omega)
/-- bitCount's steps, as numbers -/
def bc1 (x : Nat) : Nat := x - (x / 2 &&& 1431655765)
def bc2 (x : Nat) : Nat := (x &&& 858993459) + (x / 4 &&& 858993459)
def bc3 (x : Nat) : Nat := (x + x / 16) &&& 252645135
def bc4 (x : Nat) : Nat := x + x / 256
def bc5 (x : Nat) : Nat := x + x / 65536
def bcN (x : Nat) : Nat := bc5 (bc4 (bc3 (bc2 (bc1 x)))) &&& 63
def bcRow (h : Nat) : Nat → Bool
  | 0 => true
  | l + 1 => (bcN (h * 256 + l) == pop (h * 256 + l) 16) && bcRow h l
def bcFrom (b : Nat) : Nat → Bool
  | 0 => true
  | h + 1 => bcRow (b + h) 256 && bcFrom b h
theorem bcF_0 : bcFrom 0 8 = true := by decide +kernel
theorem bcF_1 : bcFrom 8 8 = true := by decide +kernel
theorem bcF_2 : bcFrom 16 8 = true := by decide +kernel
theorem bcF_3 : bcFrom 24 8 = true := by decide +kernel
theorem bcF_4 : bcFrom 32 8 = true := by decide +kernel
theorem bcF_5 : bcFrom 40 8 = true := by decide +kernel
theorem bcF_6 : bcFrom 48 8 = true := by decide +kernel
theorem bcF_7 : bcFrom 56 8 = true := by decide +kernel
theorem bcF_8 : bcFrom 64 8 = true := by decide +kernel
theorem bcF_9 : bcFrom 72 8 = true := by decide +kernel
theorem bcF_10 : bcFrom 80 8 = true := by decide +kernel
theorem bcF_11 : bcFrom 88 8 = true := by decide +kernel
theorem bcF_12 : bcFrom 96 8 = true := by decide +kernel
theorem bcF_13 : bcFrom 104 8 = true := by decide +kernel
theorem bcF_14 : bcFrom 112 8 = true := by decide +kernel
theorem bcF_15 : bcFrom 120 8 = true := by decide +kernel
theorem bcF_16 : bcFrom 128 8 = true := by decide +kernel
theorem bcF_17 : bcFrom 136 8 = true := by decide +kernel
theorem bcF_18 : bcFrom 144 8 = true := by decide +kernel
theorem bcF_19 : bcFrom 152 8 = true := by decide +kernel
theorem bcF_20 : bcFrom 160 8 = true := by decide +kernel
theorem bcF_21 : bcFrom 168 8 = true := by decide +kernel
theorem bcF_22 : bcFrom 176 8 = true := by decide +kernel
theorem bcF_23 : bcFrom 184 8 = true := by decide +kernel
theorem bcF_24 : bcFrom 192 8 = true := by decide +kernel
theorem bcF_25 : bcFrom 200 8 = true := by decide +kernel
theorem bcF_26 : bcFrom 208 8 = true := by decide +kernel
theorem bcF_27 : bcFrom 216 8 = true := by decide +kernel
theorem bcF_28 : bcFrom 224 8 = true := by decide +kernel
theorem bcF_29 : bcFrom 232 8 = true := by decide +kernel
theorem bcF_30 : bcFrom 240 8 = true := by decide +kernel
theorem bcF_31 : bcFrom 248 8 = true := by decide +kernel
theorem bcRow_spec {h : Nat} : ∀ {n : Nat}, bcRow h n = true → ∀ l, l < n → bcN (h * 256 + l) = pop (h * 256 + l) 16 := by
  intro n
  induction n with
  | zero => intro _ l hl; omega
  | succ n ih =>
    intro hr l hl
    rw [bcRow, Bool.and_eq_true] at hr
    by_cases e : l = n
    · subst e; exact eq_of_beq hr.1
    · exact ih hr.2 l (by omega)
theorem bcFrom_spec {b : Nat} : ∀ {n : Nat}, bcFrom b n = true → ∀ h, h < n → bcRow (b + h) 256 = true := by
  intro n
  induction n with
  | zero => intro _ h hh; omega
  | succ n ih =>
    intro hr h hh
    rw [bcFrom, Bool.and_eq_true] at hr
    by_cases e : h = n
    · subst e; exact hr.1
    · exact ih hr.2 h (by omega)
theorem bcRows {h : Nat} (hh : h < 256) : bcRow h 256 = true := by
  have e : h = 8 * (h / 8) + h % 8 := by omega
  have m : h % 8 < 8 := Nat.mod_lt _ (by decide)
  have q : h / 8 < 32 := by omega
  rw [e]
  generalize h / 8 = k at q
  generalize h % 8 = j at m
  rcases (show k = 0 ∨ k = 1 ∨ k = 2 ∨ k = 3 ∨ k = 4 ∨ k = 5 ∨ k = 6 ∨ k = 7 ∨ k = 8 ∨ k = 9 ∨ k = 10 ∨ k = 11 ∨ k = 12 ∨ k = 13 ∨ k = 14 ∨ k = 15 ∨ k = 16 ∨ k = 17 ∨ k = 18 ∨ k = 19 ∨ k = 20 ∨ k = 21 ∨ k = 22 ∨ k = 23 ∨ k = 24 ∨ k = 25 ∨ k = 26 ∨ k = 27 ∨ k = 28 ∨ k = 29 ∨ k = 30 ∨ k = 31 by omega) with rfl | rfl | rfl | rfl | rfl | rfl | rfl | rfl | rfl | rfl | rfl | rfl | rfl | rfl | rfl | rfl | rfl | rfl | rfl | rfl | rfl | rfl | rfl | rfl | rfl | rfl | rfl | rfl | rfl | rfl | rfl | rfl
  · exact bcFrom_spec bcF_0 j m
  · exact bcFrom_spec bcF_1 j m
  · exact bcFrom_spec bcF_2 j m
  · exact bcFrom_spec bcF_3 j m
  · exact bcFrom_spec bcF_4 j m
  · exact bcFrom_spec bcF_5 j m
  · exact bcFrom_spec bcF_6 j m
  · exact bcFrom_spec bcF_7 j m
  · exact bcFrom_spec bcF_8 j m
  · exact bcFrom_spec bcF_9 j m
  · exact bcFrom_spec bcF_10 j m
  · exact bcFrom_spec bcF_11 j m
  · exact bcFrom_spec bcF_12 j m
  · exact bcFrom_spec bcF_13 j m
  · exact bcFrom_spec bcF_14 j m
  · exact bcFrom_spec bcF_15 j m
  · exact bcFrom_spec bcF_16 j m
  · exact bcFrom_spec bcF_17 j m
  · exact bcFrom_spec bcF_18 j m
  · exact bcFrom_spec bcF_19 j m
  · exact bcFrom_spec bcF_20 j m
  · exact bcFrom_spec bcF_21 j m
  · exact bcFrom_spec bcF_22 j m
  · exact bcFrom_spec bcF_23 j m
  · exact bcFrom_spec bcF_24 j m
  · exact bcFrom_spec bcF_25 j m
  · exact bcFrom_spec bcF_26 j m
  · exact bcFrom_spec bcF_27 j m
  · exact bcFrom_spec bcF_28 j m
  · exact bcFrom_spec bcF_29 j m
  · exact bcFrom_spec bcF_30 j m
  · exact bcFrom_spec bcF_31 j m
theorem bcN_pop {x : Nat} (hx : x < 65536) : bcN x = pop x 16 := by
  have h := bcRow_spec (bcRows (h := x / 256) (by omega)) (x % 256) (Nat.mod_lt _ (by decide))
  have e : x / 256 * 256 + x % 256 = x := by omega
  rw [e] at h
  exact h
theorem u_1 {n : Nat} (hn : n < 2 ^ 32) : ((nI n).toUInt32 >>> ((1 : Int32).toUInt32 &&& Int32.toUInt32 31)).toInt32 = nI (n / 2) := pk_ushrN hn 1 1 (by decide)
theorem u_2 {n : Nat} (hn : n < 2 ^ 32) : ((nI n).toUInt32 >>> ((2 : Int32).toUInt32 &&& Int32.toUInt32 31)).toInt32 = nI (n / 4) := pk_ushrN hn 2 2 (by decide)
theorem u_4 {n : Nat} (hn : n < 2 ^ 32) : ((nI n).toUInt32 >>> ((4 : Int32).toUInt32 &&& Int32.toUInt32 31)).toInt32 = nI (n / 16) := pk_ushrN hn 4 4 (by decide)
theorem u_8 {n : Nat} (hn : n < 2 ^ 32) : ((nI n).toUInt32 >>> ((8 : Int32).toUInt32 &&& Int32.toUInt32 31)).toInt32 = nI (n / 256) := pk_ushrN hn 8 8 (by decide)
theorem u_16 {n : Nat} (hn : n < 2 ^ 32) : ((nI n).toUInt32 >>> ((16 : Int32).toUInt32 &&& Int32.toUInt32 31)).toInt32 = nI (n / 65536) := pk_ushrN hn 16 16 (by decide)
theorem s_bitCount {x : Nat} (hx : x < 65536) : f_Integer_bitCount (nI x) = some (nI (pop x 16)) := by
  have l1 : (x / 2 &&& 1431655765) ≤ x := Nat.le_trans Nat.and_le_left (Nat.div_le_self _ _)
  have b1 : bc1 x < 65536 := by unfold bc1; omega
  have b2 : bc2 (bc1 x) < 2 ^ 20 := by
    have q1 : (bc1 x &&& 858993459) ≤ bc1 x := Nat.and_le_left
    have q2 : (bc1 x / 4 &&& 858993459) ≤ bc1 x / 4 := Nat.and_le_left
    unfold bc2; omega
  have b3 : bc3 (bc2 (bc1 x)) < 2 ^ 21 := by
    have q1 : (bc2 (bc1 x) + bc2 (bc1 x) / 16 &&& 252645135) ≤ bc2 (bc1 x) + bc2 (bc1 x) / 16 := Nat.and_le_left
    unfold bc3; omega
  have b4 : bc4 (bc3 (bc2 (bc1 x))) < 2 ^ 22 := by unfold bc4; omega
  have b5 : bc5 (bc4 (bc3 (bc2 (bc1 x)))) < 2 ^ 23 := by unfold bc5; omega
  have e1 : nI x - (((nI x).toUInt32 >>> ((1 : Int32).toUInt32 &&& Int32.toUInt32 31)).toInt32 &&& 1431655765) = nI (bc1 x) := by
    rw [u_1 (by omega)]
    show nI x - (nI (x / 2) &&& nI 1431655765) = _
    rw [nx_and, pk_sub l1]; rfl
  have e2 : ((nI (bc1 x) &&& 858993459) + (((nI (bc1 x)).toUInt32 >>> ((2 : Int32).toUInt32 &&& Int32.toUInt32 31)).toInt32 &&& 858993459)) = nI (bc2 (bc1 x)) := by
    rw [u_2 (by omega)]
    show (nI (bc1 x) &&& nI 858993459) + (nI (bc1 x / 4) &&& nI 858993459) = _
    rw [nx_and, nx_and, nI_add]; rfl
  have e3 : ((nI (bc2 (bc1 x)) + ((nI (bc2 (bc1 x))).toUInt32 >>> ((4 : Int32).toUInt32 &&& Int32.toUInt32 31)).toInt32) &&& 252645135) = nI (bc3 (bc2 (bc1 x))) := by
    rw [u_4 (by omega), nI_add]
    show (nI (bc2 (bc1 x) + bc2 (bc1 x) / 16) &&& nI 252645135) = _
    rw [nx_and]; rfl
  have e4 : nI (bc3 (bc2 (bc1 x))) + ((nI (bc3 (bc2 (bc1 x)))).toUInt32 >>> ((8 : Int32).toUInt32 &&& Int32.toUInt32 31)).toInt32 = nI (bc4 (bc3 (bc2 (bc1 x)))) := by
    rw [u_8 (by omega), nI_add]; rfl
  have e5 : nI (bc4 (bc3 (bc2 (bc1 x)))) + ((nI (bc4 (bc3 (bc2 (bc1 x))))).toUInt32 >>> ((16 : Int32).toUInt32 &&& Int32.toUInt32 31)).toInt32 = nI (bc5 (bc4 (bc3 (bc2 (bc1 x))))) := by
    rw [u_16 (by omega), nI_add]; rfl
  rw [f_Integer_bitCount]
  simp only [lt', e1, e2, e3, e4, e5]
  rw [← bcN_pop hx]
  show some (nI (bc5 (bc4 (bc3 (bc2 (bc1 x))))) &&& nI 63) = _
  rw [nx_and]; rfl
