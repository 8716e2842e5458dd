/-! Lists of bits, each with its context -/
theorem bd_bd {α β γ : Type} {x : Option α} {f : α → Option β} {g : β → Option γ} : bd (bd x f) g = bd x (fun a => bd (f a) g) := by cases x <;> rfl
theorem bd_some2 {α β : Type} {x : Option (α × β)} : bd x (fun (a, b) => some (a, b)) = x := by
  cases x with
  | none => rfl
  | some r => rfl
theorem bd_some1 {α : Type} {x : Option α} : bd x (fun a => some a) = x := by cases x <;> rfl
def mF : List (Int32 × Int32) → Mo → Option Mo
  | [], mo => some mo
  | t :: ts, mo => bd (mS mo t.1 t.2) (fun mo1 => mF ts mo1)
theorem mF_app (a b : List (Int32 × Int32)) : ∀ mo : Mo, mF (a ++ b) mo = bd (mF a mo) (fun mo1 => mF b mo1) := by
  induction a with
  | nil => intro mo; rfl
  | cons t ts ih =>
    intro mo
    show bd (mS mo t.1 t.2) (fun mo1 => mF (ts ++ b) mo1) = bd (bd (mS mo t.1 t.2) (fun mo1 => mF ts mo1)) _
    rw [bd_bd]
    cases h : mS mo t.1 t.2 with
    | none => rfl
    | some r => exact ih r
/-- what a list of bits costs -/
def cstL : List (Int32 × Int32) → Nat
  | [] => 0
  | t :: ts => cst t.2 + cstL ts
theorem cstL_app (a b : List (Int32 × Int32)) : cstL (a ++ b) = cstL a + cstL b := by
  induction a with
  | nil => exact (Nat.zero_add _).symm
  | cons t ts ih => show cst t.2 + cstL (ts ++ b) = cst t.2 + cstL ts + cstL b; omega
def okT (ts : List (Int32 × Int32)) : Prop := ∀ t ∈ ts, tok t.1 t.2
theorem okT_nil : okT [] := fun t h => by cases h
theorem okT_cons {t : Int32 × Int32} {ts : List (Int32 × Int32)} (h1 : tok t.1 t.2) (h2 : okT ts) : okT (t :: ts) := by
  intro s hs
  cases hs with
  | head => exact h1
  | tail _ h => exact h2 s h
theorem okT_app {a b : List (Int32 × Int32)} (h1 : okT a) (h2 : okT b) : okT (a ++ b) := by
  intro s hs
  rcases List.mem_append.mp hs with h | h
  · exact h1 s h
  · exact h2 s h
/-- the lower m bits of v, the highest first -/
def bitsT (v : Nat) : Nat → List (Int32 × Int32)
  | 0 => []
  | m + 1 => (nI (v / 2 ^ m % 2), -1) :: bitsT v m
theorem tok_e {x : Nat} : tok (nI (x % 2)) (-1) := by
  have h : x % 2 = 0 ∨ x % 2 = 1 := by omega
  refine ⟨?_, Or.inl rfl⟩
  rcases h with h | h
  · exact Or.inl (by rw [h]; rfl)
  · exact Or.inr (by rw [h]; rfl)
theorem bitsT_ok (v m : Nat) : okT (bitsT v m) := by
  induction m with
  | zero => exact okT_nil
  | succ m ih => exact okT_cons tok_e ih
theorem bitsT_cst (v m : Nat) : cstL (bitsT v m) = 2 * m := by
  induction m with
  | zero => rfl
  | succ m ih =>
    show cst (-1) + cstL (bitsT v m) = _
    rw [ih, show cst (-1) = 2 from rfl]; omega
theorem bitsT_add (v a b : Nat) : bitsT v (a + b) = bitsT (v / 2 ^ b) a ++ bitsT v b := by
  induction a with
  | zero => rw [Nat.zero_add]; rfl
  | succ a ih =>
    rw [show a + 1 + b = (a + b) + 1 by omega]
    show (nI (v / 2 ^ (a + b) % 2), (-1 : Int32)) :: bitsT v (a + b) = (nI (v / 2 ^ b / 2 ^ a % 2), (-1 : Int32)) :: (bitsT (v / 2 ^ b) a ++ bitsT v b)
    rw [ih, Nat.div_div_eq_div_mul, ← Nat.pow_add, Nat.add_comm b a]
theorem bit_mod {v m j : Nat} (h : j < m) : v % 2 ^ m / 2 ^ j % 2 = v / 2 ^ j % 2 := by
  rw [← Nat.toNat_testBit, ← Nat.toNat_testBit, Nat.testBit_mod_two_pow, decide_eq_true h, Bool.true_and]
theorem bitsT_mod (v m : Nat) : ∀ j, j ≤ m → bitsT (v % 2 ^ m) j = bitsT v j := by
  intro j
  induction j with
  | zero => intro _; rfl
  | succ j ih =>
    intro h
    show (nI (v % 2 ^ m / 2 ^ j % 2), (-1 : Int32)) :: bitsT (v % 2 ^ m) j = (nI (v / 2 ^ j % 2), (-1 : Int32)) :: bitsT v j
    rw [ih (by omega), bit_mod (by omega)]
/-- a number -/
def numT (x : Nat) : List (Int32 × Int32) := bitsT (x + 1) (2 * Nat.log2 (x + 1) + 1)
theorem log_in {s : Nat} (h1 : 1 ≤ s) (h2 : s < 512) : 2 ^ Nat.log2 s ≤ s ∧ s < 2 ^ (Nat.log2 s + 1) ∧ Nat.log2 s ≤ 8 := by
  have a := Nat.log2_self_le (n := s) (by omega)
  have b := Nat.lt_log2_self (n := s)
  refine ⟨a, b, ?_⟩
  have c : 2 ^ Nat.log2 s < 2 ^ 9 := by omega
  have := (Nat.pow_lt_pow_iff_right (a := 2) (by decide)).mp c
  omega
theorem numT_ok (x : Nat) : okT (numT x) := bitsT_ok _ _
theorem numT_cst {x : Nat} (h : x < 511) : cstL (numT x) ≤ 34 ∧ cstL (numT x) ≤ 4 * x + 2 := by
  obtain ⟨a, b, c⟩ := log_in (s := x + 1) (by omega) (by omega)
  have d := Nat.lt_two_pow_self (n := Nat.log2 (x + 1))
  unfold numT
  rw [bitsT_cst]
  omega
theorem numT_eq {x k : Nat} (hk : k = Nat.log2 (x + 1)) (h : x < 511) : numT x = bitsT 0 k ++ ((1, -1) :: bitsT (x + 1 - 2 ^ k) k) := by
  obtain ⟨a, b, c⟩ := log_in (s := x + 1) (by omega) (by omega)
  rw [← hk] at a b c
  unfold numT
  rw [← hk, show 2 * k + 1 = k + (k + 1) by omega, bitsT_add, Nat.div_eq_of_lt b]
  show bitsT 0 k ++ ((nI ((x + 1) / 2 ^ k % 2), -1) :: bitsT (x + 1) k) = _
  have e1 : (x + 1) / 2 ^ k = 1 := by
    rw [Nat.pow_succ] at b
    exact Nat.div_eq_of_lt_le (by omega) (by omega)
  have e2 : x + 1 - 2 ^ k = (x + 1) % 2 ^ k := by
    have := Nat.div_add_mod (x + 1) (2 ^ k)
    rw [e1, Nat.mul_one] at this
    omega
  rw [e1, e2, bitsT_mod (x + 1) k k (Nat.le_refl k)]
  rfl
theorem emitBits_l {v : Nat} {K : Mo → Option Mo} (hv : v < 2 ^ 31) : ∀ (m f : Nat) (mo : Mo), m < f → m ≤ 31 → l_Model_emitBits_4 (nI v) K f mo (nI m - 1) = bd (mF (bitsT v m) mo) K := by
  intro m
  induction m with
  | zero =>
    intro f mo h1 _
    obtain ⟨g, rfl⟩ : ∃ g, f = g + 1 := ⟨f - 1, by omega⟩
    rw [l_Model_emitBits_4, if_pos (show nI 0 - 1 < 0 by decide)]
    rfl
  | succ m ih =>
    intro f mo h1 h2
    obtain ⟨g, rfl⟩ : ∃ g, f = g + 1 := ⟨f - 1, by omega⟩
    rw [l_Model_emitBits_4, nI_pred, if_neg (nI_pos (by omega)), n_bit hv (by omega)]
    show _ = bd (bd (mS mo (nI (v / 2 ^ m % 2)) (-1)) (fun mo1 => mF (bitsT v m) mo1)) K
    rw [bd_bd, mS, if_pos rfl]
    cases h : f_Model_emit mo (nI (v / 2 ^ m % 2)) 32768 with
    | none => rfl
    | some r =>
      show l_Model_emitBits_4 (nI v) K g r (nI m + (-1)) = bd (mF (bitsT v m) r) K
      rw [← Int32.sub_eq_add_neg]
      exact ih g r (by omega) (by omega)
theorem m_emitBits {v m : Nat} (mo : Mo) (hv : v < 2 ^ 31) (hm : m ≤ 31) : f_Model_emitBits mo (nI v) (nI m) = mF (bitsT v m) mo := by
  rw [f_Model_emitBits]
  refine Eq.trans (emitBits_l (K := fun mo_6 => some mo_6) hv m 100000 mo (by omega) hm) ?_
  exact bd_some1
theorem emitNum_l {x k : Nat} {mo : Mo} {K : Int32 → Option Mo} (hx : x < 511) (hk : k = Nat.log2 (x + 1)) : ∀ (m i : Nat), i ≤ k → k - i < m → l_Model_emitNumber_2 mo (nI x) K m (nI i) = K (nI k) := by
  obtain ⟨a, b, c⟩ := log_in (s := x + 1) (by omega) (by omega)
  rw [← hk] at a b c
  intro m
  induction m with
  | zero => intro i _ h; omega
  | succ m ih =>
    intro i h1 h2
    rw [l_Model_emitNumber_2, nI_1, nI_1, n_shr (by omega) (by omega)]
    by_cases e : i = k
    · subst e
      rw [Nat.div_eq_of_lt b, if_pos (show nI 0 ≤ 0 by decide)]
    · have h3 : 0 < (x + 1) / 2 ^ (i + 1) := Nat.div_pos (Nat.le_trans (Nat.pow_le_pow_right (by decide) (by omega)) a) (Nat.two_pow_pos _)
      have h4 : (x + 1) / 2 ^ (i + 1) ≤ x + 1 := Nat.div_le_self _ _
      rw [if_neg (nI_nle h3 (by omega))]
      exact ih (i + 1) (by omega) (by omega)
theorem m_emitNumber {x : Nat} (mo : Mo) (hx : x < 511) : f_Model_emitNumber mo (nI x) = mF (numT x) mo := by
  obtain ⟨a, b, c⟩ := log_in (s := x + 1) (by omega) (by omega)
  rw [f_Model_emitNumber]
  refine Eq.trans (emitNum_l (K := fun x2_4 => bd (f_Model_emitBits mo 0 x2_4) <| fun mo_5 => bd (f_Model_emit mo_5 1 32768) <| fun mo_6 => bd (f_Model_emitBits mo_6 ((nI x + 1) - ((1 : Int32) <<< (x2_4 &&& 31))) x2_4) <| fun mo_7 => some mo_7) hx rfl 100000 0 (Nat.zero_le _) (by omega)) ?_
  have e1 : (1 : Int32) <<< (nI (Nat.log2 (x + 1)) &&& 31) = nI (2 ^ Nat.log2 (x + 1)) := by
    have := n_shl (x := 1) (i := Nat.log2 (x + 1)) (by omega) (by omega)
    rw [Nat.one_mul] at this
    exact this
  rw [numT_eq rfl hx, mF_app]
  show bd (f_Model_emitBits mo (nI 0) (nI (Nat.log2 (x + 1)))) _ = _
  rw [m_emitBits mo (by decide) (by omega)]
  cases h : mF (bitsT 0 (Nat.log2 (x + 1))) mo with
  | none => rfl
  | some r =>
    show bd (f_Model_emit r 1 32768) _ = bd (mS r 1 (-1)) _
    rw [mS, if_pos rfl]
    cases h2 : f_Model_emit r 1 32768 with
    | none => rfl
    | some r2 =>
      show bd (f_Model_emitBits r2 ((nI x + 1) - ((1 : Int32) <<< (nI (Nat.log2 (x + 1)) &&& 31))) (nI (Nat.log2 (x + 1)))) _ = mF (bitsT (x + 1 - 2 ^ Nat.log2 (x + 1)) (Nat.log2 (x + 1))) r2
      rw [e1, nI_1, pk_sub a, m_emitBits r2 (by omega) (by omega)]
      exact bd_some1
def cF_P : List (Int32 × Int32) → Pb → Br → Option (Pb × Br)
  | [], b, w => some (b, w)
  | t :: ts, b, w => bd (f_P_PlainBits_putBit b w t.1 t.2) (fun (b1, w1) => cF_P ts b1 w1)
theorem cF_app_P (x y : List (Int32 × Int32)) : ∀ (b : Pb) (w : Br), cF_P (x ++ y) b w = bd (cF_P x b w) (fun (b1, w1) => cF_P y b1 w1) := by
  induction x with
  | nil => intro b w; rfl
  | cons t ts ih =>
    intro b w
    show bd (f_P_PlainBits_putBit b w t.1 t.2) (fun (b1, w1) => cF_P (ts ++ y) b1 w1) = bd (bd (f_P_PlainBits_putBit b w t.1 t.2) (fun (b1, w1) => cF_P ts b1 w1)) _
    rw [bd_bd]
    cases h : f_P_PlainBits_putBit b w t.1 t.2 with
    | none => rfl
    | some r => exact ih r.1 r.2
theorem fold_P (ts : List (Int32 × Int32)) : ∀ (b : Pb) (w : Br) (mo : Mo) (n : Nat), ¬ 2 ≤ Mo_kind mo → WcP b w mo n → okT ts → n + cstL ts ≤ 127000 → ∃ (b' : Pb) (w' : Br) (mo' : Mo), cF_P ts b w = some (b', w') ∧ mF ts mo = some mo' ∧ WcP b' w' mo' (n + cstL ts) ∧ Em mo mo' := by
  induction ts with
  | nil => intro b w mo n _ h _ _; exact ⟨b, w, mo, rfl, rfl, h, Em.refl mo⟩
  | cons t ts ih =>
    intro b w mo n hk h ht hn
    have hn' : n + (cst t.2 + cstL ts) ≤ 127000 := hn
    obtain ⟨b1, w1, mo1, e1, e2, e3, e4⟩ := stepP hk h (show n ≤ 127000 by omega) (ht t (List.mem_cons_self ..))
    have hk1 : (fun mo : Mo => ¬ 2 ≤ Mo_kind mo) mo1 := by obtain ⟨_, _, _, _, _, _, rfl⟩ := e4; exact hk
    obtain ⟨b2, w2, mo2, f1, f2, f3, f4⟩ := ih b1 w1 mo1 (n + cst t.2) hk1 e3 (fun s hs => ht s (List.mem_cons_of_mem _ hs)) (by omega)
    refine ⟨b2, w2, mo2, ?_, ?_, ?_, Em.trans e4 f4⟩
    · show bd (f_P_PlainBits_putBit b w t.1 t.2) _ = _
      rw [e1]; exact f1
    · show bd (mS mo t.1 t.2) _ = _
      rw [e2]; exact f2
    · show WcP b2 w2 mo2 (n + (cst t.2 + cstL ts))
      rw [← Nat.add_assoc]; exact f3
theorem putBits_l_P {v : Nat} {K : Pb → Br → Option (Pb × Br)} (hv : v < 2 ^ 31) : ∀ (m f : Nat) (b : Pb) (w : Br), m < f → m ≤ 31 → l_P_Bits_putBits_4 (nI v) K f b w (nI m - 1) = bd (cF_P (bitsT v m) b w) (fun (b1, w1) => K b1 w1) := by
  intro m
  induction m with
  | zero =>
    intro f b w h1 _
    obtain ⟨g, rfl⟩ : ∃ g, f = g + 1 := ⟨f - 1, by omega⟩
    rw [l_P_Bits_putBits_4, if_pos (show nI 0 - 1 < 0 by decide)]
    rfl
  | succ m ih =>
    intro f b w h1 h2
    obtain ⟨g, rfl⟩ : ∃ g, f = g + 1 := ⟨f - 1, by omega⟩
    rw [l_P_Bits_putBits_4, nI_pred, if_neg (nI_pos (by omega)), n_bit hv (by omega)]
    show _ = bd (bd (f_P_PlainBits_putBit b w (nI (v / 2 ^ m % 2)) (-1)) (fun (b1, w1) => cF_P (bitsT v m) b1 w1)) _
    rw [bd_bd]
    cases h : f_P_PlainBits_putBit b w (nI (v / 2 ^ m % 2)) (-1) with
    | none => rfl
    | some r =>
      show l_P_Bits_putBits_4 (nI v) K g r.1 r.2 (nI m + (-1)) = bd (cF_P (bitsT v m) r.1 r.2) _
      rw [← Int32.sub_eq_add_neg]
      exact ih g r.1 r.2 (by omega) (by omega)
theorem putBits_P {v m : Nat} (b : Pb) (w : Br) (hv : v < 2 ^ 31) (hm : m ≤ 31) : f_P_Bits_putBits b w (nI v) (nI m) = cF_P (bitsT v m) b w := by
  rw [f_P_Bits_putBits]
  refine Eq.trans (putBits_l_P (K := fun b1 w1 => some (b1, w1)) hv m 100000 b w (by omega) hm) ?_
  exact bd_some2
theorem putNum_l_P {s k : Nat} {b : Pb} {w : Br} {K : Int32 → Option (Pb × Br)} (h5 : s < 512) (hk8 : k ≤ 8) (a : 2 ^ k ≤ s) (b5 : s < 2 ^ (k + 1)) : ∀ (m i : Nat), i ≤ k → k - i < m → l_P_Bits_putNumber_6 b w (nI s) K m (nI i) = K (nI k) := by
  intro m
  induction m with
  | zero => intro i _ h; omega
  | succ m ih =>
    intro i h1 h2
    rw [l_P_Bits_putNumber_6]
    by_cases e8 : i = 8
    · subst e8
      rw [if_pos (show (8 : Int32) ≤ nI 8 from nI_le (Nat.le_refl 8) (by decide)), show k = 8 by omega]
    · rw [if_neg (show ¬ (8 : Int32) ≤ nI i from nI_ge (b := 8) (by omega) (by decide)), nI_1, n_shr (by omega) (by omega)]
      by_cases e : i = k
      · subst e
        rw [Nat.div_eq_of_lt b5, if_pos (show nI 0 = 0 from rfl)]
      · have h3 : 0 < s / 2 ^ (i + 1) := Nat.div_pos (Nat.le_trans (Nat.pow_le_pow_right (by decide) (by omega)) a) (Nat.two_pow_pos _)
        have h4 : s / 2 ^ (i + 1) ≤ s := Nat.div_le_self _ _
        rw [if_neg (nI_ne0 h3 (by omega))]
        exact ih (i + 1) (by omega) (by omega)
theorem putNumber_P {x : Nat} (b : Pb) (w : Br) (hx : x < 511) : f_P_Bits_putNumber b w (nI x) = cF_P (numT x) b w := by
  obtain ⟨a, b5, c⟩ := log_in (s := x + 1) (by omega) (by omega)
  rw [f_P_Bits_putNumber, nI_1, lt']
  refine Eq.trans (putNum_l_P (s := x + 1) (by omega) c a b5 100000 0 (Nat.zero_le _) (by omega)) ?_
  have e2 : (2 : Int32) * nI (Nat.log2 (x + 1)) + 1 = nI (2 * Nat.log2 (x + 1) + 1) := by
    rw [show (2 : Int32) = nI 2 from rfl, pk_mul, nI_1]
  rw [e2, putBits_P b w (by omega) (by omega)]
  exact bd_some2
def cF_C : List (Int32 × Int32) → Cb → Br → Option (Cb × Br)
  | [], b, w => some (b, w)
  | t :: ts, b, w => bd (f_C_ChanceBits_putBit b w t.1 t.2) (fun (b1, w1) => cF_C ts b1 w1)
theorem cF_app_C (x y : List (Int32 × Int32)) : ∀ (b : Cb) (w : Br), cF_C (x ++ y) b w = bd (cF_C x b w) (fun (b1, w1) => cF_C y b1 w1) := by
  induction x with
  | nil => intro b w; rfl
  | cons t ts ih =>
    intro b w
    show bd (f_C_ChanceBits_putBit b w t.1 t.2) (fun (b1, w1) => cF_C (ts ++ y) b1 w1) = bd (bd (f_C_ChanceBits_putBit b w t.1 t.2) (fun (b1, w1) => cF_C ts b1 w1)) _
    rw [bd_bd]
    cases h : f_C_ChanceBits_putBit b w t.1 t.2 with
    | none => rfl
    | some r => exact ih r.1 r.2
theorem fold_C (ts : List (Int32 × Int32)) : ∀ (b : Cb) (w : Br) (mo : Mo) (n : Nat), Mo_kind mo = 2 → WcC b w mo n → okT ts → n + cstL ts ≤ 127000 → ∃ (b' : Cb) (w' : Br) (mo' : Mo), cF_C ts b w = some (b', w') ∧ mF ts mo = some mo' ∧ WcC b' w' mo' (n + cstL ts) ∧ Em mo mo' := by
  induction ts with
  | nil => intro b w mo n _ h _ _; exact ⟨b, w, mo, rfl, rfl, h, Em.refl mo⟩
  | cons t ts ih =>
    intro b w mo n hk h ht hn
    have hn' : n + (cst t.2 + cstL ts) ≤ 127000 := hn
    obtain ⟨b1, w1, mo1, e1, e2, e3, e4⟩ := stepC hk h (show n ≤ 127000 by omega) (ht t (List.mem_cons_self ..))
    have hk1 : (fun mo : Mo => Mo_kind mo = 2) mo1 := by obtain ⟨_, _, _, _, _, _, rfl⟩ := e4; exact hk
    obtain ⟨b2, w2, mo2, f1, f2, f3, f4⟩ := ih b1 w1 mo1 (n + cst t.2) hk1 e3 (fun s hs => ht s (List.mem_cons_of_mem _ hs)) (by omega)
    refine ⟨b2, w2, mo2, ?_, ?_, ?_, Em.trans e4 f4⟩
    · show bd (f_C_ChanceBits_putBit b w t.1 t.2) _ = _
      rw [e1]; exact f1
    · show bd (mS mo t.1 t.2) _ = _
      rw [e2]; exact f2
    · show WcC b2 w2 mo2 (n + (cst t.2 + cstL ts))
      rw [← Nat.add_assoc]; exact f3
theorem putBits_l_C {v : Nat} {K : Cb → Br → Option (Cb × Br)} (hv : v < 2 ^ 31) : ∀ (m f : Nat) (b : Cb) (w : Br), m < f → m ≤ 31 → l_C_Bits_putBits_4 (nI v) K f b w (nI m - 1) = bd (cF_C (bitsT v m) b w) (fun (b1, w1) => K b1 w1) := by
  intro m
  induction m with
  | zero =>
    intro f b w h1 _
    obtain ⟨g, rfl⟩ : ∃ g, f = g + 1 := ⟨f - 1, by omega⟩
    rw [l_C_Bits_putBits_4, if_pos (show nI 0 - 1 < 0 by decide)]
    rfl
  | succ m ih =>
    intro f b w h1 h2
    obtain ⟨g, rfl⟩ : ∃ g, f = g + 1 := ⟨f - 1, by omega⟩
    rw [l_C_Bits_putBits_4, nI_pred, if_neg (nI_pos (by omega)), n_bit hv (by omega)]
    show _ = bd (bd (f_C_ChanceBits_putBit b w (nI (v / 2 ^ m % 2)) (-1)) (fun (b1, w1) => cF_C (bitsT v m) b1 w1)) _
    rw [bd_bd]
    cases h : f_C_ChanceBits_putBit b w (nI (v / 2 ^ m % 2)) (-1) with
    | none => rfl
    | some r =>
      show l_C_Bits_putBits_4 (nI v) K g r.1 r.2 (nI m + (-1)) = bd (cF_C (bitsT v m) r.1 r.2) _
      rw [← Int32.sub_eq_add_neg]
      exact ih g r.1 r.2 (by omega) (by omega)
theorem putBits_C {v m : Nat} (b : Cb) (w : Br) (hv : v < 2 ^ 31) (hm : m ≤ 31) : f_C_Bits_putBits b w (nI v) (nI m) = cF_C (bitsT v m) b w := by
  rw [f_C_Bits_putBits]
  refine Eq.trans (putBits_l_C (K := fun b1 w1 => some (b1, w1)) hv m 100000 b w (by omega) hm) ?_
  exact bd_some2
theorem putNum_l_C {s k : Nat} {b : Cb} {w : Br} {K : Int32 → Option (Cb × Br)} (h5 : s < 512) (hk8 : k ≤ 8) (a : 2 ^ k ≤ s) (b5 : s < 2 ^ (k + 1)) : ∀ (m i : Nat), i ≤ k → k - i < m → l_C_Bits_putNumber_6 b w (nI s) K m (nI i) = K (nI k) := by
  intro m
  induction m with
  | zero => intro i _ h; omega
  | succ m ih =>
    intro i h1 h2
    rw [l_C_Bits_putNumber_6]
    by_cases e8 : i = 8
    · subst e8
      rw [if_pos (show (8 : Int32) ≤ nI 8 from nI_le (Nat.le_refl 8) (by decide)), show k = 8 by omega]
    · rw [if_neg (show ¬ (8 : Int32) ≤ nI i from nI_ge (b := 8) (by omega) (by decide)), nI_1, n_shr (by omega) (by omega)]
      by_cases e : i = k
      · subst e
        rw [Nat.div_eq_of_lt b5, if_pos (show nI 0 = 0 from rfl)]
      · have h3 : 0 < s / 2 ^ (i + 1) := Nat.div_pos (Nat.le_trans (Nat.pow_le_pow_right (by decide) (by omega)) a) (Nat.two_pow_pos _)
        have h4 : s / 2 ^ (i + 1) ≤ s := Nat.div_le_self _ _
        rw [if_neg (nI_ne0 h3 (by omega))]
        exact ih (i + 1) (by omega) (by omega)
theorem putNumber_C {x : Nat} (b : Cb) (w : Br) (hx : x < 511) : f_C_Bits_putNumber b w (nI x) = cF_C (numT x) b w := by
  obtain ⟨a, b5, c⟩ := log_in (s := x + 1) (by omega) (by omega)
  rw [f_C_Bits_putNumber, nI_1, lt']
  refine Eq.trans (putNum_l_C (s := x + 1) (by omega) c a b5 100000 0 (Nat.zero_le _) (by omega)) ?_
  have e2 : (2 : Int32) * nI (Nat.log2 (x + 1)) + 1 = nI (2 * Nat.log2 (x + 1) + 1) := by
    rw [show (2 : Int32) = nI 2 from rfl, pk_mul, nI_1]
  rw [e2, putBits_C b w (by omega) (by omega)]
  exact bd_some2
