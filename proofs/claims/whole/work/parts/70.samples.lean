/-! The bits of a plane -/
/-- the context of a place -/
def ctxN (b row ab x : Nat) : Nat := b + 8 * (row * 2 / 2 ^ x % 2) + 4 * (ab * 2 / 2 ^ x % 2) + 2 * (ab / 2 ^ x % 2) + ab / 2 ^ (x + 1) % 2
theorem ctxN_lt {b row ab x : Nat} (hb : b ≤ 16) : ctxN b row ab x < 32 := by unfold ctxN; omega
theorem s_ctx {b row ab x : Nat} (hr : row < 65536) (ha : ab < 65536) (hx : x < 16) : f_SD_contextAt (nI row) (nI ab) (nI x) (nI b) = some (nI (ctxN b row ab x)) := by
  have e1 : nI row <<< ((1 : Int32) &&& 31) = nI (row * 2) := n_shl (i := 1) (by decide) (by omega)
  have e2 : nI ab <<< ((1 : Int32) &&& 31) = nI (ab * 2) := n_shl (i := 1) (by decide) (by omega)
  rw [f_SD_contextAt, e1, e2, nI_1, n_bit (by omega) (by omega), n_bit (by omega) (by omega), n_bit (by omega) (by omega), n_bit (by omega) (by omega)]
  show some (nI b + nI 8 * nI (row * 2 / 2 ^ x % 2) + nI 4 * nI (ab * 2 / 2 ^ x % 2) + nI 2 * nI (ab / 2 ^ x % 2) + nI (ab / 2 ^ (x + 1) % 2)) = _
  rw [pk_mul, pk_mul, pk_mul, nI_add, nI_add, nI_add, nI_add]
  rfl
theorem m_planeAt {mo : Mo} {x y w row : Nat} (hx : x < w) (hw : w ≤ 16) (hy : y < 16) (hr : row < 65536) (hp : Mo_pl mo y = nI row) : f_Model_planeAt mo (nI x) (nI y) (nI w) = some (nI (row / 2 ^ x % 2)) := by
  rw [f_Model_planeAt, if_neg (nI_pos (by omega)), if_neg (nI_pos (by omega)), if_neg (nI_ge hx (by omega)), gd_in hy (by decide), nI_clamp (show y < 2 ^ 31 by omega), hp, n_bit (by omega) (by omega)]
/-- the row above, or none -/
def abOf (mo : Mo) (y ab : Nat) : Prop := (y = 0 ∧ ab = 0) ∨ ∃ y', y = y' + 1 ∧ Mo_pl mo y' = nI ab
theorem m_ctx {mo : Mo} {x y w row ab b : Nat} (hx : x < w) (hw : w ≤ 16) (hy : y < 16) (hr : row < 2 ^ w) (ha : ab < 2 ^ w) (hp : Mo_pl mo y = nI row) (hab : abOf mo y ab) : j_Model_context_11_2 mo (nI x) (nI y) (nI w) (nI b) = some (nI (ctxN b row ab x)) := by
  have hr2 := pow16 hw hr
  have ha2 := pow16 hw ha
  have c1 : f_Model_planeAt mo (nI x - 1) (nI y) (nI w) = some (nI (row * 2 / 2 ^ x % 2)) := by
    cases x with
    | zero =>
      rw [f_Model_planeAt, if_pos (show nI 0 - 1 < 0 by decide), Nat.pow_zero, Nat.div_one, Nat.mul_mod_left]
      rfl
    | succ x =>
      rw [nI_pred, m_planeAt (by omega) hw hy hr2 hp, Nat.pow_succ, Nat.mul_div_mul_right _ _ (by decide)]
  have c2 : f_Model_planeAt mo (nI x - 1) (nI y - 1) (nI w) = some (nI (ab * 2 / 2 ^ x % 2)) := by
    cases x with
    | zero =>
      rw [f_Model_planeAt, if_pos (show nI 0 - 1 < 0 by decide), Nat.pow_zero, Nat.div_one, Nat.mul_mod_left]
      rfl
    | succ x =>
      rw [nI_pred, Nat.pow_succ, Nat.mul_div_mul_right _ _ (by decide)]
      rcases hab with ⟨h1, h2⟩ | ⟨y', h1, h2⟩
      · subst h1; subst h2
        rw [f_Model_planeAt, if_neg (nI_pos (by omega)), if_pos (show nI 0 - 1 < 0 by decide), Nat.zero_div]
        rfl
      · subst h1
        rw [nI_pred, m_planeAt (by omega) hw (by omega) ha2 h2]
  have c3 : f_Model_planeAt mo (nI x) (nI y - 1) (nI w) = some (nI (ab / 2 ^ x % 2)) := by
    rcases hab with ⟨h1, h2⟩ | ⟨y', h1, h2⟩
    · subst h1; subst h2
      rw [f_Model_planeAt, if_neg (nI_pos (by omega)), if_pos (show nI 0 - 1 < 0 by decide), Nat.zero_div]
      rfl
    · subst h1
      rw [nI_pred, m_planeAt hx hw (by omega) ha2 h2]
  have c4 : f_Model_planeAt mo (nI x + 1) (nI y - 1) (nI w) = some (nI (ab / 2 ^ (x + 1) % 2)) := by
    rw [nI_1]
    by_cases e : x + 1 < w
    · rcases hab with ⟨h1, h2⟩ | ⟨y', h1, h2⟩
      · subst h1; subst h2
        rw [f_Model_planeAt, if_neg (nI_pos (by omega)), if_pos (show nI 0 - 1 < 0 by decide), Nat.zero_div]
        rfl
      · subst h1
        rw [nI_pred, m_planeAt e hw (by omega) ha2 h2]
    · rw [bit_hi ha (by omega), f_Model_planeAt, if_neg (nI_pos (by omega)), if_pos (show nI w ≤ nI (x + 1) from nI_le (by omega) (by omega))]
      by_cases e2 : nI y - 1 < 0
      · rw [if_pos e2]; rfl
      · rw [if_neg e2]; rfl
  rw [j_Model_context_11_2, c1, c2, c3, c4, bd_s, bd_s, bd_s, bd_s]
  show some (nI b + nI 8 * nI (row * 2 / 2 ^ x % 2) + nI 4 * nI (ab * 2 / 2 ^ x % 2) + nI 2 * nI (ab / 2 ^ x % 2) + nI (ab / 2 ^ (x + 1) % 2)) = _
  rw [pk_mul, pk_mul, pk_mul, nI_add, nI_add, nI_add, nI_add]
  rfl
/-- sample i of a plane, row by row -/
def smpI (V : Nat → Nat) (w i : Nat) : Nat := V (i / w) / 2 ^ (i % w) % 2
def abI (V : Nat → Nat) (w i : Nat) : Nat := if i / w = 0 then 0 else V (i / w - 1)
def smpT (V : Nat → Nat) (w b : Nat) : Nat → Nat → List (Int32 × Int32)
  | 0, _ => []
  | c + 1, i => (nI (smpI V w i), nI (ctxN b (V (i / w)) (abI V w i) (i % w))) :: smpT V w b c (i + 1)
theorem smpT_add (V : Nat → Nat) (w b c d : Nat) : ∀ i, smpT V w b (c + d) i = smpT V w b c i ++ smpT V w b d (i + c) := by
  induction c with
  | zero => intro i; rw [Nat.zero_add]; rfl
  | succ c ih =>
    intro i
    rw [show c + 1 + d = (c + d) + 1 by omega]
    show _ :: smpT V w b (c + d) (i + 1) = _ :: (smpT V w b c (i + 1) ++ smpT V w b d (i + (c + 1)))
    rw [ih (i + 1), show i + 1 + c = i + (c + 1) by omega]
theorem smpT_ok {V : Nat → Nat} {w b : Nat} (hb : b ≤ 16) (c : Nat) : ∀ i, okT (smpT V w b c i) := by
  induction c with
  | zero => intro i; exact okT_nil
  | succ c ih => intro i; exact okT_cons ⟨(tok_e (x := V (i / w) / 2 ^ (i % w))).1, Or.inr ⟨_, ctxN_lt hb, rfl⟩⟩ (ih (i + 1))
theorem smpT_cst {V : Nat → Nat} {w b : Nat} (hb : b ≤ 16) (c : Nat) : ∀ i, cstL (smpT V w b c i) = 11 * c := by
  induction c with
  | zero => intro i; rfl
  | succ c ih =>
    intro i
    show cst (nI (ctxN b (V (i / w)) (abI V w i) (i % w))) + cstL (smpT V w b c (i + 1)) = _
    have := ctxN_lt (row := V (i / w)) (ab := abI V w i) (x := i % w) hb
    rw [ih (i + 1), cst, if_neg (nI_m1 (by omega))]
    omega
theorem div_at {w y x : Nat} (hx : x < w) : (y * w + x) / w = y ∧ (y * w + x) % w = x := by
  constructor
  · rw [Nat.mul_comm, Nat.mul_add_div (by omega), Nat.div_eq_of_lt hx, Nat.add_zero]
  · rw [Nat.mul_comm, Nat.mul_add_mod, Nat.mod_eq_of_lt hx]
/-- runs of equal samples, the first of colour c, of which l are counted -/
def scT (s : Nat → Nat) : Nat → Nat → Nat → Nat → List (Int32 × Int32)
  | 0, _, _, l => numT l
  | k + 1, i, c, l => if s i = c then scT s k (i + 1) c (l + 1) else numT l ++ scT s k (i + 1) (1 - c) 1
theorem scT_ok (s : Nat → Nat) (k : Nat) : ∀ i c l, okT (scT s k i c l) := by
  induction k with
  | zero => intro i c l; exact numT_ok l
  | succ k ih =>
    intro i c l
    unfold scT
    split
    · exact ih _ _ _
    · exact okT_app (numT_ok l) (ih _ _ _)
theorem scT_cst (s : Nat → Nat) (k : Nat) : ∀ i c l, l + k < 511 → cstL (scT s k i c l) ≤ 4 * (l + k) + 2 * k + 2 := by
  induction k with
  | zero =>
    intro i c l h
    have := (numT_cst (x := l) (by omega)).2
    show cstL (numT l) ≤ _
    omega
  | succ k ih =>
    intro i c l h
    unfold scT
    split
    · have := ih (i + 1) c (l + 1) (by omega)
      omega
    · have h1 := ih (i + 1) (1 - c) 1 (by omega)
      have h2 := (numT_cst (x := l) (by omega)).2
      rw [cstL_app]
      omega
/-- where two colours are all there is -/
theorem scT_turn {s : Nat → Nat} {k i c : Nat} (hs : s i < 2) (hc : c < 2) (h : ¬ s i = c) : scT s (k + 1) i (1 - c) 0 = scT s k (i + 1) (1 - c) 1 := by
  show (if s i = 1 - c then scT s k (i + 1) (1 - c) (0 + 1) else _) = _
  rw [if_pos (by omega)]
theorem Em_pl {mo mo' : Mo} (h : Em mo mo') : Mo_pl mo' = Mo_pl mo ∧ Mo_bs mo' = Mo_bs mo := by
  obtain ⟨_, _, _, _, _, _, rfl⟩ := h
  exact ⟨rfl, rfl⟩
theorem Em_emit_l {K : Mo → Option Mo} (hK : ∀ a b, K a = some b → a = b) : ∀ (m : Nat) (mo mo' : Mo), l_Model_emit_102 K m mo = some mo' → Em mo mo' := by
  intro m
  induction m with
  | zero => intro mo mo' h; cases h
  | succ m ih =>
    intro mo mo' h
    rw [l_Model_emit_102] at h
    obtain ⟨r, -, h⟩ := bd_ex h
    split at h
    · exact hK _ _ h ▸ Em.refl mo
    · obtain ⟨mo1, h1, h⟩ := bd_ex h
      obtain ⟨mo2, h2, h⟩ := bd_ex h
      have e3 := ih mo2 mo' h
      unfold f_Model_outByte at h1
      obtain ⟨-, h1⟩ := gd_ex h1
      cases h1
      unfold f_Model_shift at h2
      cases h2
      exact Em.trans (Em_S mo _ _ _ _) e3
theorem Em_emit {mo mo' : Mo} {b x : Int32} (h : f_Model_emit mo b x = some mo') : Em mo mo' := by
  have hz : ∀ (mo1 : Mo) (z : Int64), j_Model_emit_99_8 mo1 z = some mo' → Em mo1 mo' := by
    intro mo1 z h
    unfold j_Model_emit_99_8 at h
    have := Em_emit_l (K := fun mo_16 => some mo_16) (fun a b e => Option.some.inj e) _ _ _ h
    exact Em.trans (Em_l mo1 z) this
  have hy : ∀ (mo1 : Mo) (r z : Int64), j_Model_emit_80_4 mo1 b r z = some mo' → Em mo1 mo' := by
    intro mo1 r z h
    unfold j_Model_emit_80_4 lt' at h
    split at h
    · exact Em.trans (Em_h mo1 _) (hz _ _ h)
    · exact Em.trans (Em_h mo1 _) (hz _ _ h)
  have hx : ∀ mo1 : Mo, j_Model_emit_23_20 b mo1 = some mo' → Em mo1 mo' := by
    intro mo1 h
    unfold j_Model_emit_23_20 at h
    obtain ⟨-, h⟩ := gd_ex h
    obtain ⟨-, h⟩ := gd_ex h
    cases h
    exact Em_O mo1 _ _
  unfold f_Model_emit at h
  split at h
  · obtain ⟨r, -, h⟩ := bd_ex h
    split at h
    · exact hy _ _ _ h
    · exact hy _ _ _ h
  · split at h
    · obtain ⟨mo1, h1, h⟩ := bd_ex h
      unfold f_Model_outByte at h1
      obtain ⟨-, h1⟩ := gd_ex h1
      cases h1
      exact Em.trans (Em_B mo _ _) (hx _ h)
    · exact hx _ h
theorem Em_mS {mo mo' : Mo} {b c : Int32} (h : mS mo b c = some mo') : Em mo mo' := by
  unfold mS at h
  split at h
  · exact Em_emit h
  · obtain ⟨r, -, h⟩ := bd_ex h
    obtain ⟨mo1, h1, h⟩ := bd_ex h
    exact Em.trans (Em_emit h1) (Em_learn h)
theorem Em_mF : ∀ (ts : List (Int32 × Int32)) (mo mo' : Mo), mF ts mo = some mo' → Em mo mo' := by
  intro ts
  induction ts with
  | nil => intro mo mo' h; cases h; exact Em.refl mo
  | cons t ts ih =>
    intro mo mo' h
    obtain ⟨mo1, h1, h2⟩ := bd_ex h
    exact Em.trans (Em_mS h1) (ih _ _ h2)
/-- the rows of a plane lie in the reference -/
def PlM (mo : Mo) (V : Nat → Nat) (h : Nat) : Prop := ∀ y, y < h → Mo_pl mo y = nI (V y)
theorem i_lt_h {i w h : Nat} (hi : i < w * h) : i / w < h ∧ i % w < w ∧ 0 < w := by
  have hw : 0 < w := by
    cases w with
    | zero => rw [Nat.zero_mul] at hi; omega
    | succ w => omega
  exact ⟨(Nat.div_lt_iff_lt_mul hw).mpr (by rw [Nat.mul_comm]; exact hi), Nat.mod_lt _ hw, hw⟩
theorem abI_lt {V : Nat → Nat} {w h W : Nat} (hV : ∀ y, y < h → V y < 2 ^ W) {i : Nat} (hi : i / w < h) : abI V w i < 2 ^ W := by
  unfold abI
  generalize i / w = q at hi ⊢
  split
  · exact Nat.two_pow_pos W
  · exact hV _ (by omega)
theorem abI_of {mo : Mo} {V : Nat → Nat} {w h i : Nat} (hP : PlM mo V h) (hi : i / w < h) : abOf mo (i / w) (abI V w i) := by
  unfold abI
  generalize i / w = q at hi ⊢
  by_cases e : q = 0
  · rw [if_pos e]; exact Or.inl ⟨e, rfl⟩
  · rw [if_neg e]; exact Or.inr ⟨q - 1, by omega, hP _ (by omega)⟩
theorem m_smp_l {k w h b : Nat} {V : Nat → Nat} {K : Mo → Option Mo} {Bs : Int32} (hk : k < 80) (hw : w ≤ 16) (hh : h ≤ 16) (hV : ∀ y, y < h → V y < 2 ^ w) (hb : (Bs < 0 ∧ b = 0) ∨ (¬ Bs < 0 ∧ b = 16)) : ∀ (m i : Nat) (mo : Mo), PlM mo V h → Mo_bs mo k = Bs → i ≤ w * h → w * h - i < m → l_Model_writePlane_185 (nI k) (nI w) (nI (w * h)) K m mo (nI i) = bd (mF (smpT V w b (w * h - i) i) mo) K := by
  have hwh : w * h ≤ 256 := Nat.mul_le_mul hw hh
  intro m
  induction m with
  | zero => intro i mo _ _ _ h; omega
  | succ m ih =>
    intro i mo hP hB h1 h2
    rw [l_Model_writePlane_185]
    by_cases e : i = w * h
    · rw [e, if_pos (nI_le (Nat.le_refl _) (by omega)), Nat.sub_self]
      rfl
    · obtain ⟨q1, q2, q3⟩ := i_lt_h (show i < w * h by omega)
      have hrow := hV _ q1
      have hrow2 := pow16 hw hrow
      have hp := hP _ q1
      have hd : decide (¬ nI w = 0) = true := decide_eq_true (nI_ne0 q3 (by omega))
      rw [if_neg (nI_ge (by omega) (by omega)), gd_t hd, gd_t hd, pk_rem (by omega) q3 (by omega), pk_div (by omega) q3 (by omega), m_planeAt q2 hw (by omega) hrow2 hp, bd_s, gd_t hd, gd_t hd, gd_in hk (by decide), nI_clamp (show k < 2 ^ 31 by omega), hB]
      have hctx := m_ctx (mo := mo) (b := b) q2 hw (show i / w < 16 by omega) hrow (abI_lt hV q1) hp (abI_of hP q1)
      have key : ∀ z : Int32, f_Model_context mo (nI (i % w)) (nI (i / w)) (nI w) z = some (nI (ctxN b (V (i / w)) (abI V w i) (i % w))) → j_Model_writePlane_230_34 mo (nI w) (nI i) (l_Model_writePlane_185 (nI k) (nI w) (nI (w * h)) K m) (nI (smpI V w i)) z = bd (mF (smpT V w b (w * h - i) i) mo) K := by
        intro z hz
        have hlt := ctxN_lt (row := V (i / w)) (ab := abI V w i) (x := i % w) (show b ≤ 16 by omega)
        rw [j_Model_writePlane_230_34, pk_rem (by omega) q3 (by omega), pk_div (by omega) q3 (by omega), hz, bd_s, show w * h - i = (w * h - (i + 1)) + 1 by omega]
        show _ = bd (bd (mS mo (nI (smpI V w i)) (nI (ctxN b (V (i / w)) (abI V w i) (i % w)))) (fun mo1 => mF (smpT V w b (w * h - (i + 1)) (i + 1)) mo1)) K
        rw [bd_bd]
        cases hS : mS mo (nI (smpI V w i)) (nI (ctxN b (V (i / w)) (abI V w i) (i % w))) with
        | none =>
          rw [mS, if_neg (nI_m1 (by omega))] at hS
          show bd _ _ = none
          cases h3 : f_Model_chanceOf mo (nI (ctxN b (V (i / w)) (abI V w i) (i % w))) with
          | none => rfl
          | some ch =>
            rw [h3, bd_s] at hS
            rw [bd_s]
            cases h4 : f_Model_emit mo (nI (smpI V w i)) ch with
            | none => rfl
            | some mo1 =>
              rw [h4, bd_s] at hS
              rw [bd_s, hS]
              rfl
        | some mo1 =>
          have hE := Em_pl (Em_mS hS)
          rw [mS, if_neg (nI_m1 (by omega))] at hS
          obtain ⟨ch, h3, hS⟩ := bd_ex hS
          obtain ⟨mo2, h4, hS⟩ := bd_ex hS
          rw [h3, bd_s, h4, bd_s, hS, bd_s]
          show l_Model_writePlane_185 (nI k) (nI w) (nI (w * h)) K m mo1 (nI i + 1) = bd (mF (smpT V w b (w * h - (i + 1)) (i + 1)) mo1) K
          rw [nI_1]
          exact ih (i + 1) mo1 (fun y hy => by rw [hE.1]; exact hP y hy) (by rw [hE.2]; exact hB) (by omega) (by omega)
      rcases hb with ⟨b1, b2⟩ | ⟨b1, b2⟩
      · rw [if_pos b1]
        subst b2
        exact key 0 (by rw [f_Model_context, if_pos rfl]; exact hctx)
      · rw [if_neg b1]
        subst b2
        exact key 1 (by rw [f_Model_context, if_neg i10]; exact hctx)
theorem smpI_lt (V : Nat → Nat) (w i : Nat) : smpI V w i < 2 := Nat.mod_lt _ (by decide)
theorem m_one_minus {c : Nat} (hc : c < 2) : (1 : Int32) - nI c = nI (1 - c) := pk_sub (a := 1) (by omega)
theorem m_run_l {w h : Nat} {V : Nat → Nat} {K : Mo → Option Mo} (hw : w ≤ 16) (hh : h ≤ 16) (hV : ∀ y, y < h → V y < 2 ^ w) : ∀ (m a c : Nat) (mo : Mo), PlM mo V h → c < 2 → a ≤ w * h → (w * h - a) + 2 ≤ m ∨ ((w * h - a) + 1 ≤ m ∧ (smpI V w a = c ∨ a = w * h)) → l_Model_writePlane_111 (nI w) (nI (w * h)) K m mo (nI c) (nI a) = if a = w * h then K mo else bd (mF (scT (smpI V w) (w * h - a) a c 0) mo) K := by
  have hwh : w * h ≤ 256 := Nat.mul_le_mul hw hh
  intro m
  induction m with
  | zero => intro a c mo _ _ _ h; omega
  | succ m ih =>
    intro a c mo hP hc h1 h2
    rw [l_Model_writePlane_111]
    by_cases e : a = w * h
    · rw [if_pos e, e, if_pos (nI_le (Nat.le_refl _) (by omega))]
    · rw [if_neg e, if_neg (nI_ge (by omega) (by omega))]
      have inner : ∀ (m2 l : Nat), a + l ≤ w * h → w * h - (a + l) < m2 → ((w * h - a) + 1 ≤ m ∨ ((w * h - a) ≤ m ∧ (0 < l ∨ smpI V w a = c))) → l_Model_writePlane_120 mo (nI w) (nI (w * h)) (nI c) (nI a) (fun x6_51 => bd (f_Model_emitNumber mo x6_51) <| fun mo_52 => lt' (nI a + x6_51) <| fun x5_53 => lt' (1 - nI c) <| fun x4_54 => (l_Model_writePlane_111 (nI w) (nI (w * h)) K m) mo_52 x4_54 x5_53) m2 (nI l) = bd (mF (scT (smpI V w) (w * h - (a + l)) (a + l) c l) mo) K := by
        intro m2
        induction m2 with
        | zero => intro l _ h _; omega
        | succ m2 ih2 =>
          intro l g1 g2 g3
          have hend : ∀ (ts : List (Int32 × Int32)) (Y : Int32), Y = nI (a + l) → (∀ mo1 : Mo, PlM mo1 V h → l_Model_writePlane_111 (nI w) (nI (w * h)) K m mo1 (nI (1 - c)) (nI (a + l)) = bd (mF ts mo1) K) → bd (f_Model_emitNumber mo (nI l)) (fun mo_52 => lt' Y <| fun x5_53 => lt' (1 - nI c) <| fun x4_54 => (l_Model_writePlane_111 (nI w) (nI (w * h)) K m) mo_52 x4_54 x5_53) = bd (mF (numT l ++ ts) mo) K := by
            intro ts Y hY hts
            rw [m_emitNumber mo (show l < 511 by omega), mF_app, bd_bd]
            cases h3 : mF (numT l) mo with
            | none => rfl
            | some mo1 =>
              have hE := Em_pl (Em_mF _ _ _ h3)
              show l_Model_writePlane_111 (nI w) (nI (w * h)) K m mo1 (1 - nI c) Y = _
              rw [m_one_minus hc, hY]
              exact hts mo1 (fun y hy => by rw [hE.1]; exact hP y hy)
          rw [l_Model_writePlane_120, nI_add]
          by_cases e2 : a + l = w * h
          · rw [e2, if_pos (nI_le (Nat.le_refl _) (by omega)), Nat.sub_self]
            have := hend [] (nI (w * h)) (by rw [e2]) (fun mo1 hP1 => by
              rw [e2, ih (w * h) (1 - c) mo1 hP1 (by omega) (Nat.le_refl _) (Or.inr ⟨by omega, Or.inr rfl⟩), if_pos rfl]
              rfl)
            rw [List.append_nil] at this
            exact this
          · obtain ⟨q1, q2, q3⟩ := i_lt_h (show a + l < w * h by omega)
            have hrow2 := pow16 hw (hV _ q1)
            have hd : decide (¬ nI w = 0) = true := decide_eq_true (nI_ne0 q3 (by omega))
            have hs2 := smpI_lt V w (a + l)
            rw [if_neg (nI_ge (by omega) (by omega)), gd_t hd, gd_t hd, pk_rem (by omega) q3 (by omega), pk_div (by omega) q3 (by omega), m_planeAt q2 hw (by omega) hrow2 (hP _ q1), bd_s, show w * h - (a + l) = (w * h - (a + l + 1)) + 1 by omega]
            show (if nI (smpI V w (a + l)) = nI c then _ else _) = bd (mF (if smpI V w (a + l) = c then scT (smpI V w) (w * h - (a + l + 1)) (a + l + 1) c (l + 1) else numT l ++ scT (smpI V w) (w * h - (a + l + 1)) (a + l + 1) (1 - c) 1) mo) K
            by_cases e3 : smpI V w (a + l) = c
            · rw [if_pos e3, if_pos (congrArg nI e3)]
              have := ih2 (l + 1) (by omega) (by omega) (by omega)
              rw [← nI_1 l] at this
              exact this
            · rw [if_neg e3, if_neg (fun z => e3 ((nI_eq (by omega) (by omega)).mp z))]
              refine hend _ _ rfl (fun mo1 hP1 => ?_)
              have g4 : smpI V w (a + l) = 1 - c := by omega
              have g5 : (w * h - (a + l)) + 1 ≤ m := by
                by_cases e4 : l = 0
                · subst e4
                  rcases g3 with g | ⟨g, g' | g'⟩
                  · omega
                  · omega
                  · exact absurd g' e3
                · omega
              rw [ih (a + l) (1 - c) mo1 hP1 (by omega) (by omega) (Or.inr ⟨g5, Or.inl g4⟩), if_neg e2, show w * h - (a + l) = (w * h - (a + l + 1)) + 1 by omega, scT_turn hs2 hc e3]
      have := inner 100000 0 (by omega) (by omega) (by omega)
      rw [Nat.add_zero] at this
      exact this
theorem s_smp_x_P {wr : Wr} {sy : Sy} {k wk y bs : Nat} {V : Nat → Nat} {K : Pb → Br → Option (Pb × Br)} {ab : Nat} (hk : k < 40) (hw : wk ≤ 16) (hwd : Sy_wd sy k = nI wk) (hy : y < 16) (hV : V y < 2 ^ wk) (hab : ab < 2 ^ wk) (hab2 : ab = if y = 0 then 0 else V (y - 1)) (hp : Wr_pl wr y = nI (V y)) : ∀ (m x : Nat) (b : Pb) (w : Br), x ≤ wk → wk - x < m → l_P_Writer_tellSamples_37 wr sy (nI k) (nI bs) (nI ab) (nI y) K m b w (nI x) = bd (cF_P (smpT V wk bs (wk - x) (y * wk + x)) b w) (fun (b1, w1) => K b1 w1) := by
  have ck : (nI k).toNatClampNeg = k := nI_clamp (by omega)
  have hr2 := pow16 hw hV
  have ha2 := pow16 hw hab
  intro m
  induction m with
  | zero => intro x b w _ h; omega
  | succ m ih =>
    intro x b w h1 h2
    rw [l_P_Writer_tellSamples_37, gd_in hk (by decide), ck, hwd]
    by_cases e : x = wk
    · subst e
      rw [if_pos (nI_le (Nat.le_refl x) (by omega)), Nat.sub_self]
      rfl
    · obtain ⟨d1, d2⟩ := div_at (w := wk) (y := y) (show x < wk by omega)
      rw [if_neg (nI_ge (by omega) (by omega)), gd_in hy (by decide), gd_in hy (by decide), nI_clamp (show y < 2 ^ 31 by omega), hp, s_ctx hr2 ha2 (by omega), bd_s, n_bit (by omega) (by omega), show wk - x = (wk - (x + 1)) + 1 by omega]
      show _ = bd (bd (f_P_PlainBits_putBit b w (nI (smpI V wk (y * wk + x))) (nI (ctxN bs (V ((y * wk + x) / wk)) (abI V wk (y * wk + x)) ((y * wk + x) % wk)))) (fun (b1, w1) => cF_P (smpT V wk bs (wk - (x + 1)) (y * wk + x + 1)) b1 w1)) _
      rw [bd_bd, smpI, abI, d1, d2, ← hab2]
      cases h3 : f_P_PlainBits_putBit b w (nI (V y / 2 ^ x % 2)) (nI (ctxN bs (V y) ab x)) with
      | none => rfl
      | some r =>
        show l_P_Writer_tellSamples_37 wr sy (nI k) (nI bs) (nI ab) (nI y) K m r.1 r.2 (nI x + 1) = bd (cF_P (smpT V wk bs (wk - (x + 1)) (y * wk + x + 1)) r.1 r.2) _
        rw [nI_1]
        exact ih (x + 1) r.1 r.2 (by omega) (by omega)
theorem s_smp_y_P {wr : Wr} {sy : Sy} {k wk h bs : Nat} {V : Nat → Nat} {K : Pb → Br → Option (Pb × Br)} (hk : k < 40) (hw : wk ≤ 16) (hh : h ≤ 16) (hwd : Sy_wd sy k = nI wk) (hht : Sy_ht sy k = nI h) (hV : ∀ y, y < h → V y < 2 ^ wk ∧ Wr_pl wr y = nI (V y)) : ∀ (m y ab : Nat) (b : Pb) (w : Br), ab = (if y = 0 then 0 else V (y - 1)) → y ≤ h → h - y < m → l_P_Writer_tellSamples_23 wr sy (nI k) (nI bs) K m b w (nI ab) (nI y) = bd (cF_P (smpT V wk bs (wk * (h - y)) (y * wk)) b w) (fun (b1, w1) => K b1 w1) := by
  have ck : (nI k).toNatClampNeg = k := nI_clamp (by omega)
  intro m
  induction m with
  | zero => intro y ab b w _ _ h; omega
  | succ m ih =>
    intro y ab b w hab h1 h2
    rw [l_P_Writer_tellSamples_23, gd_in hk (by decide), ck, hht]
    by_cases e : y = h
    · subst e
      rw [if_pos (nI_le (Nat.le_refl y) (by omega)), Nat.sub_self, Nat.mul_zero]
      rfl
    · have hab9 : ab < 2 ^ wk := by
        rw [hab]
        split
        · exact Nat.two_pow_pos wk
        · exact (hV _ (by omega)).1
      obtain ⟨v1, v2⟩ := hV y (by omega)
      rw [if_neg (nI_ge (by omega) (by omega))]
      refine Eq.trans (s_smp_x_P (K := fun b1 w1 => gd (inb (nI y) 16) <| lt' (Wr_pl wr (nI y).toNatClampNeg) <| fun x4_22 => lt' (nI y + 1) <| fun x5_23 => (l_P_Writer_tellSamples_23 wr sy (nI k) (nI bs) K m) b1 w1 x4_22 x5_23) hk hw hwd (by omega) v1 hab9 hab v2 100000 0 b w (Nat.zero_le _) (by omega)) ?_
      rw [show wk * (h - y) = wk + wk * (h - (y + 1)) by rw [show h - y = (h - (y + 1)) + 1 by omega, Nat.mul_succ]; omega, smpT_add, cF_app_P, bd_bd, Nat.sub_zero, Nat.add_zero]
      cases h3 : cF_P (smpT V wk bs wk (y * wk)) b w with
      | none => rfl
      | some r =>
        show gd (inb (nI y) 16) (l_P_Writer_tellSamples_23 wr sy (nI k) (nI bs) K m r.1 r.2 (Wr_pl wr (nI y).toNatClampNeg) (nI y + 1)) = bd (cF_P (smpT V wk bs (wk * (h - (y + 1))) (y * wk + wk)) r.1 r.2) _
        rw [gd_in (show y < 16 by omega) (by decide), nI_clamp (show y < 2 ^ 31 by omega), v2, nI_1, show y * wk + wk = (y + 1) * wk by rw [Nat.succ_mul]]
        exact ih (y + 1) (V y) r.1 r.2 (by rw [if_neg (by omega)]; rfl) (by omega) (by omega)
theorem s_run_x_P {wr : Wr} {sy : Sy} {k wk y N : Nat} {V : Nat → Nat} {K : Pb → Br → Int32 → Int32 → Option (Pb × Br)} {Kf : Pb × Br → Option (Pb × Br)} (hk : k < 40) (hw : wk ≤ 16) (hwd : Sy_wd sy k = nI wk) (hy : y < 16) (hV : V y < 2 ^ wk) (hp : Wr_pl wr y = nI (V y)) (hN : (y + 1) * wk ≤ N) (hN2 : N ≤ 256) (hK : ∀ b w c l, c < 2 → l ≤ (y + 1) * wk → K b w (nI c) (nI l) = bd (cF_P (scT (smpI V wk) (N - (y + 1) * wk) ((y + 1) * wk) c l) b w) Kf) : ∀ (m x c l : Nat) (b : Pb) (w : Br), c < 2 → l ≤ y * wk + x → x ≤ wk → wk - x < m → l_P_Writer_tellRuns_22 wr sy (nI k) (nI y) K m b w (nI c) (nI l) (nI x) = bd (cF_P (scT (smpI V wk) (N - (y * wk + x)) (y * wk + x) c l) b w) Kf := by
  have ck : (nI k).toNatClampNeg = k := nI_clamp (by omega)
  have hr2 := pow16 hw hV
  have hyw : (y + 1) * wk = y * wk + wk := Nat.succ_mul y wk
  intro m
  induction m with
  | zero => intro x c l b w _ _ _ h; omega
  | succ m ih =>
    intro x c l b w hc hl h1 h2
    rw [l_P_Writer_tellRuns_22, gd_in hk (by decide), ck, hwd]
    by_cases e : x = wk
    · subst e
      rw [if_pos (nI_le (Nat.le_refl x) (by omega)), hK b w c l hc (by omega), hyw]
    · obtain ⟨d1, d2⟩ := div_at (w := wk) (y := y) (show x < wk by omega)
      have hs : smpI V wk (y * wk + x) = V y / 2 ^ x % 2 := by unfold smpI; rw [d1, d2]
      have hs2 := smpI_lt V wk (y * wk + x)
      rw [if_neg (nI_ge (by omega) (by omega)), gd_in hy (by decide), nI_clamp (show y < 2 ^ 31 by omega), hp, n_bit (by omega) (by omega), ← hs, show N - (y * wk + x) = (N - (y * wk + (x + 1))) + 1 by omega]
      show (if nI (smpI V wk (y * wk + x)) = nI c then _ else _) = bd (cF_P (if smpI V wk (y * wk + x) = c then scT (smpI V wk) (N - (y * wk + (x + 1))) (y * wk + x + 1) c (l + 1) else numT l ++ scT (smpI V wk) (N - (y * wk + (x + 1))) (y * wk + x + 1) (1 - c) 1) b w) Kf
      by_cases e3 : smpI V wk (y * wk + x) = c
      · rw [if_pos e3, if_pos (congrArg nI e3)]
        have := ih (x + 1) c (l + 1) b w hc (by omega) (by omega) (by omega)
        rw [← nI_1 l, ← nI_1 x] at this
        exact this
      · rw [if_neg e3, if_neg (fun z => e3 ((nI_eq (by omega) (by omega)).mp z)), putNumber_P b w (show l < 511 by omega), cF_app_P, bd_bd]
        cases h3 : cF_P (numT l) b w with
        | none => rfl
        | some r =>
          have := ih (x + 1) (1 - c) 1 r.1 r.2 (by omega) (by omega) (by omega) (by omega)
          rw [← nI_1 x, ← m_one_minus hc] at this
          exact this
theorem s_run_y_P {wr : Wr} {sy : Sy} {k wk h : Nat} {V : Nat → Nat} (hk : k < 40) (hw : wk ≤ 16) (hh : h ≤ 16) (hwd : Sy_wd sy k = nI wk) (hht : Sy_ht sy k = nI h) (hV : ∀ y, y < h → V y < 2 ^ wk ∧ Wr_pl wr y = nI (V y)) : ∀ (m y c l : Nat) (b : Pb) (w : Br), c < 2 → l ≤ y * wk → y ≤ h → h - y < m → l_P_Writer_tellRuns_8 wr sy (nI k) (fun b1 w1 x4 => bd (f_P_Bits_putNumber b1 w1 x4) <| fun (b2, w2) => some (b2, w2)) m b w (nI c) (nI l) (nI y) = cF_P (scT (smpI V wk) (h * wk - y * wk) (y * wk) c l) b w := by
  have ck : (nI k).toNatClampNeg = k := nI_clamp (by omega)
  have hwh : h * wk ≤ 256 := Nat.mul_le_mul hh hw
  intro m
  induction m with
  | zero => intro y c l b w _ _ _ h; omega
  | succ m ih =>
    intro y c l b w hc hl h1 h2
    rw [l_P_Writer_tellRuns_8, gd_in hk (by decide), ck, hht]
    by_cases e : y = h
    · subst e
      rw [if_pos (nI_le (Nat.le_refl y) (by omega)), Nat.sub_self, putNumber_P b w (show l < 511 by omega)]
      exact bd_some2
    · obtain ⟨v1, v2⟩ := hV y (by omega)
      have hy2 : (y + 1) * wk ≤ h * wk := Nat.mul_le_mul_right wk (by omega)
      rw [if_neg (nI_ge (by omega) (by omega))]
      refine Eq.trans (s_run_x_P (Kf := fun r => some r) (N := h * wk) (V := V) hk hw hwd (by omega) v1 v2 hy2 hwh (fun b1 w1 c1 l1 hc1 hl1 => ?_) 100000 0 c l b w hc (by omega) (Nat.zero_le _) (by omega)) ?_
      · show l_P_Writer_tellRuns_8 wr sy (nI k) _ m b1 w1 (nI c1) (nI l1) (nI y + 1) = _
        rw [nI_1]
        exact (ih (y + 1) c1 l1 b1 w1 hc1 hl1 (by omega) (by omega)).trans bd_some1.symm
      · exact bd_some1
theorem s_smp_x_C {wr : Wr} {sy : Sy} {k wk y bs : Nat} {V : Nat → Nat} {K : Cb → Br → Option (Cb × Br)} {ab : Nat} (hk : k < 40) (hw : wk ≤ 16) (hwd : Sy_wd sy k = nI wk) (hy : y < 16) (hV : V y < 2 ^ wk) (hab : ab < 2 ^ wk) (hab2 : ab = if y = 0 then 0 else V (y - 1)) (hp : Wr_pl wr y = nI (V y)) : ∀ (m x : Nat) (b : Cb) (w : Br), x ≤ wk → wk - x < m → l_C_Writer_tellSamples_37 wr sy (nI k) (nI bs) (nI ab) (nI y) K m b w (nI x) = bd (cF_C (smpT V wk bs (wk - x) (y * wk + x)) b w) (fun (b1, w1) => K b1 w1) := by
  have ck : (nI k).toNatClampNeg = k := nI_clamp (by omega)
  have hr2 := pow16 hw hV
  have ha2 := pow16 hw hab
  intro m
  induction m with
  | zero => intro x b w _ h; omega
  | succ m ih =>
    intro x b w h1 h2
    rw [l_C_Writer_tellSamples_37, gd_in hk (by decide), ck, hwd]
    by_cases e : x = wk
    · subst e
      rw [if_pos (nI_le (Nat.le_refl x) (by omega)), Nat.sub_self]
      rfl
    · obtain ⟨d1, d2⟩ := div_at (w := wk) (y := y) (show x < wk by omega)
      rw [if_neg (nI_ge (by omega) (by omega)), gd_in hy (by decide), gd_in hy (by decide), nI_clamp (show y < 2 ^ 31 by omega), hp, s_ctx hr2 ha2 (by omega), bd_s, n_bit (by omega) (by omega), show wk - x = (wk - (x + 1)) + 1 by omega]
      show _ = bd (bd (f_C_ChanceBits_putBit b w (nI (smpI V wk (y * wk + x))) (nI (ctxN bs (V ((y * wk + x) / wk)) (abI V wk (y * wk + x)) ((y * wk + x) % wk)))) (fun (b1, w1) => cF_C (smpT V wk bs (wk - (x + 1)) (y * wk + x + 1)) b1 w1)) _
      rw [bd_bd, smpI, abI, d1, d2, ← hab2]
      cases h3 : f_C_ChanceBits_putBit b w (nI (V y / 2 ^ x % 2)) (nI (ctxN bs (V y) ab x)) with
      | none => rfl
      | some r =>
        show l_C_Writer_tellSamples_37 wr sy (nI k) (nI bs) (nI ab) (nI y) K m r.1 r.2 (nI x + 1) = bd (cF_C (smpT V wk bs (wk - (x + 1)) (y * wk + x + 1)) r.1 r.2) _
        rw [nI_1]
        exact ih (x + 1) r.1 r.2 (by omega) (by omega)
theorem s_smp_y_C {wr : Wr} {sy : Sy} {k wk h bs : Nat} {V : Nat → Nat} {K : Cb → Br → Option (Cb × Br)} (hk : k < 40) (hw : wk ≤ 16) (hh : h ≤ 16) (hwd : Sy_wd sy k = nI wk) (hht : Sy_ht sy k = nI h) (hV : ∀ y, y < h → V y < 2 ^ wk ∧ Wr_pl wr y = nI (V y)) : ∀ (m y ab : Nat) (b : Cb) (w : Br), ab = (if y = 0 then 0 else V (y - 1)) → y ≤ h → h - y < m → l_C_Writer_tellSamples_23 wr sy (nI k) (nI bs) K m b w (nI ab) (nI y) = bd (cF_C (smpT V wk bs (wk * (h - y)) (y * wk)) b w) (fun (b1, w1) => K b1 w1) := by
  have ck : (nI k).toNatClampNeg = k := nI_clamp (by omega)
  intro m
  induction m with
  | zero => intro y ab b w _ _ h; omega
  | succ m ih =>
    intro y ab b w hab h1 h2
    rw [l_C_Writer_tellSamples_23, gd_in hk (by decide), ck, hht]
    by_cases e : y = h
    · subst e
      rw [if_pos (nI_le (Nat.le_refl y) (by omega)), Nat.sub_self, Nat.mul_zero]
      rfl
    · have hab9 : ab < 2 ^ wk := by
        rw [hab]
        split
        · exact Nat.two_pow_pos wk
        · exact (hV _ (by omega)).1
      obtain ⟨v1, v2⟩ := hV y (by omega)
      rw [if_neg (nI_ge (by omega) (by omega))]
      refine Eq.trans (s_smp_x_C (K := fun b1 w1 => gd (inb (nI y) 16) <| lt' (Wr_pl wr (nI y).toNatClampNeg) <| fun x4_22 => lt' (nI y + 1) <| fun x5_23 => (l_C_Writer_tellSamples_23 wr sy (nI k) (nI bs) K m) b1 w1 x4_22 x5_23) hk hw hwd (by omega) v1 hab9 hab v2 100000 0 b w (Nat.zero_le _) (by omega)) ?_
      rw [show wk * (h - y) = wk + wk * (h - (y + 1)) by rw [show h - y = (h - (y + 1)) + 1 by omega, Nat.mul_succ]; omega, smpT_add, cF_app_C, bd_bd, Nat.sub_zero, Nat.add_zero]
      cases h3 : cF_C (smpT V wk bs wk (y * wk)) b w with
      | none => rfl
      | some r =>
        show gd (inb (nI y) 16) (l_C_Writer_tellSamples_23 wr sy (nI k) (nI bs) K m r.1 r.2 (Wr_pl wr (nI y).toNatClampNeg) (nI y + 1)) = bd (cF_C (smpT V wk bs (wk * (h - (y + 1))) (y * wk + wk)) r.1 r.2) _
        rw [gd_in (show y < 16 by omega) (by decide), nI_clamp (show y < 2 ^ 31 by omega), v2, nI_1, show y * wk + wk = (y + 1) * wk by rw [Nat.succ_mul]]
        exact ih (y + 1) (V y) r.1 r.2 (by rw [if_neg (by omega)]; rfl) (by omega) (by omega)
theorem s_run_x_C {wr : Wr} {sy : Sy} {k wk y N : Nat} {V : Nat → Nat} {K : Cb → Br → Int32 → Int32 → Option (Cb × Br)} {Kf : Cb × Br → Option (Cb × Br)} (hk : k < 40) (hw : wk ≤ 16) (hwd : Sy_wd sy k = nI wk) (hy : y < 16) (hV : V y < 2 ^ wk) (hp : Wr_pl wr y = nI (V y)) (hN : (y + 1) * wk ≤ N) (hN2 : N ≤ 256) (hK : ∀ b w c l, c < 2 → l ≤ (y + 1) * wk → K b w (nI c) (nI l) = bd (cF_C (scT (smpI V wk) (N - (y + 1) * wk) ((y + 1) * wk) c l) b w) Kf) : ∀ (m x c l : Nat) (b : Cb) (w : Br), c < 2 → l ≤ y * wk + x → x ≤ wk → wk - x < m → l_C_Writer_tellRuns_22 wr sy (nI k) (nI y) K m b w (nI c) (nI l) (nI x) = bd (cF_C (scT (smpI V wk) (N - (y * wk + x)) (y * wk + x) c l) b w) Kf := by
  have ck : (nI k).toNatClampNeg = k := nI_clamp (by omega)
  have hr2 := pow16 hw hV
  have hyw : (y + 1) * wk = y * wk + wk := Nat.succ_mul y wk
  intro m
  induction m with
  | zero => intro x c l b w _ _ _ h; omega
  | succ m ih =>
    intro x c l b w hc hl h1 h2
    rw [l_C_Writer_tellRuns_22, gd_in hk (by decide), ck, hwd]
    by_cases e : x = wk
    · subst e
      rw [if_pos (nI_le (Nat.le_refl x) (by omega)), hK b w c l hc (by omega), hyw]
    · obtain ⟨d1, d2⟩ := div_at (w := wk) (y := y) (show x < wk by omega)
      have hs : smpI V wk (y * wk + x) = V y / 2 ^ x % 2 := by unfold smpI; rw [d1, d2]
      have hs2 := smpI_lt V wk (y * wk + x)
      rw [if_neg (nI_ge (by omega) (by omega)), gd_in hy (by decide), nI_clamp (show y < 2 ^ 31 by omega), hp, n_bit (by omega) (by omega), ← hs, show N - (y * wk + x) = (N - (y * wk + (x + 1))) + 1 by omega]
      show (if nI (smpI V wk (y * wk + x)) = nI c then _ else _) = bd (cF_C (if smpI V wk (y * wk + x) = c then scT (smpI V wk) (N - (y * wk + (x + 1))) (y * wk + x + 1) c (l + 1) else numT l ++ scT (smpI V wk) (N - (y * wk + (x + 1))) (y * wk + x + 1) (1 - c) 1) b w) Kf
      by_cases e3 : smpI V wk (y * wk + x) = c
      · rw [if_pos e3, if_pos (congrArg nI e3)]
        have := ih (x + 1) c (l + 1) b w hc (by omega) (by omega) (by omega)
        rw [← nI_1 l, ← nI_1 x] at this
        exact this
      · rw [if_neg e3, if_neg (fun z => e3 ((nI_eq (by omega) (by omega)).mp z)), putNumber_C b w (show l < 511 by omega), cF_app_C, bd_bd]
        cases h3 : cF_C (numT l) b w with
        | none => rfl
        | some r =>
          have := ih (x + 1) (1 - c) 1 r.1 r.2 (by omega) (by omega) (by omega) (by omega)
          rw [← nI_1 x, ← m_one_minus hc] at this
          exact this
theorem s_run_y_C {wr : Wr} {sy : Sy} {k wk h : Nat} {V : Nat → Nat} (hk : k < 40) (hw : wk ≤ 16) (hh : h ≤ 16) (hwd : Sy_wd sy k = nI wk) (hht : Sy_ht sy k = nI h) (hV : ∀ y, y < h → V y < 2 ^ wk ∧ Wr_pl wr y = nI (V y)) : ∀ (m y c l : Nat) (b : Cb) (w : Br), c < 2 → l ≤ y * wk → y ≤ h → h - y < m → l_C_Writer_tellRuns_8 wr sy (nI k) (fun b1 w1 x4 => bd (f_C_Bits_putNumber b1 w1 x4) <| fun (b2, w2) => some (b2, w2)) m b w (nI c) (nI l) (nI y) = cF_C (scT (smpI V wk) (h * wk - y * wk) (y * wk) c l) b w := by
  have ck : (nI k).toNatClampNeg = k := nI_clamp (by omega)
  have hwh : h * wk ≤ 256 := Nat.mul_le_mul hh hw
  intro m
  induction m with
  | zero => intro y c l b w _ _ _ h; omega
  | succ m ih =>
    intro y c l b w hc hl h1 h2
    rw [l_C_Writer_tellRuns_8, gd_in hk (by decide), ck, hht]
    by_cases e : y = h
    · subst e
      rw [if_pos (nI_le (Nat.le_refl y) (by omega)), Nat.sub_self, putNumber_C b w (show l < 511 by omega)]
      exact bd_some2
    · obtain ⟨v1, v2⟩ := hV y (by omega)
      have hy2 : (y + 1) * wk ≤ h * wk := Nat.mul_le_mul_right wk (by omega)
      rw [if_neg (nI_ge (by omega) (by omega))]
      refine Eq.trans (s_run_x_C (Kf := fun r => some r) (N := h * wk) (V := V) hk hw hwd (by omega) v1 v2 hy2 hwh (fun b1 w1 c1 l1 hc1 hl1 => ?_) 100000 0 c l b w hc (by omega) (Nat.zero_le _) (by omega)) ?_
      · show l_C_Writer_tellRuns_8 wr sy (nI k) _ m b1 w1 (nI c1) (nI l1) (nI y + 1) = _
        rw [nI_1]
        exact (ih (y + 1) c1 l1 b1 w1 hc1 hl1 (by omega) (by omega)).trans bd_some1.symm
      · exact bd_some1
