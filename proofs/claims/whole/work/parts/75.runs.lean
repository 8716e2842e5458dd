/-! Reading planes by runs -/
theorem two_pow_bit {x z : Nat} (h : x ≠ z) : 2 ^ x / 2 ^ z % 2 = 0 := by
  rw [← Nat.toNat_testBit, Nat.testBit_two_pow]
  simp [h]
theorem or_xor {p x : Nat} (h : p / 2 ^ x % 2 = 0) : p ||| 2 ^ x = p ^^^ 2 ^ x := by
  apply Nat.eq_of_testBit_eq
  intro i
  rw [Nat.testBit_or, Nat.testBit_xor, Nat.testBit_two_pow]
  by_cases e : x = i
  · subst e
    have hb : p.testBit x = false := by
      have := Nat.toNat_testBit p x
      rw [h] at this
      cases hc : p.testBit x with
      | false => rfl
      | true => rw [hc] at this; cases this
    rw [hb]
    simp
  · simp [e]
/-- no sample from i on is black -/
def Zr (P : Nat → Nat) (w h i : Nat) : Prop := ∀ j, i ≤ j → j < w * h → P (j / w) / 2 ^ (j % w) % 2 = 0
/-- the plane so far, on both sides -/
def Pq (P F : Nat → Nat) (k w h i : Nat) (sy : Sy) (mo : Mo) : Prop := (∀ y, y < h → P y < 2 ^ w ∧ Sy_rw sy (16 * k + y) = nI (F y ^^^ P y) ∧ Mo_pl mo y = nI (P y)) ∧ Zr P w h i
theorem one_shl {x : Nat} (hx : x < 16) : (1 : Int32) <<< (nI x &&& 31) = nI (2 ^ x) := by
  have hp : 2 ^ x < 2 ^ 16 := Nat.pow_lt_pow_right (by decide) hx
  have := n_shl (x := 1) (i := x) (by omega) (by omega)
  rw [Nat.one_mul] at this
  exact this
theorem run1_l {rd : Rd} {k w h at_ l : Nat} {x1 x2 x4 : Int32} {F : Nat → Nat} {K1 : Sy → Option Sy} {K2 : Mo → Option Mo} (hk : k < 40) (hw1 : 1 ≤ w) (hw : w ≤ 16) (hh : h ≤ 16) (hRw : Rd_w rd = nI w) (he : at_ + l ≤ w * h) : ∀ (d i f1 f2 : Nat) (sy : Sy) (mo : Mo) (P : Nat → Nat), i + d = at_ + l → d < f1 → d < f2 → Pq P F k w h i sy mo → ∃ (P' : Nat → Nat) (g pl : Nat → Int32), l_P_Reader_turnRun_11 rd (nI k) (nI at_) (nI l) K1 f1 sy (nI i) = K1 (Sy_s_rw sy g) ∧ l_Model_readPlane_102 x1 x2 (nI w) x4 1 (nI at_) (nI l) K2 f2 mo (nI i) = K2 (Mo_s_pl mo pl) ∧ Pq P' F k w h (at_ + l) (Sy_s_rw sy g) (Mo_s_pl mo pl) ∧ ∀ j, j < 16 * k → g j = Sy_rw sy j := by
  have hwh : w * h ≤ 256 := Nat.mul_le_mul hw hh
  have hd : decide (¬ nI w = 0) = true := decide_eq_true (nI_ne0 (by omega) (by omega))
  intro d
  induction d with
  | zero =>
    intro i f1 f2 sy mo P hi h1 h2 hP
    obtain ⟨f, rfl⟩ : ∃ f, f1 = f + 1 := ⟨f1 - 1, by omega⟩
    obtain ⟨f', rfl⟩ : ∃ f, f2 = f + 1 := ⟨f2 - 1, by omega⟩
    have e : i = at_ + l := by omega
    subst e
    refine ⟨P, Sy_rw sy, Mo_pl mo, ?_, ?_, hP, fun j _ => rfl⟩
    · rw [l_P_Reader_turnRun_11, nI_add, if_pos (nI_le (Nat.le_refl _) (by omega))]
    · rw [l_Model_readPlane_102, nI_add, if_pos (nI_le (Nat.le_refl _) (by omega))]
  | succ d ih =>
    intro i f1 f2 sy mo P hi h1 h2 hP
    obtain ⟨f, rfl⟩ : ∃ f, f1 = f + 1 := ⟨f1 - 1, by omega⟩
    obtain ⟨f', rfl⟩ : ∃ f, f2 = f + 1 := ⟨f2 - 1, by omega⟩
    obtain ⟨q1, q2, q3⟩ := i_lt_h (show i < w * h by omega)
    have hq0 := Nat.zero_le (i / w)
    obtain ⟨hP1, hZ⟩ := hP
    obtain ⟨p1, p2, p3⟩ := hP1 _ q1
    have hz0 := hZ i (Nat.le_refl i) (by omega)
    have hor := or_xor hz0
    have hnew : Pq (fun y => if y = i / w then P y ^^^ 2 ^ (i % w) else P y) F k w h (i + 1) (Sy_s_rw sy (upd (Sy_rw sy) (16 * k + i / w) (nI (F (i / w) ^^^ (P (i / w) ^^^ 2 ^ (i % w)))))) (Mo_s_pl mo (upd (Mo_pl mo) (i / w) (nI (P (i / w) ^^^ 2 ^ (i % w))))) := by
      refine ⟨fun y hy => ?_, fun j hj1 hj2 => ?_⟩
      · show (if y = i / w then P y ^^^ 2 ^ (i % w) else P y) < 2 ^ w ∧ upd (Sy_rw sy) (16 * k + i / w) (nI (F (i / w) ^^^ (P (i / w) ^^^ 2 ^ (i % w)))) (16 * k + y) = nI (F y ^^^ (if y = i / w then P y ^^^ 2 ^ (i % w) else P y)) ∧ upd (Mo_pl mo) (i / w) (nI (P (i / w) ^^^ 2 ^ (i % w))) y = nI (if y = i / w then P y ^^^ 2 ^ (i % w) else P y)
        by_cases e : y = i / w
        · subst e
          rw [if_pos rfl, pk_us, pk_us]
          exact ⟨Nat.xor_lt_two_pow p1 (Nat.pow_lt_pow_right (by decide) q2), rfl, rfl⟩
        · rw [if_neg e, pk_un (by omega), pk_un e]
          exact hP1 y hy
      · show (if j / w = i / w then P (j / w) ^^^ 2 ^ (i % w) else P (j / w)) / 2 ^ (j % w) % 2 = 0
        have hz := hZ j (by omega) hj2
        by_cases e : j / w = i / w
        · have hne : i % w ≠ j % w := by
            intro z
            have d1 := Nat.div_add_mod i w
            have d2 := Nat.div_add_mod j w
            rw [e] at d2
            omega
          rw [if_pos e, ← xor_bit, hz, two_pow_bit hne]
          rfl
        · rw [if_neg e]; exact hz
    obtain ⟨P', g, pl, r1, r2, r3, r4⟩ := ih (i + 1) f f' (Sy_s_rw sy (upd (Sy_rw sy) (16 * k + i / w) (nI (F (i / w) ^^^ (P (i / w) ^^^ 2 ^ (i % w)))))) (Mo_s_pl mo (upd (Mo_pl mo) (i / w) (nI (P (i / w) ^^^ 2 ^ (i % w))))) _ (by omega) (by omega) (by omega) hnew
    rw [← nI_1 i] at r1 r2
    rw [pl_pl] at r2 r3
    refine ⟨P', g, pl, ?_, ?_, r3, fun j hj => ?_⟩
    · rw [l_P_Reader_turnRun_11, nI_add, if_neg (nI_ge (by omega) (by omega)), hRw, gd_t hd, gd_t hd, pk_rem (by omega) q3 (by omega), pk_div (by omega) q3 (by omega), f_Symbols_turn, rix, gd_in (show 16 * k + i / w < 640 by omega) (by decide), gd_in (show 16 * k + i / w < 640 by omega) (by decide), nI_clamp (show 16 * k + i / w < 2 ^ 31 by omega), p2, one_shl (by omega), nx_xor, Nat.xor_assoc]
      exact r1
    · rw [l_Model_readPlane_102, nI_add, if_neg (nI_ge (by omega) (by omega)), gd_t hd, gd_t hd, pk_rem (by omega) q3 (by omega), pk_div (by omega) q3 (by omega), gd_in (show i / w < 16 by omega) (by decide), gd_in (show i / w < 16 by omega) (by decide), nI_clamp (show i / w < 2 ^ 31 by omega), p3, one_shl (by omega), nx_or, hor]
      exact r2
    · rw [r4 j hj]
      exact pk_un (by omega)
theorem run0_l {k w h at_ l : Nat} {x1 x2 x4 : Int32} {K2 : Mo → Option Mo} {P : Nat → Nat} (hw1 : 1 ≤ w) (hw : w ≤ 16) (hh : h ≤ 16) (he : at_ + l ≤ w * h) : ∀ (d i f2 : Nat) (mo : Mo), i + d = at_ + l → d < f2 → (∀ y, y < h → Mo_pl mo y = nI (P y)) → ∃ pl : Nat → Int32, l_Model_readPlane_102 x1 x2 (nI w) x4 0 (nI at_) (nI l) K2 f2 mo (nI i) = K2 (Mo_s_pl mo pl) ∧ ∀ y, y < h → pl y = nI (P y) := by
  have hwh : w * h ≤ 256 := Nat.mul_le_mul hw hh
  have hd : decide (¬ nI w = 0) = true := decide_eq_true (nI_ne0 (by omega) (by omega))
  intro d
  induction d with
  | zero =>
    intro i f2 mo hi h2 hP
    obtain ⟨f', rfl⟩ : ∃ f, f2 = f + 1 := ⟨f2 - 1, by omega⟩
    have e : i = at_ + l := by omega
    subst e
    refine ⟨Mo_pl mo, ?_, hP⟩
    rw [l_Model_readPlane_102, nI_add, if_pos (nI_le (Nat.le_refl _) (by omega))]
  | succ d ih =>
    intro i f2 mo hi h2 hP
    obtain ⟨f', rfl⟩ : ∃ f, f2 = f + 1 := ⟨f2 - 1, by omega⟩
    obtain ⟨q1, q2, q3⟩ := i_lt_h (show i < w * h by omega)
    have hq0 := Nat.zero_le (i / w)
    have hz : (0 : Int32) <<< (nI (i % w) &&& 31) = nI 0 := by
      have := n_shl (x := 0) (i := i % w) (by omega) (by omega)
      rw [Nat.zero_mul] at this
      exact this
    obtain ⟨pl, r1, r2⟩ := ih (i + 1) f' (Mo_s_pl mo (upd (Mo_pl mo) (i / w) (nI (P (i / w))))) (by omega) (by omega) (fun y hy => by
      show upd (Mo_pl mo) (i / w) (nI (P (i / w))) y = nI (P y)
      by_cases e : y = i / w
      · subst e; exact pk_us
      · rw [pk_un e]; exact hP y hy)
    rw [← nI_1 i, pl_pl] at r1
    refine ⟨pl, ?_, r2⟩
    rw [l_Model_readPlane_102, nI_add, if_neg (nI_ge (by omega) (by omega)), gd_t hd, gd_t hd, pk_rem (by omega) q3 (by omega), pk_div (by omega) q3 (by omega), gd_in (show i / w < 16 by omega) (by decide), gd_in (show i / w < 16 by omega) (by decide), nI_clamp (show i / w < 2 ^ 31 by omega), hP _ q1, hz, nx_or, Nat.or_zero]
    exact r1
theorem wz (mo : Mo) (x : Int32) : Mo_why (Mo_s_why mo x) = x := rfl
theorem runs_l {rd : Rd} {k w h m a0 : Nat} {x1 Bx : Int32} {F : Nat → Nat} {k81 k97 k143 : Pb → Br → Sy → Option (Int32 × Rd × Pb × Br × Sy)} {j97 : Mo → Option Mo} {j153 : Mo → Int32 → Option Mo} (hk : k < 40) (hw1 : 1 ≤ w) (hw : w ≤ 16) (hh : h ≤ 16) (hRw : Rd_w rd = nI w) (hm : m ≤ 3000) (ha0 : a0 + 1728300 < 2 ^ 30) : ∀ (f place c run a : Nat) (b : Pb) (v : Br) (sy : Sy) (mo : Mo) (P : Nat → Nat), 24002 - run ≤ f → place ≤ w * h → c < 2 → run ≤ a → run ≤ 24000 → RcP b v mo m a → a ≤ a0 + 72 * run → Mo_kind mo = 1 → Mo_why mo = -1 → Pq P F k w h place sy mo →
    (∃ (b' : Pb) (v' : Br) (sy' : Sy) (mo' : Mo), Br_byL v' = Br_byL v ∧ Fp mo mo' ∧ ((l_P_Reader_takeRuns_52 rd (nI k) (nI (w * h)) k81 k97 k143 f b v sy (nI place) (nI c) (nI run) = k81 b' v' sy' ∧ l_Model_readPlane_47 x1 Bx (nI w) (nI (w * h)) j97 j153 f mo (nI c) (nI place) = j97 mo' ∧ Mo_why mo' = 7) ∨ (l_P_Reader_takeRuns_52 rd (nI k) (nI (w * h)) k81 k97 k143 f b v sy (nI place) (nI c) (nI run) = k97 b' v' sy' ∧ l_Model_readPlane_47 x1 Bx (nI w) (nI (w * h)) j97 j153 f mo (nI c) (nI place) = j97 mo' ∧ Mo_why mo' = 5))) ∨
    ∃ (b' : Pb) (v' : Br) (g : Nat → Int32) (mo' : Mo) (P' : Nat → Nat) (a' : Nat) (pl : Nat → Int32), l_P_Reader_takeRuns_52 rd (nI k) (nI (w * h)) k81 k97 k143 f b v sy (nI place) (nI c) (nI run) = k143 b' v' (Sy_s_rw sy g) ∧ l_Model_readPlane_47 x1 Bx (nI w) (nI (w * h)) j97 j153 f mo (nI c) (nI place) = j153 mo' (nI (w * h)) ∧ RcP b' v' mo' m a' ∧ a ≤ a' ∧ a' ≤ a0 + 1728072 ∧ Pq P' F k w h (w * h) (Sy_s_rw sy g) mo' ∧ (∀ j, j < 16 * k → g j = Sy_rw sy j) ∧ Tm (Mo_s_pl mo pl) mo' ∧ Br_byL v' = Br_byL v := by
  have hwh : w * h ≤ 256 := Nat.mul_le_mul hw hh
  intro f
  induction f with
  | zero => intro place c run a b v sy mo P hf _ _ _ _; omega
  | succ f ih =>
    intro place c run a b v sy mo P hf hpl hc hra hr hR ha hkd hwy hP
    have h24 : ¬ (24001 : Int32) ≤ nI run := nI_ge (b := 24001) (by omega) (by decide)
    by_cases e : place = w * h
    · right
      subst e
      refine ⟨b, v, Sy_rw sy, mo, P, a, Mo_pl mo, ?_, ?_, hR, Nat.le_refl a, by omega, hP, fun j _ => rfl, Tm.refl mo, rfl⟩
      · rw [l_P_Reader_takeRuns_52, if_neg h24, if_pos (nI_le (Nat.le_refl _) (by omega))]
      · rw [l_Model_readPlane_47, if_pos (nI_le (Nat.le_refl _) (by omega))]
    · have hnle : ¬ nI (w * h) ≤ nI place := nI_ge (by omega) (by omega)
      obtain ⟨a1, b1, v1, mo1, t1, t2, t3, t4, t5, t6⟩ := takeNum_P hR (by omega)
      have hwy1 : Mo_why mo1 = -1 := by obtain ⟨_, _, _, _, _, rfl⟩ := t4; exact hwy
      have hpl1 : Mo_pl mo1 = Mo_pl mo := by obtain ⟨_, _, _, _, _, rfl⟩ := t4; rfl
      have hkd1 : Mo_kind mo1 = 1 := by obtain ⟨_, _, _, _, _, rfl⟩ := t4; exact hkd
      rcases t6 with ⟨u1, u2⟩ | ⟨x, hx, u1, u2, u3, u4⟩
      · left
        refine ⟨b1, v1, sy, Mo_s_why mo1 7, t5, Fp.trans (Fp.of t4) (Fp_w mo1 7), Or.inl ⟨?_, ?_, rfl⟩⟩
        · rw [l_P_Reader_takeRuns_52, if_neg h24, if_neg hnle, u1, bd_s]
          rfl
        · rw [l_Model_readPlane_47, if_neg hnle, if_pos hkd, u2, bd_s]
          have hwhy : (0 : Int32) ≤ Mo_why (Mo_s_why mo1 7) := by rw [wz]; decide
          refine Eq.trans (if_pos hwhy) ?_
          rw [j_Model_readPlane_90_20, wz, if_neg (show ¬ (7 : Int32) < 0 by decide)]
      · have hw0 : ¬ (0 : Int32) ≤ Mo_why mo1 := by rw [hwy1]; decide
        have hw1' : Mo_why mo1 < 0 := by rw [hwy1]; decide
        have hC : l_P_Reader_takeRuns_52 rd (nI k) (nI (w * h)) k81 k97 k143 (f + 1) b v sy (nI place) (nI c) (nI run) = (if nI x ≤ nI (w * h - place) then (if nI c = 0 then j_P_Reader_takeRuns_118_26 (nI place) (nI c) (nI run) (l_P_Reader_takeRuns_52 rd (nI k) (nI (w * h)) k81 k97 k143 f) (nI x) b1 v1 sy else bd (f_P_Reader_turnRun rd sy (nI k) (nI place) (nI x)) (fun sy_32 => j_P_Reader_takeRuns_118_26 (nI place) (nI c) (nI run) (l_P_Reader_takeRuns_52 rd (nI k) (nI (w * h)) k81 k97 k143 f) (nI x) b1 v1 sy_32)) else k97 b1 v1 sy) := by
          rw [l_P_Reader_takeRuns_52, if_neg h24, if_neg hnle, u1, bd_s, ← pk_sub (show place ≤ w * h by omega)]
          exact if_neg (nI_m1 (by omega))
        have hM : l_Model_readPlane_47 x1 Bx (nI w) (nI (w * h)) j97 j153 (f + 1) mo (nI c) (nI place) = (if nI x ≤ nI (w * h - place) then j_Model_readPlane_90_20 x1 Bx (nI w) (nI (w * h)) (nI c) (nI place) (l_Model_readPlane_47 x1 Bx (nI w) (nI (w * h)) j97 j153 f) j97 (nI x) mo1 else j_Model_readPlane_90_20 x1 Bx (nI w) (nI (w * h)) (nI c) (nI place) (l_Model_readPlane_47 x1 Bx (nI w) (nI (w * h)) j97 j153 f) j97 (nI x) (Mo_s_why mo1 5)) := by
          rw [l_Model_readPlane_47, if_neg hnle, if_pos hkd, u2, bd_s, ← pk_sub (show place ≤ w * h by omega)]
          exact if_neg hw0
        rw [hC, hM]
        by_cases e2 : x ≤ w * h - place
        · rw [if_pos (nI_le e2 (by omega)), if_pos (nI_le e2 (by omega)), j_Model_readPlane_90_20, if_pos hw1']
          have hP1 : Pq P F k w h place sy mo1 := ⟨fun y hy => ⟨(hP.1 y hy).1, (hP.1 y hy).2.1, by rw [hpl1]; exact (hP.1 y hy).2.2⟩, hP.2⟩
          have hrun : ∃ (P' : Nat → Nat) (g pl : Nat → Int32), (if nI c = 0 then j_P_Reader_takeRuns_118_26 (nI place) (nI c) (nI run) (l_P_Reader_takeRuns_52 rd (nI k) (nI (w * h)) k81 k97 k143 f) (nI x) b1 v1 sy else bd (f_P_Reader_turnRun rd sy (nI k) (nI place) (nI x)) (fun sy_32 => j_P_Reader_takeRuns_118_26 (nI place) (nI c) (nI run) (l_P_Reader_takeRuns_52 rd (nI k) (nI (w * h)) k81 k97 k143 f) (nI x) b1 v1 sy_32)) = l_P_Reader_takeRuns_52 rd (nI k) (nI (w * h)) k81 k97 k143 f b1 v1 (Sy_s_rw sy g) (nI (place + x)) (nI (1 - c)) (nI (run + 1)) ∧ l_Model_readPlane_102 x1 Bx (nI w) (nI (w * h)) (nI c) (nI place) (nI x) (fun mo_31 => lt' (nI place + nI x) <| fun x6_32 => lt' (1 - nI c) <| fun x5_33 => (l_Model_readPlane_47 x1 Bx (nI w) (nI (w * h)) j97 j153 f) mo_31 x5_33 x6_32) 100000 mo1 (nI place) = l_Model_readPlane_47 x1 Bx (nI w) (nI (w * h)) j97 j153 f (Mo_s_pl mo1 pl) (nI (1 - c)) (nI (place + x)) ∧ Pq P' F k w h (place + x) (Sy_s_rw sy g) (Mo_s_pl mo1 pl) ∧ ∀ j, j < 16 * k → g j = Sy_rw sy j := by
            have hc2 : c = 0 ∨ c = 1 := by omega
            rcases hc2 with rfl | rfl
            · obtain ⟨pl, r1, r2⟩ := run0_l (k := k) (x1 := x1) (x2 := Bx) (x4 := nI (w * h)) (at_ := place) (l := x) (P := P) (K2 := fun mo_31 => lt' (nI place + nI x) <| fun x6_32 => lt' (1 - nI 0) <| fun x5_33 => (l_Model_readPlane_47 x1 Bx (nI w) (nI (w * h)) j97 j153 f) mo_31 x5_33 x6_32) hw1 hw hh (by omega) x place 100000 mo1 (by omega) (by omega) (fun y hy => (hP1.1 y hy).2.2)
              refine ⟨P, Sy_rw sy, pl, ?_, ?_, ⟨fun y hy => ⟨(hP1.1 y hy).1, (hP1.1 y hy).2.1, r2 y hy⟩, fun j h1 h2 => hP1.2 j (by omega) h2⟩, fun j _ => rfl⟩
              · rw [if_pos (show nI 0 = 0 from rfl), j_P_Reader_takeRuns_118_26, lt', if_pos (show nI 0 = 0 from rfl), lt', nI_add, nI_1]
                rfl
              · refine Eq.trans r1 ?_
                show l_Model_readPlane_47 x1 Bx (nI w) (nI (w * h)) j97 j153 f (Mo_s_pl mo1 pl) (1 - nI 0) (nI place + nI x) = _
                rw [m_one_minus (by decide), nI_add]
            · obtain ⟨P', g, pl, r1, r2, r3, r4⟩ := run1_l (rd := rd) (x1 := x1) (x2 := Bx) (x4 := nI (w * h)) (at_ := place) (l := x) (K1 := fun sy_8 => some sy_8) (K2 := fun mo_31 => lt' (nI place + nI x) <| fun x6_32 => lt' (1 - nI 1) <| fun x5_33 => (l_Model_readPlane_47 x1 Bx (nI w) (nI (w * h)) j97 j153 f) mo_31 x5_33 x6_32) hk hw1 hw hh hRw (by omega) x place 100000 100000 sy mo1 P (by omega) (by omega) (by omega) hP1
              have ht : f_P_Reader_turnRun rd sy (nI k) (nI place) (nI x) = some (Sy_s_rw sy g) := by
                rw [f_P_Reader_turnRun, hRw, if_neg (nI_ne0 (by omega) (by omega))]
                exact r1
              refine ⟨P', g, pl, ?_, ?_, r3, r4⟩
              · rw [if_neg (show ¬ nI 1 = 0 by decide), ht, bd_s, j_P_Reader_takeRuns_118_26, lt', if_neg (show ¬ nI 1 = 0 by decide), lt', nI_add, nI_1]
                rfl
              · refine Eq.trans r2 ?_
                show l_Model_readPlane_47 x1 Bx (nI w) (nI (w * h)) j97 j153 f (Mo_s_pl mo1 pl) (1 - nI 1) (nI place + nI x) = _
                rw [m_one_minus (by decide), nI_add]
          obtain ⟨P', g, pl, r1, r2, r3, r4⟩ := hrun
          rw [r1, r2]
          have hR2 : RcP b1 v1 (Mo_s_pl mo1 pl) m a1 := t1
          rcases ih (place + x) (1 - c) (run + 1) a1 b1 v1 (Sy_s_rw sy g) (Mo_s_pl mo1 pl) P' (by omega) (by omega) (by omega) (by omega) (by omega) hR2 (by omega) hkd1 hwy1 r3 with ⟨b', v', sy', mo', z1, z2, z3⟩ | ⟨b', v', g', mo', P2, a', pl', z1, z2, z3, z4, z5, z6, z7, z8, z9⟩
          · left
            refine ⟨b', v', sy', mo', z1.trans t5, Fp.trans (Fp.of t4) (Fp.trans (Fp_p mo1 pl) z2), z3⟩
          · right
            refine ⟨b', v', g', mo', P2, a', pl', z1, z2, z3, by omega, z5, z6, fun j hj => (z7 j hj).trans (r4 j hj), ?_, z9.trans t5⟩
            rw [pl_pl] at z8
            exact Tm_pl t4 z8
        · left
          rw [if_neg (nI_ge (by omega) (by omega)), if_neg (nI_ge (by omega) (by omega))]
          refine ⟨b1, v1, sy, Mo_s_why mo1 5, t5, Fp.trans (Fp.of t4) (Fp_w mo1 5), Or.inr ⟨rfl, ?_, rfl⟩⟩
          rw [j_Model_readPlane_90_20, wz, if_neg (show ¬ (5 : Int32) < 0 by decide)]
theorem runs0_l {rd : Rd} {b : Pb} {v : Br} {k w h n : Nat} {x3 x4 x5 : Int32} {F : Nat → Nat} {sy0 : Sy} (hk : k < 40) (hnk : n ≤ k) (hw : w ≤ 16) (hh : h ≤ 16) (hwd : Sy_wd sy0 k = nI w) (hRh : Rd_h rd = nI h) (hF : ∀ y, F y < 2 ^ w) (hFs : ∀ sy', Ss n sy0 sy' → ∀ y, y < 16 → f_Symbols_foretoldRow sy' (nI k) (nI y) = some (nI (F y))) : ∀ (m y : Nat) (sy : Sy), Ss n sy0 sy → y ≤ h → h - y < m → ∃ g : Nat → Int32, (∀ K, l_P_Reader_takeRuns_19 rd b v (nI k) x3 x4 x5 K m sy (nI y) = K (Sy_s_rw sy g)) ∧ (∀ j, y ≤ j → j < h → g (16 * k + j) = nI (F j)) ∧ ∀ j, j < 16 * k + y → g j = Sy_rw sy j := by
  intro m
  induction m with
  | zero => intro y sy _ _ h; omega
  | succ m ih =>
    intro y sy hS h1 h2
    by_cases e : y = h
    · subst e
      refine ⟨Sy_rw sy, fun K => ?_, fun j a b => by omega, fun j _ => rfl⟩
      rw [l_P_Reader_takeRuns_19, hRh, if_pos (nI_le (Nat.le_refl y) (by omega))]
    · have hwd' : Sy_wd sy k = nI w := by rw [hS.1]; exact hwd
      have hx2 := pow16 hw (hF y)
      have hset : f_Symbols_setRow sy (nI k) (nI y) (nI (F y)) = some (nI (pop (F y) 16), Sy_s_rw sy (upd (Sy_rw sy) (16 * k + y) (nI (F y)))) := by
        rw [s_setRow _ hwd' hw hk (by omega), pk_tn (by omega), Nat.mod_eq_of_lt (hF y)]
      have hS' := hS
      obtain ⟨s1, s2, s3, s4, s5, s6⟩ := hS
      obtain ⟨g, g1, g2, g3⟩ := ih (y + 1) (Sy_s_rw sy (upd (Sy_rw sy) (16 * k + y) (nI (F y)))) ⟨s1, s2, s3, s4, s5, fun j hj => by
        show upd (Sy_rw sy) (16 * k + y) _ j = _
        rw [pk_un (by omega)]; exact s6 j hj⟩ (by omega) (by omega)
      refine ⟨g, fun K => ?_, fun j a b => ?_, fun j hj => ?_⟩
      · have g1' := g1 K
        rw [← nI_1 y] at g1'
        rw [l_P_Reader_takeRuns_19, hRh, if_neg (nI_ge (by omega) (by omega)), hFs sy hS' y (by omega), bd_s, hset, bd_s]
        exact g1'
      · by_cases e5 : j = y
        · subst e5; rw [g3 _ (by omega)]; exact pk_us
        · exact g2 j (by omega) b
      · rw [g3 j (by omega)]; exact pk_un (by omega)
/-- a plane, run by run -/
theorem readRuns {rd : Rd} {sy : Sy} {mo : Mo} {b : Pb} {v : Br} {k w h n m a : Nat} {Bx : Int32} {F : Nat → Nat} (hk : k < 40) (hnk : n ≤ k) (hw1 : 1 ≤ w) (hw : w ≤ 16) (hh1 : 1 ≤ h) (hh : h ≤ 16) (hwd : Sy_wd sy k = nI w) (hRw : Rd_w rd = nI w) (hRh : Rd_h rd = nI h) (hMw : Mo_wd mo (k + 40) = nI w) (hMh : Mo_ht mo (k + 40) = nI h) (hkd : Mo_kind mo = 1) (hwy : Mo_why mo = -1) (hm : m ≤ 3000) (hF : ∀ y, F y < 2 ^ w) (hFs : ∀ sy', Ss n sy sy' → ∀ y, y < 16 → f_Symbols_foretoldRow sy' (nI k) (nI y) = some (nI (F y))) (hu : ∀ mo' : Mo, Sr 40 n mo mo' → ∀ x y, x < w → y < 16 → f_Model_under mo' (nI (k + 40)) Bx (nI x) (nI y) = some (nI (F y / 2 ^ x % 2))) (hR : RcP b v mo m a) (ha : a + 1728300 < 2 ^ 30) :
    (∃ (b' : Pb) (v' : Br) (sy' : Sy) (mo' : Mo) (wy : Int32), f_P_Reader_takeRuns rd b v sy (nI k) = some (0, Rd_s_wy rd wy, b', v', sy') ∧ f_Model_readPlane mo (nI (k + 40)) Bx = some mo' ∧ Mo_why mo' = wy ∧ (wy = 7 ∨ wy = 5) ∧ Fp mo mo' ∧ Br_byL v' = Br_byL v) ∨
    ∃ (V : Nat → Nat) (a' : Nat) (b' : Pb) (v' : Br) (g f pl : Nat → Int32) (mo' : Mo), f_P_Reader_takeRuns rd b v sy (nI k) = some (1, rd, b', v', Sy_s_rw sy g) ∧ f_Model_readPlane mo (nI (k + 40)) Bx = some mo' ∧ RcP b' v' mo' m a' ∧ (∀ y, y < h → V y < 2 ^ w ∧ g (16 * k + y) = nI (V y ^^^ F y) ∧ f (16 * (k + 40) + y) = nI (V y ^^^ F y)) ∧ (∀ y, h ≤ y → y < 16 → f (16 * (k + 40) + y) = 0) ∧ (∀ j, j < 16 * k → g j = Sy_rw sy j) ∧ (∀ j, j < 16 * (k + 40) → f j = Mo_rw mo j) ∧ a ≤ a' ∧ a' ≤ a + 1728072 ∧ Tm (Mo_s_rw (Mo_s_pl mo pl) f) mo' ∧ Br_byL v' = Br_byL v := by
  have cK : (nI (k + 40)).toNatClampNeg = k + 40 := nI_clamp (by omega)
  have hwh : w * h ≤ 256 := Nat.mul_le_mul hw hh
  have hwh1 : 1 ≤ w * h := Nat.mul_le_mul hw1 hh1
  obtain ⟨p0, p1, p2, -⟩ := m_pl0_l (x1 := nI (k + 40)) (x2 := Bx) (x3 := nI w) (x4 := nI (w * h)) (K2 := fun mo_11 => l_Model_readPlane_47 (nI (k + 40)) Bx (nI w) (nI (w * h)) (fun mo_38 => some mo_38) (fun mo_39 x6_40 => l_Model_readPlane_157 (nI (k + 40)) Bx (nI w) (nI (w * h)) (fun mo_60 => l_Model_readPlane_236 (nI (k + 40)) Bx (nI w) (nI (w * h)) (fun mo_67 => l_Model_readPlane_265 (nI (k + 40)) Bx (nI w) (nI (w * h)) (fun mo_81 => some mo_81) 100000 mo_67 0) 100000 mo_60 0) 100000 mo_39 x6_40) 100000 mo_11 0 0) 100000 0 mo (by omega) (by omega)
  have hmod : f_Model_readPlane mo (nI (k + 40)) Bx = l_Model_readPlane_47 (nI (k + 40)) Bx (nI w) (nI (w * h)) (fun mo_38 => some mo_38) (fun mo_39 x6_40 => l_Model_readPlane_157 (nI (k + 40)) Bx (nI w) (nI (w * h)) (fun mo_60 => l_Model_readPlane_236 (nI (k + 40)) Bx (nI w) (nI (w * h)) (fun mo_67 => l_Model_readPlane_265 (nI (k + 40)) Bx (nI w) (nI (w * h)) (fun mo_81 => some mo_81) 100000 mo_67 0) 100000 mo_60 0) 100000 mo_39 x6_40) 100000 (Mo_s_pl mo p0) (nI 0) (nI 0) := by
    rw [f_Model_readPlane, gd_in (show k + 40 < 80 by omega) (by decide), cK, hMw, lt', gd_in (show k + 40 < 80 by omega) (by decide), hMh, pk_mul, lt']
    exact p1
  obtain ⟨g0, g1, g2, g3⟩ := runs0_l (rd := rd) (b := b) (v := v) (x3 := nI (w * h)) (x4 := 0) (x5 := 0) (F := F) (sy0 := sy) (n := n) hk hnk hw hh hwd hRh hF hFs 100000 0 sy ⟨rfl, rfl, rfl, rfl, rfl, fun j _ => rfl⟩ (Nat.zero_le _) (by omega)
  have g1' : ∀ K, l_P_Reader_takeRuns_19 rd b v (nI k) (nI (w * h)) 0 0 K 100000 sy 0 = K (Sy_s_rw sy g0) := g1
  obtain ⟨k81, k97, k143, hcls, hk1, hk2, hk3⟩ : ∃ (k81 k97 k143 : Pb → Br → Sy → Option (Int32 × Rd × Pb × Br × Sy)), f_P_Reader_takeRuns rd b v sy (nI k) = l_P_Reader_takeRuns_52 rd (nI k) (nI (w * h)) k81 k97 k143 100000 b v (Sy_s_rw sy g0) (nI 0) (nI 0) (nI 0) ∧ (∀ b' v' s', k81 b' v' s' = some (0, Rd_s_wy rd 7, b', v', s')) ∧ (∀ b' v' s', k97 b' v' s' = some (0, Rd_s_wy rd 5, b', v', s')) ∧ (∀ b' v' s', k143 b' v' s' = some (1, rd, b', v', s')) := by
    rw [f_P_Reader_takeRuns, hRw, hRh, pk_mul, lt', g1']
    exact ⟨_, _, _, rfl, fun _ _ _ => rfl, fun _ _ _ => rfl, fun _ _ _ => rfl⟩
  have hPq : Pq (fun _ => 0) F k w h 0 (Sy_s_rw sy g0) (Mo_s_pl mo p0) := by
    refine ⟨fun y hy => ⟨Nat.two_pow_pos w, ?_, p2 y (Nat.zero_le _) (by omega)⟩, fun j _ _ => by rw [Nat.zero_div]⟩
    show g0 (16 * k + y) = nI (F y ^^^ 0)
    rw [Nat.xor_zero]
    exact g2 y (Nat.zero_le _) hy
  have hR0 : RcP b v (Mo_s_pl mo p0) m a := hR
  rw [hmod, hcls]
  rcases runs_l (rd := rd) (x1 := nI (k + 40)) (Bx := Bx) (F := F) (k81 := k81) (k97 := k97) (k143 := k143) (j97 := fun mo_38 => some mo_38) (j153 := fun mo_39 x6_40 => l_Model_readPlane_157 (nI (k + 40)) Bx (nI w) (nI (w * h)) (fun mo_60 => l_Model_readPlane_236 (nI (k + 40)) Bx (nI w) (nI (w * h)) (fun mo_67 => l_Model_readPlane_265 (nI (k + 40)) Bx (nI w) (nI (w * h)) (fun mo_81 => some mo_81) 100000 mo_67 0) 100000 mo_60 0) 100000 mo_39 x6_40) hk hw1 hw hh hRw hm ha 100000 0 0 0 a b v (Sy_s_rw sy g0) (Mo_s_pl mo p0) (fun _ => 0) (by decide) (Nat.zero_le _) (by decide) (Nat.zero_le _) (by decide) hR0 (by omega) hkd hwy hPq with ⟨b', v', sy', mo', z1, z2, z3⟩ | ⟨b', v', g, mo1, P', a', pl, z1, z2, z3, z4, z5, z6, z7, z8, z9⟩
  · left
    have hFp : Fp mo mo' := Fp.trans (Fp_p mo p0) z2
    rcases z3 with ⟨y1, y2, y3⟩ | ⟨y1, y2, y3⟩
    · exact ⟨b', v', sy', mo', 7, Eq.trans y1 (hk1 _ _ _), y2, y3, Or.inl rfl, hFp, z1⟩
    · exact ⟨b', v', sy', mo', 5, Eq.trans y1 (hk2 _ _ _), y2, y3, Or.inr rfl, hFp, z1⟩
  · right
    rw [pl_pl] at z8
    have hSr : ∀ mo' : Mo, Sr 40 n mo1 mo' → Sr 40 n mo mo' := by
      intro mo' hS
      obtain ⟨_, _, _, _, _, rfl⟩ := z8
      exact hS
    obtain ⟨f, f1, f2, f3, f4⟩ := m_rows (K := k + 40) (B := Bx) (V := P') (F := F) (mo := mo1) (o := 40) (n := n) (by omega) (by omega) hw hh (fun y hy => (z6.1 y hy).1) hF (fun mo' hS => hu mo' (hSr mo' hS)) (fun y hy => (z6.1 y hy).2.2)
    refine ⟨P', a', b', v', g, f, pl, Mo_s_rw mo1 f, z1.trans (hk3 _ _ _), ?_, z3, fun y hy => ⟨(z6.1 y hy).1, ?_, f2 y hy⟩, f3, fun j hj => (z7 j hj).trans (g3 j (by omega)), fun j hj => ?_, z4, z5, ?_, z9⟩
    · refine Eq.trans z2 ?_
      rw [l_Model_readPlane_157, if_pos (nI_le (Nat.le_refl _) (by omega))]
      exact f1
    · rw [Nat.xor_comm]; exact (z6.1 y hy).2.1
    · rw [f4 j hj]
      obtain ⟨_, _, _, _, _, rfl⟩ := z8
      rfl
    · exact Tm_rw z8
