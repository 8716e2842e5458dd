/-! Reading the classes -/
/-- what reading the symbols comes to: refused on both sides for one reason, or the same dictionary -/
def Out_P (cl : Option (Int32 × Rd × Pb × Br × Sy)) (md : Option Mo) (kd : Int32) (m many A : Nat) (v : Br) (mo : Mo) : Prop :=
  (∃ (rd' : Rd) (b' : Pb) (v' : Br) (sy' : Sy) (mo' : Mo), cl = some (0, rd', b', v', sy') ∧ md = some mo' ∧ Rd_wy rd' = Mo_why mo' ∧ ¬ Mo_why mo' < 0 ∧ Rd_br rd' = kd ∧ Br_byL v' = Br_byL v ∧ Gr 0 mo mo') ∨
  ∃ (rd' : Rd) (b' : Pb) (v' : Br) (sy' : Sy) (mo' : Mo) (a' : Nat) (wd ht : Nat → Nat), cl = some (1, rd', b', v', sy') ∧ md = some mo' ∧ RcP b' v' mo' m a' ∧ a' ≤ A ∧ Mo_why mo' = -1 ∧ Sy_n sy' = nI many ∧ Dc 40 sy' mo' many wd ht ∧ (∀ k, k < many → Sy_co sy' k = -1) ∧ Rd_br rd' = kd ∧ Br_byL v' = Br_byL v ∧ Gr 0 mo mo'
theorem Out_P.of {cl : Option (Int32 × Rd × Pb × Br × Sy)} {md : Option Mo} {kd : Int32} {m many A : Nat} {v v1 : Br} {mo mo1 : Mo} (h : Out_P cl md kd m many A v1 mo1) (hv : Br_byL v1 = Br_byL v) (hG : Gr 0 mo mo1) : Out_P cl md kd m many A v mo := by
  rcases h with ⟨rd', b', v', sy', mo', h1, h2, h3, h4, h5, h6, h7⟩ | ⟨rd', b', v', sy', mo', a', wd, ht, h1, h2, h3, h4, h5, h6, h7, h8, h9, h10, h11⟩
  · exact Or.inl ⟨rd', b', v', sy', mo', h1, h2, h3, h4, h5, h6.trans hv, Gr.trans hG h7⟩
  · exact Or.inr ⟨rd', b', v', sy', mo', a', wd, ht, h1, h2, h3, h4, h5, h6, h7, h8, h9, h10.trans hv, Gr.trans hG h11⟩
/-- the state between two symbols -/
def St_P (b : Pb) (v : Br) (sy : Sy) (mo : Mo) (m a at_ H W : Nat) (kd : Int32) (wd ht : Nat → Nat) : Prop := RcP b v mo m a ∧ Mo_why mo = -1 ∧ Sy_n sy = nI at_ ∧ Dc 40 sy mo at_ wd ht ∧ (∀ i, i < at_ → ht i < H ∨ (ht i = H ∧ wd i ≤ W)) ∧ (∀ k, k < at_ → Sy_co sy k = -1) ∧ ((kd = 0 ∧ ¬ Mo_kind mo = 1) ∨ (kd = 1 ∧ Mo_kind mo = 1))
theorem St_P.next {b b' : Pb} {v v' : Br} {sy : Sy} {mo mo' : Mo} {m a a' at_ H W : Nat} {kd : Int32} {wd ht : Nat → Nat} (h : St_P b v sy mo m a at_ H W kd wd ht) (hR : RcP b' v' mo' m a') (hT : Tm mo mo') : St_P b' v' sy mo' m a' at_ H W kd wd ht := by
  obtain ⟨h1, h2, h3, h4, h5, h6, h7⟩ := h
  obtain ⟨w1, w2, w3, w4, w5, w6, w7, w8, w9⟩ := Tm_s hT
  exact ⟨hR, w8.trans h2, h3, Dc_keep h4 (fun k _ => ⟨rfl, rfl, rfl, rfl, rfl, rfl, fun _ _ => rfl⟩) (Gr_tm hT).fm, h5, h6, by rw [w9]; exact h7⟩
theorem step_P {m at_ many H W a A : Nat} {wy0 kd : Int32} {b : Pb} {v : Br} {mo : Mo} {sy : Sy} {wd ht : Nat → Nat} {F G T : Int32 × Rd × Pb × Br × Sy → Option (Int32 × Rd × Pb × Br × Sy)} {S : Rd → Pb × Br × Sy → Option (Int32 × Rd × Pb × Br × Sy)} {rec : Rd → Pb → Br → Sy → Int32 → Option (Int32 × Rd × Pb × Br × Sy)} {rc53 : Mo → Int32 → Int32 → Option Mo}
    (hat : at_ < 40) (hm : m ≤ 3000) (hH1 : 1 ≤ H) (hH : H ≤ 16) (hW : W ≤ 16) (hS : St_P b v sy mo m a at_ H W kd wd ht) (ha : a + 1729000 < 2 ^ 30) (hF0 : ∀ rd b v sy, F (0, rd, b, v, sy) = some (0, rd, b, v, sy)) (hF1 : ∀ rd b v sy, F (1, rd, b, v, sy) = bd (f_P_Reader_takeBase rd b v sy (nI at_)) G) (hG0 : ∀ rd b v sy, G (0, rd, b, v, sy) = some (0, rd, b, v, sy)) (hG1 : ∀ rd b v sy, G (1, rd, b, v, sy) = if Rd_br rd = 0 then bd (f_P_Reader_takeSamples rd b v sy (nI at_)) (S rd) else bd (f_P_Reader_takeRuns rd b v sy (nI at_)) T) (hS0 : ∀ rd b v sy, S rd (b, v, sy) = rec rd b v sy (nI at_ + 1)) (hT0 : ∀ rd b v sy, T (0, rd, b, v, sy) = some (0, rd, b, v, sy)) (hT1 : ∀ rd b v sy, T (1, rd, b, v, sy) = rec rd b v sy (nI at_ + 1))
    (hrec : ∀ (w a' : Nat) (b' : Pb) (v' : Br) (sy' : Sy) (mo' : Mo) (wd' ht' : Nat → Nat), w ≤ 16 → a' ≤ a + 1728500 → St_P b' v' sy' mo' m a' (at_ + 1) H w kd wd' ht' → Mo_wd mo' (at_ + 40) = nI w → Out_P (rec (wy0, kd, nI H, nI w) b' v' sy' (nI (at_ + 1))) (rc53 mo' (nI (at_ + 1)) 1) kd m many A v' mo')
    (h0 : ∀ mo', ¬ Mo_why mo' < 0 → rc53 mo' (nI (at_ + 1)) 0 = some mo') :
    Out_P (bd (j_P_Reader_takeSize_37_8 sy (wy0, kd, nI H, nI W) b v) F) (j_Model_readClasses_122_29 (nI at_) (nI H) rc53 mo 1 (nI W)) kd m many A v mo := by
  obtain ⟨hR, hwy, hn, hD, hord, hco, hkd⟩ := hS
  have hmR : ∀ mo', f_Model_readSymbol mo (nI at_) (nI H) (nI W) = some mo' → ¬ Mo_why mo' < 0 → j_Model_readClasses_122_29 (nI at_) (nI H) rc53 mo 1 (nI W) = some mo' := by
    intro mo' h hw
    rw [j_Model_readClasses_122_29]
    refine Eq.trans (bd_e h) ?_
    rw [lt', nI_1, j_Model_readClasses_142_21, if_neg (show ¬ (1 : Int32) = 0 by decide), if_pos (nlt_le hw)]
    exact h0 mo' hw
  have hmY : ∀ mo', f_Model_readSymbol mo (nI at_) (nI H) (nI W) = some mo' → Mo_why mo' = -1 → j_Model_readClasses_122_29 (nI at_) (nI H) rc53 mo 1 (nI W) = rc53 mo' (nI (at_ + 1)) 1 := by
    intro mo' h hw
    rw [j_Model_readClasses_122_29]
    refine Eq.trans (bd_e h) ?_
    rw [lt', nI_1, j_Model_readClasses_142_21, if_neg (show ¬ (1 : Int32) = 0 by decide), if_neg (show ¬ (0 : Int32) ≤ Mo_why mo' by rw [hw]; decide)]
  rcases width_P (wy0 := wy0) (kd := kd) hat hH hW hn hR (by omega) hwy with ⟨wy, w', b1, v1, mo', c1, c2, c3, c4, c5, c6⟩ | ⟨w, a1, b1, v1, M, g, c1, c2, c3, c4, c5, c6, c7, c8, c9, c10, c11, c12, c13, c14⟩
  · left
    rw [← c3] at c4
    exact ⟨(wy, kd, nI H, w'), b1, v1, sy, mo', (bd_e c1).trans (hF0 _ _ _ _), hmR mo' c2 c4, c3.symm, c4, rfl, c6, c5.mono (Nat.zero_le _)⟩
  · obtain ⟨sy1, hs1⟩ : ∃ z : Sy, z = (upd (Sy_wd sy) at_ (nI w), upd (Sy_ht sy) at_ (nI H), upd (Sy_ex sy) at_ (vp_nar .boolean 0), upd (Sy_bs sy) at_ (-1), upd (Sy_dx sy) at_ 0, upd (Sy_dy sy) at_ 0, upd (Sy_co sy) at_ (-1), nI (at_ + 1), g, Sy_fc sy) := ⟨_, rfl⟩
    rw [← hs1] at c4
    have e1 : Sy_wd sy1 = upd (Sy_wd sy) at_ (nI w) := by subst hs1; rfl
    have e2 : Sy_ht sy1 = upd (Sy_ht sy) at_ (nI H) := by subst hs1; rfl
    have e3 : Sy_ex sy1 = upd (Sy_ex sy) at_ (vp_nar .boolean 0) := by subst hs1; rfl
    have e4 : Sy_bs sy1 = upd (Sy_bs sy) at_ (-1) := by subst hs1; rfl
    have e5 : Sy_dx sy1 = upd (Sy_dx sy) at_ 0 := by subst hs1; rfl
    have e6 : Sy_dy sy1 = upd (Sy_dy sy) at_ 0 := by subst hs1; rfl
    have e7 : Sy_co sy1 = upd (Sy_co sy) at_ (-1) := by subst hs1; rfl
    have e8 : Sy_n sy1 = nI (at_ + 1) := by subst hs1; rfl
    have e9 : Sy_rw sy1 = g := by subst hs1; rfl
    rcases base_P (H := H) (wy0 := wy0) (kd := kd) (xh := nI H) (xw := nI w) (sy := sy1) hat (by rw [e4]; exact pk_us) (by rw [e5]; exact pk_us) (by rw [e6]; exact pk_us) c8 (by omega) c11 with ⟨wy, b2, v2, mo', d1, d2, d3, d4, d5, d6⟩ | ⟨a2, ax, ay, b2, v2, sy2, mo2, B, Bx, d1, d2, d3, d4, d5, d6, d7, d8, d9, d10, d11, ⟨s1, s2, s3, s4, s5, s6⟩, d12, ⟨s7, s8, s9⟩, d13, d14, d15, d16, d17, d18⟩
    · left
      rw [← d3] at d4
      exact ⟨(wy, kd, nI H, nI w), b2, v2, sy1, mo', (bd_e c4).trans ((hF1 _ _ _ _).trans ((bd_e d1).trans (hG0 _ _ _ _))), hmR mo' (c7.trans d2) d4, d3.symm, d4, rfl, d6.trans c14, (Gr.trans c12 d5).mono (Nat.zero_le _)⟩
    · have hG2 : Gr at_ mo mo2 := Gr.trans c12 d10
      have hk2 : Mo_kind mo2 = Mo_kind mo := Gm_k hG2.1
      have hD2 : Dc 40 sy2 mo2 at_ wd ht := by
        refine Dc_keep hD (fun k hk => ?_) hG2.fm
        have hne : k ≠ at_ := by omega
        obtain ⟨q1, q2, q3⟩ := d12 k hne
        rw [s1, s2, s3, s4, q1, q2, q3, e1, e2, e3, e4, e5, e6, e9, pk_un hne, pk_un hne, pk_un hne, pk_un hne, pk_un hne, pk_un hne]
        exact ⟨rfl, rfl, rfl, rfl, rfl, rfl, fun y hy => c6 _ (by omega)⟩
      have f1 : Sy_wd sy2 at_ = nI w := by rw [s1, e1]; exact pk_us
      have f2 : Sy_ht sy2 at_ = nI H := by rw [s2, e2]; exact pk_us
      have f3 : Sy_ex sy2 at_ = 0 := by rw [s3, e3]; exact pk_us.trans nb0
      have hb : (Sy_bs sy2 at_ = -1 ∧ Bx = -1) ∨ ∃ b, b < at_ ∧ Sy_bs sy2 at_ = nI b ∧ Bx = nI (b + 40) := by rw [s7]; exact d4
      have hBx : (Sy_bs sy2 at_ = -1 ∧ Bx < 0) ∨ (¬ Sy_bs sy2 at_ = -1 ∧ ¬ Bx < 0) := by
        rcases hb with ⟨q1, q2⟩ | ⟨bb, q0, q1, q2⟩
        · exact Or.inl ⟨q1, by rw [q2]; decide⟩
        · exact Or.inr ⟨by rw [q1]; exact nI_m1 (by omega), by rw [q2]; exact nI_pos (by omega)⟩
      have hBB : B = -1 ∨ ∃ b, b < at_ ∧ B = nI b ∧ (ht b < H ∨ (ht b = H ∧ wd b ≤ w)) := by
        rcases d4 with ⟨q1, -⟩ | ⟨bb, q0, q1, -⟩
        · exact Or.inl q1
        · exact Or.inr ⟨bb, q0, q1, by have := hord bb q0; omega⟩
      obtain ⟨F2, F3, F4, F5⟩ := fore_rd (o := 40) (B := Bx) hD2 (by decide) hat c3 f1 hb d1 d2 s8 d17 s9 d18
      have hcl : bd (j_P_Reader_takeSize_37_8 sy (wy0, kd, nI H, nI W) b v) F = if kd = 0 then bd (f_P_Reader_takeSamples (wy0, kd, nI H, nI w) b2 v2 sy2 (nI at_)) (S (wy0, kd, nI H, nI w)) else bd (f_P_Reader_takeRuns (wy0, kd, nI H, nI w) b2 v2 sy2 (nI at_)) T := (bd_e c4).trans ((hF1 _ _ _ _).trans ((bd_e d3).trans (hG1 _ _ _ _)))
      have hmd : ∀ mo', f_Model_readPlane mo2 (nI (at_ + 40)) Bx = some mo' → f_Model_readSymbol mo (nI at_) (nI H) (nI W) = some mo' := fun mo' h => c7.trans (d5.trans (bd_e h))
      have hfin : ∀ (V : Nat → Nat) (a3 : Nat) (b3 : Pb) (v3 : Br) (g3 f3 pl : Nat → Int32) (mo3 : Mo), bd (j_P_Reader_takeSize_37_8 sy (wy0, kd, nI H, nI W) b v) F = rec (wy0, kd, nI H, nI w) b3 v3 (Sy_s_rw sy2 g3) (nI at_ + 1) → f_Model_readPlane mo2 (nI (at_ + 40)) Bx = some mo3 → RcP b3 v3 mo3 m a3 → (∀ y, y < H → V y < 2 ^ w ∧ g3 (16 * at_ + y) = nI (V y ^^^ F2 y) ∧ f3 (16 * (at_ + 40) + y) = nI (V y ^^^ F2 y)) → (∀ y, H ≤ y → y < 16 → f3 (16 * (at_ + 40) + y) = 0) → (∀ j, j < 16 * at_ → g3 j = Sy_rw sy2 j) → (∀ j, j < 16 * (at_ + 40) → f3 j = Mo_rw mo2 j) → a3 ≤ a2 + 1728072 → Tm (Mo_s_rw (Mo_s_pl mo2 pl) f3) mo3 → Br_byL v3 = Br_byL v2 → Out_P (bd (j_P_Reader_takeSize_37_8 sy (wy0, kd, nI H, nI W) b v) F) (j_Model_readClasses_122_29 (nI at_) (nI H) rc53 mo 1 (nI W)) kd m many A v mo := by
        intro V a3 b3 v3 g3 fm3 pl mo3 x1 x2 x3 x4 x5 x6 x7 x8 x9 x10
        obtain ⟨y1, y2, y3, y4⟩ := sym_done hat c2 c3 hH1 hH d1 d2 hD2 f1 f2 f3 s7 s8 s9 (d13.trans c13) d14 d15 d16 d17 d18 hBB x4 F3 x5 x6 x7 x9
        have hG3 : Gr at_ mo mo3 := Gr.trans hG2 y2
        have hw3 : Mo_why mo3 = -1 := y3.trans d9
        rw [x1, hmY mo3 (hmd mo3 x2) hw3, nI_1]
        refine Out_P.of (hrec w a3 b3 v3 (Sy_s_rw sy2 g3) mo3 _ _ c3 (by omega) ⟨x3, hw3, s6.trans e8, y1, fun i hi => ?_, fun k hk => ?_, by rw [Gm_k hG3.1]; exact hkd⟩ y4) (x10.trans (d11.trans c14)) (hG3.mono (Nat.zero_le _))
        · by_cases e : i = at_
          · subst e; rw [ins_s, ins_s]; omega
          · rw [ins_n wd w e, ins_n ht H e]
            have := hord i (by omega)
            omega
        · show Sy_co sy2 k = -1
          rw [s5, e7]
          by_cases e : k = at_
          · subst e; exact pk_us
          · rw [pk_un e]; exact hco k (by omega)
      rcases hkd with ⟨k0, k1⟩ | ⟨k0, k1⟩
      · obtain ⟨V, a3, b3, v3, g3, f3, pl, mo3, x1, x2, x3, x4, x5, x6, x7, -, x8, x9, x10⟩ := readSamples_P (rd := (wy0, kd, nI H, nI w)) (F := F2) (n := at_) hat (Nat.le_refl _) c2 c3 hH1 hH f1 f2 (d13.trans c13) d14 (by rw [hk2]; exact k1) hBx F3 F4 F5 d6 (by omega)
        exact hfin V a3 b3 v3 g3 f3 pl mo3 (hcl.trans ((if_pos k0).trans ((bd_e x1).trans (hS0 _ _ _ _)))) x2 x3 x4 x5 x6 x7 (by omega) x9 x10
      · rcases readRuns (rd := (wy0, kd, nI H, nI w)) (F := F2) (n := at_) hat (Nat.le_refl _) c2 c3 hH1 hH f1 rfl rfl (d13.trans c13) d14 (hk2.trans k1) d9 hm F3 F4 F5 d6 (by omega) with ⟨b3, v3, sy3, mo3, wy, x1, x2, x3, x4, x5, x6⟩ | ⟨V, a3, b3, v3, g3, f3, pl, mo3, x1, x2, x3, x4, x5, x6, x7, -, x8, x9, x10⟩
        · left
          have x7 : ¬ Mo_why mo3 < 0 := by rw [x3]; rcases x4 with e | e <;> (rw [e]; decide)
          exact ⟨Rd_s_wy (wy0, kd, nI H, nI w) wy, b3, v3, sy3, mo3, hcl.trans ((if_neg (by rw [k0]; decide)).trans ((bd_e x1).trans (hT0 _ _ _ _))), hmR mo3 (hmd mo3 x2) x7, x3.symm, x7, rfl, x6.trans (d11.trans c14), (Gr.trans hG2 (Gr_fp x5)).mono (Nat.zero_le _)⟩
        · exact hfin V a3 b3 v3 g3 f3 pl mo3 (hcl.trans ((if_neg (by rw [k0]; decide)).trans ((bd_e x1).trans (hT1 _ _ _ _)))) x2 x3 x4 x5 x6 x7 x8 x9 x10
theorem height_P {m many at_ H a f : Nat} {wy0 kd w0 : Int32} {b : Pb} {v : Br} {mo : Mo} {k171 k175 : Mo → Option Mo} (hat : at_ < many) (h40 : many ≤ 40) (hH : H ≤ 16) (hR : RcP b v mo m a) (ha : a + 100 < 2 ^ 30) (hwy : Mo_why mo = -1) :
    (∃ (wy h' w' : Int32) (b' : Pb) (v' : Br) (mo' : Mo), f_P_Reader_takeHeight (wy0, kd, nI H, w0) b v = some (0, (wy, kd, h', w'), b', v') ∧ l_Model_readClasses_4 (nI many) k171 k175 (f + 1) mo (nI at_) (nI H) = k171 mo' ∧ Mo_why mo' = wy ∧ ¬ wy < 0 ∧ Fp mo mo' ∧ Br_byL v' = Br_byL v) ∨
    ∃ (H' a' : Nat) (b' : Pb) (v' : Br) (mo' : Mo), H < H' ∧ H' ≤ 16 ∧ f_P_Reader_takeHeight (wy0, kd, nI H, w0) b v = some (1, (wy0, kd, nI H', nI 0), b', v') ∧ l_Model_readClasses_4 (nI many) k171 k175 (f + 1) mo (nI at_) (nI H) = j_Model_readClasses_122_29 (nI at_) (nI H') (l_Model_readClasses_53 (nI many) (nI H') (nI at_) (fun mo_41 x2_42 => (if (Mo_why mo_41) < 0 then l_Model_readClasses_4 (nI many) k171 k175 f mo_41 x2_42 (nI H') else k171 mo_41)) 99999) mo' 1 (nI 0) ∧ RcP b' v' mo' m a' ∧ a ≤ a' ∧ a' ≤ a + 76 ∧ Tm mo mo' ∧ Br_byL v' = Br_byL v := by
  obtain ⟨a1, b1, v1, mo1, t1, t2, t3, t4, t5, t6⟩ := takeNum_P hR (by omega)
  have hw1 : Mo_why mo1 = -1 := (Tm_w t4).1.trans hwy
  have hnle : ¬ nI many ≤ nI at_ := nI_ge hat (by omega)
  have hno : ∀ (x3 : Int32) (N : Mo), ¬ Mo_why N < 0 → j_Model_readClasses_36_8 (nI many) (nI at_) (l_Model_readClasses_4 (nI many) k171 k175 f) k171 x3 N = k171 N := by
    intro x3 N hN
    rw [j_Model_readClasses_36_8, if_pos (nlt_le hN), j_Model_readClasses_51_10, l_Model_readClasses_53, if_pos rfl, if_neg hN]
  rcases t6 with ⟨u1, u2⟩ | ⟨x, hx, u1, u2, -⟩
  · left
    obtain ⟨N, hN⟩ : ∃ z, z = Mo_s_why mo1 7 := ⟨_, rfl⟩
    rw [← hN] at u2
    have N1 : Mo_why N = 7 := by subst hN; exact wz mo1 7
    have N2 : Fp mo1 N := by subst hN; exact Fp_w mo1 7
    refine ⟨7, nI H, w0, b1, v1, N, ?_, ?_, N1, by decide, Fp.trans (Fp.of t4) N2, t5⟩
    · rw [f_P_Reader_takeHeight]
      refine Eq.trans (bd_e u1) ?_
      rfl
    · rw [l_Model_readClasses_4, if_neg hnle]
      refine Eq.trans (bd_e u2) ?_
      change lt' _ _ = _
      rw [lt']
      refine Eq.trans (if_pos (show (0 : Int32) ≤ Mo_why N by rw [N1]; decide)) ?_
      exact hno _ N (by rw [N1]; decide)
  · have hh : nI H + (nI x + 1) = nI (H + x + 1) := by rw [nI_1, nI_add, Nat.add_assoc]
    have hrd : Rd_s_h (wy0, kd, nI H, w0) (Rd_h (wy0, kd, nI H, w0) + (nI x + 1)) = (wy0, kd, nI (H + x + 1), w0) := congrArg (fun z => (wy0, kd, z, w0)) hh
    have hw0 : ¬ (0 : Int32) ≤ Mo_why mo1 := by rw [hw1]; decide
    rcases (Decidable.em (H + x + 1 ≤ 16)).symm with e1 | e1
    · left
      obtain ⟨N, hN⟩ : ∃ z, z = Mo_s_why mo1 1 := ⟨_, rfl⟩
      have N1 : Mo_why N = 1 := by subst hN; exact wz mo1 1
      have N2 : Fp mo1 N := by subst hN; exact Fp_w mo1 1
      have h16 : ¬ nI (H + x + 1) ≤ 16 := nI_ge (a := 16) (by omega) (by omega)
      refine ⟨1, nI (H + x + 1), w0, b1, v1, N, ?_, ?_, N1, by decide, Fp.trans (Fp.of t4) N2, t5⟩
      · rw [f_P_Reader_takeHeight]
        refine Eq.trans (bd_e u1) ?_
        refine Eq.trans (if_neg (nI_m1 (by omega))) ?_
        rw [lt', hrd]
        refine Eq.trans (if_neg h16) ?_
        rfl
      · rw [l_Model_readClasses_4, if_neg hnle]
        refine Eq.trans (bd_e u2) ?_
        change lt' _ _ = _
        rw [lt', hh]
        refine Eq.trans (if_neg hw0) ?_
        refine Eq.trans (if_neg h16) ?_
        rw [lt', ← hN]
        exact hno _ N (by rw [N1]; decide)
    · have h16 : nI (H + x + 1) ≤ 16 := nI_le (b := 16) e1 (by decide)
      obtain ⟨r, b2, v2, mo2, a2, r1, r2, r3, r4, r5, r6, r7, r8⟩ := bit_P t1 (by omega)
      have hw2 : Mo_why mo2 = -1 := (Tm_w r5).1.trans hw1
      have hne : ¬ nI at_ = nI many := by rw [nI_eq (by omega) (by omega)]; omega
      have hmo : ∀ y, (if r = 1 then j_Model_readClasses_73_17 (nI many) (nI at_) (nI (H + x + 1)) (nI at_) (l_Model_readClasses_53 (nI many) (nI (H + x + 1)) (nI at_) (fun mo_41 x2_42 => (if (Mo_why mo_41) < 0 then l_Model_readClasses_4 (nI many) k171 k175 f mo_41 x2_42 (nI (H + x + 1)) else k171 mo_41)) 99999) mo2 1 else j_Model_readClasses_73_17 (nI many) (nI at_) (nI (H + x + 1)) (nI at_) (l_Model_readClasses_53 (nI many) (nI (H + x + 1)) (nI at_) (fun mo_41 x2_42 => (if (Mo_why mo_41) < 0 then l_Model_readClasses_4 (nI many) k171 k175 f mo_41 x2_42 (nI (H + x + 1)) else k171 mo_41)) 99999) mo2 0) = y → l_Model_readClasses_4 (nI many) k171 k175 (f + 1) mo (nI at_) (nI H) = y := by
        intro y hy
        rw [l_Model_readClasses_4, if_neg hnle]
        refine Eq.trans (bd_e u2) ?_
        change lt' _ _ = _
        rw [lt', hh]
        refine Eq.trans (if_neg hw0) ?_
        refine Eq.trans (if_pos h16) ?_
        rw [j_Model_readClasses_36_8, if_neg hw0, j_Model_readClasses_51_10, l_Model_readClasses_53, if_neg (show ¬ (1 : Int32) = 0 by decide)]
        refine Eq.trans (bd_e r2) ?_
        exact hy
      rcases r4 with rfl | rfl
      · left
        obtain ⟨N, hN⟩ : ∃ z, z = Mo_s_why mo2 1 := ⟨_, rfl⟩
        have N1 : Mo_why N = 1 := by subst hN; exact wz mo2 1
        have N2 : Fp mo2 N := by subst hN; exact Fp_w mo2 1
        refine ⟨1, nI (H + x + 1), 0, b2, v2, N, ?_, hmo _ ?_, N1, by decide, Fp.trans (Fp.of t4) (Fp.trans (Fp.of r5) N2), r6.trans t5⟩
        · rw [f_P_Reader_takeHeight]
          refine Eq.trans (bd_e u1) ?_
          refine Eq.trans (if_neg (nI_m1 (by omega))) ?_
          rw [lt', hrd]
          refine Eq.trans (if_pos h16) ?_
          rw [lt']
          refine Eq.trans (bd_e r1) ?_
          rfl
        · refine Eq.trans (if_neg (show ¬ (0 : Int32) = 1 by decide)) ?_
          rw [j_Model_readClasses_73_17, if_pos rfl, j_Model_readClasses_93_18, if_pos rfl, if_pos rfl, lt', ← hN, j_Model_readClasses_142_21, if_pos rfl, l_Model_readClasses_53, if_pos rfl]
          exact if_neg (show ¬ Mo_why N < 0 by rw [N1]; decide)
      · right
        refine ⟨H + x + 1, a2, b2, v2, mo2, by omega, e1, ?_, hmo _ ?_, r3, by omega, by omega, Tm.trans t4 r5, r6.trans t5⟩
        · rw [f_P_Reader_takeHeight]
          refine Eq.trans (bd_e u1) ?_
          refine Eq.trans (if_neg (nI_m1 (by omega))) ?_
          rw [lt', hrd]
          refine Eq.trans (if_pos h16) ?_
          rw [lt']
          refine Eq.trans (bd_e r1) ?_
          rfl
        · refine Eq.trans (if_pos rfl) ?_
          rw [j_Model_readClasses_73_17, if_neg (show ¬ (1 : Int32) = 0 by decide), if_neg hne, j_Model_readClasses_93_18, if_neg (show ¬ (1 : Int32) = 0 by decide), if_pos rfl]
          rfl
theorem newclass_P {m at_ many H W a A f : Nat} {wy0 kd w0 : Int32} {b : Pb} {v : Br} {mo : Mo} {sy : Sy} {wd ht : Nat → Nat} {F G T : Int32 × Rd × Pb × Br × Sy → Option (Int32 × Rd × Pb × Br × Sy)} {S : Rd → Pb × Br × Sy → Option (Int32 × Rd × Pb × Br × Sy)} {rec : Rd → Pb → Br → Sy → Int32 → Option (Int32 × Rd × Pb × Br × Sy)} {k171 k175 : Mo → Option Mo}
    (hat : at_ < many) (h40 : many ≤ 40) (hm : m ≤ 3000) (hH : H ≤ 16) (hS : St_P b v sy mo m a at_ H W kd wd ht) (ha : a + 1730000 < 2 ^ 30) (h171 : ∀ mo, k171 mo = some mo) (hF0 : ∀ rd b v sy, F (0, rd, b, v, sy) = some (0, rd, b, v, sy)) (hF1 : ∀ rd b v sy, F (1, rd, b, v, sy) = bd (f_P_Reader_takeBase rd b v sy (nI at_)) G) (hG0 : ∀ rd b v sy, G (0, rd, b, v, sy) = some (0, rd, b, v, sy)) (hG1 : ∀ rd b v sy, G (1, rd, b, v, sy) = if Rd_br rd = 0 then bd (f_P_Reader_takeSamples rd b v sy (nI at_)) (S rd) else bd (f_P_Reader_takeRuns rd b v sy (nI at_)) T) (hS0 : ∀ rd b v sy, S rd (b, v, sy) = rec rd b v sy (nI at_ + 1)) (hT0 : ∀ rd b v sy, T (0, rd, b, v, sy) = some (0, rd, b, v, sy)) (hT1 : ∀ rd b v sy, T (1, rd, b, v, sy) = rec rd b v sy (nI at_ + 1))
    (hrec : ∀ (H' w a' : Nat) (b' : Pb) (v' : Br) (sy' : Sy) (mo' : Mo) (wd' ht' : Nat → Nat), 1 ≤ H' → H' ≤ 16 → w ≤ 16 → a' ≤ a + 1728600 → St_P b' v' sy' mo' m a' (at_ + 1) H' w kd wd' ht' → Mo_wd mo' (at_ + 40) = nI w → Out_P (rec (wy0, kd, nI H', nI w) b' v' sy' (nI (at_ + 1))) (l_Model_readClasses_53 (nI many) (nI H') (nI at_) (fun mo_41 x2_42 => (if (Mo_why mo_41) < 0 then l_Model_readClasses_4 (nI many) k171 k175 f mo_41 x2_42 (nI H') else k171 mo_41)) 99999 mo' (nI (at_ + 1)) 1) kd m many A v' mo') :
    Out_P (bd (j_P_Reader_takeSize_23_4 (wy0, kd, nI H, w0) sy b v 1) F) (l_Model_readClasses_4 (nI many) k171 k175 (f + 1) mo (nI at_) (nI H)) kd m many A v mo := by
  rcases height_P (wy0 := wy0) (kd := kd) (w0 := w0) (k171 := k171) (k175 := k175) (f := f) hat h40 hH hS.1 (by omega) hS.2.1 with ⟨wy, h', w', b1, v1, mo1, c1, c2, c3, c4, c5, c6⟩ | ⟨H', a1, b1, v1, mo1, c1, c2, c3, c4, c5, c6, c7, c8, c9⟩
  · left
    rw [← c3] at c4
    refine ⟨(wy, kd, h', w'), b1, v1, sy, mo1, Eq.trans (bd_e ?_) (hF0 _ _ _ _), c2.trans (h171 mo1), c3.symm, c4, rfl, c6, Gr_fp c5⟩
    rw [j_P_Reader_takeSize_23_4]
    refine Eq.trans (if_neg (show ¬ (1 : Int32) = 0 by decide)) ?_
    refine Eq.trans (bd_e c1) ?_
    rfl
  · have hj : j_P_Reader_takeSize_23_4 (wy0, kd, nI H, w0) sy b v 1 = j_P_Reader_takeSize_37_8 sy (wy0, kd, nI H', nI 0) b1 v1 := by
      rw [j_P_Reader_takeSize_23_4]
      refine Eq.trans (if_neg (show ¬ (1 : Int32) = 0 by decide)) ?_
      refine Eq.trans (bd_e c3) ?_
      rfl
    rw [hj, c4]
    obtain ⟨h1, h2, h3, h4, h5, h6, h7⟩ := St_P.next hS c5 c8
    refine Out_P.of (step_P (wd := wd) (ht := ht) (by omega) hm (by omega) c2 (by decide) ⟨h1, h2, h3, h4, fun i hi => ?_, h6, h7⟩ (by omega) hF0 hF1 hG0 hG1 hS0 hT0 hT1 (fun w a' b' v' sy' mo' wd' ht' q1 q2 q3 q4 => hrec H' w a' b' v' sy' mo' wd' ht' (by omega) c2 q1 (by omega) q3 q4) (fun mo' hw => ?_)) c9 (Gr_tm c8)
    · have := h5 i hi
      omega
    · rw [l_Model_readClasses_53, if_pos rfl, if_neg hw]
      exact h171 mo'
theorem body_P {x2 : Int32} {k73 k100 k108 : Rd → Pb → Br → Sy → Option (Int32 × Rd × Pb × Br × Sy)} {n at_ : Nat} {rd : Rd} {b : Pb} {v : Br} {sy : Sy} (hk73 : ∀ rd b v sy, k73 rd b v sy = some (0, rd, b, v, sy)) (hk100 : ∀ rd b v sy, k100 rd b v sy = some (0, rd, b, v, sy)) (h : ¬ x2 ≤ nI at_) :
    ∃ (F G T : Int32 × Rd × Pb × Br × Sy → Option (Int32 × Rd × Pb × Br × Sy)) (S : Rd → Pb × Br × Sy → Option (Int32 × Rd × Pb × Br × Sy)), l_P_Reader_takeSymbols_51 x2 k73 k100 k108 (n + 1) rd b v sy (nI at_) = bd (f_P_Reader_takeSize rd b v sy) F ∧ (∀ rd b v sy, F (0, rd, b, v, sy) = some (0, rd, b, v, sy)) ∧ (∀ rd b v sy, F (1, rd, b, v, sy) = bd (f_P_Reader_takeBase rd b v sy (nI at_)) G) ∧ (∀ rd b v sy, G (0, rd, b, v, sy) = some (0, rd, b, v, sy)) ∧ (∀ rd b v sy, G (1, rd, b, v, sy) = if Rd_br rd = 0 then bd (f_P_Reader_takeSamples rd b v sy (nI at_)) (S rd) else bd (f_P_Reader_takeRuns rd b v sy (nI at_)) T) ∧ (∀ rd b v sy, S rd (b, v, sy) = l_P_Reader_takeSymbols_51 x2 k73 k100 k108 n rd b v sy (nI at_ + 1)) ∧ (∀ rd b v sy, T (0, rd, b, v, sy) = some (0, rd, b, v, sy)) ∧ (∀ rd b v sy, T (1, rd, b, v, sy) = l_P_Reader_takeSymbols_51 x2 k73 k100 k108 n rd b v sy (nI at_ + 1)) := by
  rw [l_P_Reader_takeSymbols_51, if_neg h]
  exact ⟨_, _, _, _, rfl, fun rd b v sy => (if_pos rfl).trans (hk73 rd b v sy), fun _ _ _ _ => if_neg (show ¬ (1 : Int32) = 0 by decide), fun rd b v sy => (if_pos rfl).trans (hk73 rd b v sy), fun _ _ _ _ => if_neg (show ¬ (1 : Int32) = 0 by decide), fun _ _ _ _ => rfl, fun rd b v sy => (if_pos rfl).trans (hk100 rd b v sy), fun _ _ _ _ => if_neg (show ¬ (1 : Int32) = 0 by decide)⟩
theorem loop_P {m many A a0 : Nat} {kd : Int32} {k73 k100 k108 : Rd → Pb → Br → Sy → Option (Int32 × Rd × Pb × Br × Sy)} {k171 k175 : Mo → Option Mo} (h40 : many ≤ 40) (hm : m ≤ 3000) (hA : a0 + 41 * 1729000 ≤ A) (hA2 : A + 2000000 < 2 ^ 30) (hk73 : ∀ rd b v sy, k73 rd b v sy = some (0, rd, b, v, sy)) (hk100 : ∀ rd b v sy, k100 rd b v sy = some (0, rd, b, v, sy))
    (hk0 : ∀ rd b v sy b' v', f_P_PlainBits_takeBit b v (-1) = some (0, b', v') → k108 rd b v sy = some (1, rd, b', v', sy)) (hk1 : ∀ rd b v sy b' v', f_P_PlainBits_takeBit b v (-1) = some (1, b', v') → k108 rd b v sy = some (0, Rd_s_wy rd 0, b', v', sy)) (h171 : ∀ mo, k171 mo = some mo) (h175 : ∀ mo, k175 mo = some mo) :
    ∀ (d at_ first H W a f1 f2 f4 : Nat) (wy0 : Int32) (b : Pb) (v : Br) (sy : Sy) (mo : Mo) (wd ht : Nat → Nat), at_ + d = many → first < at_ → 1 ≤ H → H ≤ 16 → W ≤ 16 → d < f1 → d + 2 ≤ f2 → f2 ≤ 99999 → d < f4 → d + 3 ≤ 99999 → St_P b v sy mo m a at_ H W kd wd ht → Mo_wd mo (at_ + 39) = nI W → a ≤ a0 + at_ * 1729000 →
      Out_P (l_P_Reader_takeSymbols_51 (nI many) k73 k100 k108 f1 (wy0, kd, nI H, nI W) b v sy (nI at_)) (l_Model_readClasses_53 (nI many) (nI H) (nI first) (fun mo_41 x2_42 => (if (Mo_why mo_41) < 0 then l_Model_readClasses_4 (nI many) k171 k175 f4 mo_41 x2_42 (nI H) else k171 mo_41)) f2 mo (nI at_) 1) kd m many A v mo := by
  intro d
  induction d with
  | zero =>
    intro at_ first H W a f1 f2 f4 wy0 b v sy mo wd ht hd hfi hH1 hH hW hf1 hf2 _ hf4 _ hS hMw ha
    have e : at_ = many := by omega
    subst e
    obtain ⟨f1, rfl⟩ : ∃ f, f1 = f + 1 := ⟨f1 - 1, by omega⟩
    obtain ⟨f2, rfl⟩ : ∃ f, f2 = f + 1 + 1 := ⟨f2 - 2, by omega⟩
    obtain ⟨f4, rfl⟩ : ∃ f, f4 = f + 1 := ⟨f4 - 1, by omega⟩
    obtain ⟨hR, hwy, hn, hD, hord, hco, hkd⟩ := hS
    obtain ⟨r, b1, v1, mo1, a1, r1, r2, r3, r4, r5, r6, r7, r8⟩ := bit_P hR (by omega)
    have hw1 : Mo_why mo1 = -1 := (Tm_w r5).1.trans hwy
    have hw1' : Mo_why mo1 < 0 := by rw [hw1]; decide
    have hnf : ¬ nI at_ = nI first := by rw [nI_eq (by omega) (by omega)]; omega
    have hle : nI at_ ≤ nI at_ := nI_le (Nat.le_refl _) (by omega)
    rcases r4 with rfl | rfl
    · right
      refine ⟨(wy0, kd, nI H, nI W), b1, v1, sy, mo1, a1, wd, ht, ?_, ?_, r3, by omega, hw1, hn, Dc_keep hD (fun k _ => ⟨rfl, rfl, rfl, rfl, rfl, rfl, fun _ _ => rfl⟩) (Gr_tm r5).fm, hco, rfl, r6, Gr_tm r5⟩
      · rw [l_P_Reader_takeSymbols_51, if_pos hle]
        exact hk0 _ _ _ _ _ _ r1
      · rw [l_Model_readClasses_53, if_neg (show ¬ (1 : Int32) = 0 by decide)]
        refine Eq.trans (bd_e r2) ?_
        refine Eq.trans (if_neg (show ¬ (0 : Int32) = 1 by decide)) ?_
        rw [j_Model_readClasses_73_17, if_pos rfl, j_Model_readClasses_93_18, if_pos rfl, if_neg hnf, j_Model_readClasses_142_21, if_pos rfl, l_Model_readClasses_53, if_pos rfl, if_pos hw1', l_Model_readClasses_4, if_pos hle]
        exact h175 mo1
    · left
      obtain ⟨N, hN⟩ : ∃ z, z = Mo_s_why mo1 0 := ⟨_, rfl⟩
      have N1 : Mo_why N = 0 := by subst hN; exact wz mo1 0
      have N2 : Fp mo1 N := by subst hN; exact Fp_w mo1 0
      have N3 : ¬ Mo_why N < 0 := by rw [N1]; decide
      refine ⟨Rd_s_wy (wy0, kd, nI H, nI W) 0, b1, v1, sy, N, ?_, ?_, N1.symm, N3, rfl, r6, Gr_fp (Fp.trans (Fp.of r5) N2)⟩
      · rw [l_P_Reader_takeSymbols_51, if_pos hle]
        exact hk1 _ _ _ _ _ _ r1
      · rw [l_Model_readClasses_53, if_neg (show ¬ (1 : Int32) = 0 by decide)]
        refine Eq.trans (bd_e r2) ?_
        refine Eq.trans (if_pos rfl) ?_
        rw [j_Model_readClasses_73_17, if_neg (show ¬ (1 : Int32) = 0 by decide), if_pos rfl, lt', if_neg (show ¬ (1 : Int32) = 0 by decide), ← hN, if_pos (nlt_le N3), l_Model_readClasses_53, if_pos rfl, if_neg N3]
        exact h171 N
  | succ d ih =>
    intro at_ first H W a f1 f2 f4 wy0 b v sy mo wd ht hd hfi hH1 hH hW hf1 hf2 hf9 hf4 hd9 hS hMw ha
    obtain ⟨f1, rfl⟩ : ∃ f, f1 = f + 1 := ⟨f1 - 1, by omega⟩
    obtain ⟨f2, rfl⟩ : ∃ f, f2 = f + 1 + 1 := ⟨f2 - 2, by omega⟩
    obtain ⟨f4, rfl⟩ : ∃ f, f4 = f + 1 := ⟨f4 - 1, by omega⟩
    have h4 : at_ < 40 := by omega
    have hmul : at_ * 1729000 ≤ 39 * 1729000 := Nat.mul_le_mul_right _ (by omega)
    have hmul2 : (at_ + 1) * 1729000 = at_ * 1729000 + 1729000 := Nat.succ_mul _ _
    have hnle : ¬ nI many ≤ nI at_ := nI_ge (by omega) (by omega)
    have hne : ¬ nI at_ = nI many := by rw [nI_eq (by omega) (by omega)]; omega
    have hnf : ¬ nI at_ = nI first := by rw [nI_eq (by omega) (by omega)]; omega
    obtain ⟨r, b1, v1, mo1, a1, r1, r2, r3, r4, r5, r6, r7, r8⟩ := bit_P hS.1 (by omega)
    have hS1 := St_P.next hS r3 r5
    have hw1' : Mo_why mo1 < 0 := by rw [hS1.2.1]; decide
    obtain ⟨F, G, T, S, hC, hF0, hF1, hG0, hG1, hS0, hT0, hT1⟩ := body_P (k108 := k108) (n := f1) (rd := (wy0, kd, nI H, nI W)) (b := b) (v := v) (sy := sy) hk73 hk100 hnle
    rw [hC]
    have hn0 : ¬ Sy_n sy = 0 := by rw [hS.2.2.1]; exact nI_ne0 (by omega) (by omega)
    rcases r4 with rfl | rfl
    · have hts : f_P_Reader_takeSize (wy0, kd, nI H, nI W) b v sy = j_P_Reader_takeSize_23_4 (wy0, kd, nI H, nI W) sy b1 v1 1 := by
        rw [f_P_Reader_takeSize, if_neg hn0]
        refine Eq.trans (bd_e r1) ?_
        exact if_pos rfl
      have hmd : l_Model_readClasses_53 (nI many) (nI H) (nI first) (fun mo_41 x2_42 => (if (Mo_why mo_41) < 0 then l_Model_readClasses_4 (nI many) k171 k175 (f4 + 1) mo_41 x2_42 (nI H) else k171 mo_41)) (f2 + 1 + 1) mo (nI at_) 1 = l_Model_readClasses_4 (nI many) k171 k175 (f4 + 1) mo1 (nI at_) (nI H) := by
        rw [l_Model_readClasses_53, if_neg (show ¬ (1 : Int32) = 0 by decide)]
        refine Eq.trans (bd_e r2) ?_
        refine Eq.trans (if_neg (show ¬ (0 : Int32) = 1 by decide)) ?_
        rw [j_Model_readClasses_73_17, if_pos rfl, j_Model_readClasses_93_18, if_pos rfl, if_neg hnf, j_Model_readClasses_142_21, if_pos rfl, l_Model_readClasses_53, if_pos rfl, if_pos hw1']
      rw [hts, hmd]
      refine Out_P.of (newclass_P (by omega) h40 hm hH hS1 (by omega) h171 hF0 hF1 hG0 hG1 hS0 hT0 hT1 (fun H' w a' b' v' sy' mo' wd' ht' q1 q2 q3 q4 q5 q6 => ?_)) r6 (Gr_tm r5)
      exact ih (at_ + 1) at_ H' w a' f1 99999 f4 wy0 b' v' sy' mo' wd' ht' (by omega) (by omega) q1 q2 q3 (by omega) (by omega) (by omega) (by omega) (by omega) q5 q6 (by omega)
    · have hts : f_P_Reader_takeSize (wy0, kd, nI H, nI W) b v sy = j_P_Reader_takeSize_37_8 sy (wy0, kd, nI H, nI W) b1 v1 := by
        rw [f_P_Reader_takeSize, if_neg hn0]
        refine Eq.trans (bd_e r1) ?_
        refine Eq.trans (if_neg (show ¬ (1 : Int32) = 0 by decide)) ?_
        rw [j_P_Reader_takeSize_23_4]
        exact if_pos rfl
      have hix : (40 + nI at_) - 1 = nI (at_ + 39) := by
        rw [show (40 : Int32) = nI 40 from rfl, nI_add, show (1 : Int32) = nI 1 from rfl, pk_sub (by omega)]
        exact congrArg nI (by omega)
      have hmd : l_Model_readClasses_53 (nI many) (nI H) (nI first) (fun mo_41 x2_42 => (if (Mo_why mo_41) < 0 then l_Model_readClasses_4 (nI many) k171 k175 (f4 + 1) mo_41 x2_42 (nI H) else k171 mo_41)) (f2 + 1 + 1) mo (nI at_) 1 = j_Model_readClasses_122_29 (nI at_) (nI H) (l_Model_readClasses_53 (nI many) (nI H) (nI first) (fun mo_41 x2_42 => (if (Mo_why mo_41) < 0 then l_Model_readClasses_4 (nI many) k171 k175 (f4 + 1) mo_41 x2_42 (nI H) else k171 mo_41)) (f2 + 1)) mo1 1 (nI W) := by
        rw [l_Model_readClasses_53, if_neg (show ¬ (1 : Int32) = 0 by decide)]
        refine Eq.trans (bd_e r2) ?_
        refine Eq.trans (if_pos rfl) ?_
        rw [j_Model_readClasses_73_17, if_neg (show ¬ (1 : Int32) = 0 by decide), if_neg hne, j_Model_readClasses_93_18, if_neg (show ¬ (1 : Int32) = 0 by decide), if_neg hnf, hix, gd_in (show at_ + 39 < 80 by omega) (by decide), nI_clamp (show at_ + 39 < 2 ^ 31 by omega), (Tm_s r5).1, hMw]
      rw [hts, hmd]
      refine Out_P.of (step_P h4 hm hH1 hH hW hS1 (by omega) hF0 hF1 hG0 hG1 hS0 hT0 hT1 (fun w a' b' v' sy' mo' wd' ht' q1 q2 q3 q4 => ?_) (fun mo' hw => ?_)) r6 (Gr_tm r5)
      · exact ih (at_ + 1) first H w a' f1 (f2 + 1) (f4 + 1) wy0 b' v' sy' mo' wd' ht' (by omega) (by omega) hH1 hH q1 (by omega) (by omega) (by omega) (by omega) (by omega) q3 q4 (by omega)
      · rw [l_Model_readClasses_53, if_pos rfl, if_neg hw]
        exact h171 mo'
/-- what reading the symbols comes to: refused on both sides for one reason, or the same dictionary -/
def Out_C (cl : Option (Int32 × Rd × Cb × Br × Sy)) (md : Option Mo) (kd : Int32) (m many A : Nat) (v : Br) (mo : Mo) : Prop :=
  (∃ (rd' : Rd) (b' : Cb) (v' : Br) (sy' : Sy) (mo' : Mo), cl = some (0, rd', b', v', sy') ∧ md = some mo' ∧ Rd_wy rd' = Mo_why mo' ∧ ¬ Mo_why mo' < 0 ∧ Rd_br rd' = kd ∧ Br_byL v' = Br_byL v ∧ Gr 0 mo mo') ∨
  ∃ (rd' : Rd) (b' : Cb) (v' : Br) (sy' : Sy) (mo' : Mo) (a' : Nat) (wd ht : Nat → Nat), cl = some (1, rd', b', v', sy') ∧ md = some mo' ∧ RcC b' v' mo' m a' ∧ a' ≤ A ∧ Mo_why mo' = -1 ∧ Sy_n sy' = nI many ∧ Dc 40 sy' mo' many wd ht ∧ (∀ k, k < many → Sy_co sy' k = -1) ∧ Rd_br rd' = kd ∧ Br_byL v' = Br_byL v ∧ Gr 0 mo mo'
theorem Out_C.of {cl : Option (Int32 × Rd × Cb × Br × Sy)} {md : Option Mo} {kd : Int32} {m many A : Nat} {v v1 : Br} {mo mo1 : Mo} (h : Out_C cl md kd m many A v1 mo1) (hv : Br_byL v1 = Br_byL v) (hG : Gr 0 mo mo1) : Out_C cl md kd m many A v mo := by
  rcases h with ⟨rd', b', v', sy', mo', h1, h2, h3, h4, h5, h6, h7⟩ | ⟨rd', b', v', sy', mo', a', wd, ht, h1, h2, h3, h4, h5, h6, h7, h8, h9, h10, h11⟩
  · exact Or.inl ⟨rd', b', v', sy', mo', h1, h2, h3, h4, h5, h6.trans hv, Gr.trans hG h7⟩
  · exact Or.inr ⟨rd', b', v', sy', mo', a', wd, ht, h1, h2, h3, h4, h5, h6, h7, h8, h9, h10.trans hv, Gr.trans hG h11⟩
/-- the state between two symbols -/
def St_C (b : Cb) (v : Br) (sy : Sy) (mo : Mo) (m a at_ H W : Nat) (kd : Int32) (wd ht : Nat → Nat) : Prop := RcC b v mo m a ∧ Mo_why mo = -1 ∧ Sy_n sy = nI at_ ∧ Dc 40 sy mo at_ wd ht ∧ (∀ i, i < at_ → ht i < H ∨ (ht i = H ∧ wd i ≤ W)) ∧ (∀ k, k < at_ → Sy_co sy k = -1) ∧ ((kd = 0 ∧ ¬ Mo_kind mo = 1) ∨ (kd = 1 ∧ Mo_kind mo = 1))
theorem St_C.next {b b' : Cb} {v v' : Br} {sy : Sy} {mo mo' : Mo} {m a a' at_ H W : Nat} {kd : Int32} {wd ht : Nat → Nat} (h : St_C b v sy mo m a at_ H W kd wd ht) (hR : RcC b' v' mo' m a') (hT : Tm mo mo') : St_C b' v' sy mo' m a' at_ H W kd wd ht := by
  obtain ⟨h1, h2, h3, h4, h5, h6, h7⟩ := h
  obtain ⟨w1, w2, w3, w4, w5, w6, w7, w8, w9⟩ := Tm_s hT
  exact ⟨hR, w8.trans h2, h3, Dc_keep h4 (fun k _ => ⟨rfl, rfl, rfl, rfl, rfl, rfl, fun _ _ => rfl⟩) (Gr_tm hT).fm, h5, h6, by rw [w9]; exact h7⟩
theorem step_C {m at_ many H W a A : Nat} {wy0 kd : Int32} {b : Cb} {v : Br} {mo : Mo} {sy : Sy} {wd ht : Nat → Nat} {F G T : Int32 × Rd × Cb × Br × Sy → Option (Int32 × Rd × Cb × Br × Sy)} {S : Rd → Cb × Br × Sy → Option (Int32 × Rd × Cb × Br × Sy)} {rec : Rd → Cb → Br → Sy → Int32 → Option (Int32 × Rd × Cb × Br × Sy)} {rc53 : Mo → Int32 → Int32 → Option Mo}
    (hat : at_ < 40) (hm : m ≤ 3000) (hH1 : 1 ≤ H) (hH : H ≤ 16) (hW : W ≤ 16) (hS : St_C b v sy mo m a at_ H W kd wd ht) (ha : a + 1729000 < 2 ^ 30) (hF0 : ∀ rd b v sy, F (0, rd, b, v, sy) = some (0, rd, b, v, sy)) (hF1 : ∀ rd b v sy, F (1, rd, b, v, sy) = bd (f_C_Reader_takeBase rd b v sy (nI at_)) G) (hG0 : ∀ rd b v sy, G (0, rd, b, v, sy) = some (0, rd, b, v, sy)) (hG1 : ∀ rd b v sy, G (1, rd, b, v, sy) = if Rd_br rd = 0 then bd (f_C_Reader_takeSamples rd b v sy (nI at_)) (S rd) else bd (f_C_Reader_takeRuns rd b v sy (nI at_)) T) (hS0 : ∀ rd b v sy, S rd (b, v, sy) = rec rd b v sy (nI at_ + 1)) (hT0 : ∀ rd b v sy, T (0, rd, b, v, sy) = some (0, rd, b, v, sy)) (hT1 : ∀ rd b v sy, T (1, rd, b, v, sy) = rec rd b v sy (nI at_ + 1))
    (hrec : ∀ (w a' : Nat) (b' : Cb) (v' : Br) (sy' : Sy) (mo' : Mo) (wd' ht' : Nat → Nat), w ≤ 16 → a' ≤ a + 1728500 → St_C b' v' sy' mo' m a' (at_ + 1) H w kd wd' ht' → Mo_wd mo' (at_ + 40) = nI w → Out_C (rec (wy0, kd, nI H, nI w) b' v' sy' (nI (at_ + 1))) (rc53 mo' (nI (at_ + 1)) 1) kd m many A v' mo')
    (h0 : ∀ mo', ¬ Mo_why mo' < 0 → rc53 mo' (nI (at_ + 1)) 0 = some mo') :
    Out_C (bd (j_C_Reader_takeSize_37_8 sy (wy0, kd, nI H, nI W) b v) F) (j_Model_readClasses_122_29 (nI at_) (nI H) rc53 mo 1 (nI W)) kd m many A v mo := by
  obtain ⟨hR, hwy, hn, hD, hord, hco, hkd⟩ := hS
  have hmR : ∀ mo', f_Model_readSymbol mo (nI at_) (nI H) (nI W) = some mo' → ¬ Mo_why mo' < 0 → j_Model_readClasses_122_29 (nI at_) (nI H) rc53 mo 1 (nI W) = some mo' := by
    intro mo' h hw
    rw [j_Model_readClasses_122_29]
    refine Eq.trans (bd_e h) ?_
    rw [lt', nI_1, j_Model_readClasses_142_21, if_neg (show ¬ (1 : Int32) = 0 by decide), if_pos (nlt_le hw)]
    exact h0 mo' hw
  have hmY : ∀ mo', f_Model_readSymbol mo (nI at_) (nI H) (nI W) = some mo' → Mo_why mo' = -1 → j_Model_readClasses_122_29 (nI at_) (nI H) rc53 mo 1 (nI W) = rc53 mo' (nI (at_ + 1)) 1 := by
    intro mo' h hw
    rw [j_Model_readClasses_122_29]
    refine Eq.trans (bd_e h) ?_
    rw [lt', nI_1, j_Model_readClasses_142_21, if_neg (show ¬ (1 : Int32) = 0 by decide), if_neg (show ¬ (0 : Int32) ≤ Mo_why mo' by rw [hw]; decide)]
  rcases width_C (wy0 := wy0) (kd := kd) hat hH hW hn hR (by omega) hwy with ⟨wy, w', b1, v1, mo', c1, c2, c3, c4, c5, c6⟩ | ⟨w, a1, b1, v1, M, g, c1, c2, c3, c4, c5, c6, c7, c8, c9, c10, c11, c12, c13, c14⟩
  · left
    rw [← c3] at c4
    exact ⟨(wy, kd, nI H, w'), b1, v1, sy, mo', (bd_e c1).trans (hF0 _ _ _ _), hmR mo' c2 c4, c3.symm, c4, rfl, c6, c5.mono (Nat.zero_le _)⟩
  · obtain ⟨sy1, hs1⟩ : ∃ z : Sy, z = (upd (Sy_wd sy) at_ (nI w), upd (Sy_ht sy) at_ (nI H), upd (Sy_ex sy) at_ (vp_nar .boolean 0), upd (Sy_bs sy) at_ (-1), upd (Sy_dx sy) at_ 0, upd (Sy_dy sy) at_ 0, upd (Sy_co sy) at_ (-1), nI (at_ + 1), g, Sy_fc sy) := ⟨_, rfl⟩
    rw [← hs1] at c4
    have e1 : Sy_wd sy1 = upd (Sy_wd sy) at_ (nI w) := by subst hs1; rfl
    have e2 : Sy_ht sy1 = upd (Sy_ht sy) at_ (nI H) := by subst hs1; rfl
    have e3 : Sy_ex sy1 = upd (Sy_ex sy) at_ (vp_nar .boolean 0) := by subst hs1; rfl
    have e4 : Sy_bs sy1 = upd (Sy_bs sy) at_ (-1) := by subst hs1; rfl
    have e5 : Sy_dx sy1 = upd (Sy_dx sy) at_ 0 := by subst hs1; rfl
    have e6 : Sy_dy sy1 = upd (Sy_dy sy) at_ 0 := by subst hs1; rfl
    have e7 : Sy_co sy1 = upd (Sy_co sy) at_ (-1) := by subst hs1; rfl
    have e8 : Sy_n sy1 = nI (at_ + 1) := by subst hs1; rfl
    have e9 : Sy_rw sy1 = g := by subst hs1; rfl
    rcases base_C (H := H) (wy0 := wy0) (kd := kd) (xh := nI H) (xw := nI w) (sy := sy1) hat (by rw [e4]; exact pk_us) (by rw [e5]; exact pk_us) (by rw [e6]; exact pk_us) c8 (by omega) c11 with ⟨wy, b2, v2, mo', d1, d2, d3, d4, d5, d6⟩ | ⟨a2, ax, ay, b2, v2, sy2, mo2, B, Bx, d1, d2, d3, d4, d5, d6, d7, d8, d9, d10, d11, ⟨s1, s2, s3, s4, s5, s6⟩, d12, ⟨s7, s8, s9⟩, d13, d14, d15, d16, d17, d18⟩
    · left
      rw [← d3] at d4
      exact ⟨(wy, kd, nI H, nI w), b2, v2, sy1, mo', (bd_e c4).trans ((hF1 _ _ _ _).trans ((bd_e d1).trans (hG0 _ _ _ _))), hmR mo' (c7.trans d2) d4, d3.symm, d4, rfl, d6.trans c14, (Gr.trans c12 d5).mono (Nat.zero_le _)⟩
    · have hG2 : Gr at_ mo mo2 := Gr.trans c12 d10
      have hk2 : Mo_kind mo2 = Mo_kind mo := Gm_k hG2.1
      have hD2 : Dc 40 sy2 mo2 at_ wd ht := by
        refine Dc_keep hD (fun k hk => ?_) hG2.fm
        have hne : k ≠ at_ := by omega
        obtain ⟨q1, q2, q3⟩ := d12 k hne
        rw [s1, s2, s3, s4, q1, q2, q3, e1, e2, e3, e4, e5, e6, e9, pk_un hne, pk_un hne, pk_un hne, pk_un hne, pk_un hne, pk_un hne]
        exact ⟨rfl, rfl, rfl, rfl, rfl, rfl, fun y hy => c6 _ (by omega)⟩
      have f1 : Sy_wd sy2 at_ = nI w := by rw [s1, e1]; exact pk_us
      have f2 : Sy_ht sy2 at_ = nI H := by rw [s2, e2]; exact pk_us
      have f3 : Sy_ex sy2 at_ = 0 := by rw [s3, e3]; exact pk_us.trans nb0
      have hb : (Sy_bs sy2 at_ = -1 ∧ Bx = -1) ∨ ∃ b, b < at_ ∧ Sy_bs sy2 at_ = nI b ∧ Bx = nI (b + 40) := by rw [s7]; exact d4
      have hBx : (Sy_bs sy2 at_ = -1 ∧ Bx < 0) ∨ (¬ Sy_bs sy2 at_ = -1 ∧ ¬ Bx < 0) := by
        rcases hb with ⟨q1, q2⟩ | ⟨bb, q0, q1, q2⟩
        · exact Or.inl ⟨q1, by rw [q2]; decide⟩
        · exact Or.inr ⟨by rw [q1]; exact nI_m1 (by omega), by rw [q2]; exact nI_pos (by omega)⟩
      have hBB : B = -1 ∨ ∃ b, b < at_ ∧ B = nI b ∧ (ht b < H ∨ (ht b = H ∧ wd b ≤ w)) := by
        rcases d4 with ⟨q1, -⟩ | ⟨bb, q0, q1, -⟩
        · exact Or.inl q1
        · exact Or.inr ⟨bb, q0, q1, by have := hord bb q0; omega⟩
      obtain ⟨F2, F3, F4, F5⟩ := fore_rd (o := 40) (B := Bx) hD2 (by decide) hat c3 f1 hb d1 d2 s8 d17 s9 d18
      have hcl : bd (j_C_Reader_takeSize_37_8 sy (wy0, kd, nI H, nI W) b v) F = if kd = 0 then bd (f_C_Reader_takeSamples (wy0, kd, nI H, nI w) b2 v2 sy2 (nI at_)) (S (wy0, kd, nI H, nI w)) else bd (f_C_Reader_takeRuns (wy0, kd, nI H, nI w) b2 v2 sy2 (nI at_)) T := (bd_e c4).trans ((hF1 _ _ _ _).trans ((bd_e d3).trans (hG1 _ _ _ _)))
      have hmd : ∀ mo', f_Model_readPlane mo2 (nI (at_ + 40)) Bx = some mo' → f_Model_readSymbol mo (nI at_) (nI H) (nI W) = some mo' := fun mo' h => c7.trans (d5.trans (bd_e h))
      have hfin : ∀ (V : Nat → Nat) (a3 : Nat) (b3 : Cb) (v3 : Br) (g3 f3 pl : Nat → Int32) (mo3 : Mo), bd (j_C_Reader_takeSize_37_8 sy (wy0, kd, nI H, nI W) b v) F = rec (wy0, kd, nI H, nI w) b3 v3 (Sy_s_rw sy2 g3) (nI at_ + 1) → f_Model_readPlane mo2 (nI (at_ + 40)) Bx = some mo3 → RcC b3 v3 mo3 m a3 → (∀ y, y < H → V y < 2 ^ w ∧ g3 (16 * at_ + y) = nI (V y ^^^ F2 y) ∧ f3 (16 * (at_ + 40) + y) = nI (V y ^^^ F2 y)) → (∀ y, H ≤ y → y < 16 → f3 (16 * (at_ + 40) + y) = 0) → (∀ j, j < 16 * at_ → g3 j = Sy_rw sy2 j) → (∀ j, j < 16 * (at_ + 40) → f3 j = Mo_rw mo2 j) → a3 ≤ a2 + 1728072 → Tm (Mo_s_rw (Mo_s_pl mo2 pl) f3) mo3 → Br_byL v3 = Br_byL v2 → Out_C (bd (j_C_Reader_takeSize_37_8 sy (wy0, kd, nI H, nI W) b v) F) (j_Model_readClasses_122_29 (nI at_) (nI H) rc53 mo 1 (nI W)) kd m many A v mo := by
        intro V a3 b3 v3 g3 fm3 pl mo3 x1 x2 x3 x4 x5 x6 x7 x8 x9 x10
        obtain ⟨y1, y2, y3, y4⟩ := sym_done hat c2 c3 hH1 hH d1 d2 hD2 f1 f2 f3 s7 s8 s9 (d13.trans c13) d14 d15 d16 d17 d18 hBB x4 F3 x5 x6 x7 x9
        have hG3 : Gr at_ mo mo3 := Gr.trans hG2 y2
        have hw3 : Mo_why mo3 = -1 := y3.trans d9
        rw [x1, hmY mo3 (hmd mo3 x2) hw3, nI_1]
        refine Out_C.of (hrec w a3 b3 v3 (Sy_s_rw sy2 g3) mo3 _ _ c3 (by omega) ⟨x3, hw3, s6.trans e8, y1, fun i hi => ?_, fun k hk => ?_, by rw [Gm_k hG3.1]; exact hkd⟩ y4) (x10.trans (d11.trans c14)) (hG3.mono (Nat.zero_le _))
        · by_cases e : i = at_
          · subst e; rw [ins_s, ins_s]; omega
          · rw [ins_n wd w e, ins_n ht H e]
            have := hord i (by omega)
            omega
        · show Sy_co sy2 k = -1
          rw [s5, e7]
          by_cases e : k = at_
          · subst e; exact pk_us
          · rw [pk_un e]; exact hco k (by omega)
      rcases hkd with ⟨k0, k1⟩ | ⟨k0, k1⟩
      · obtain ⟨V, a3, b3, v3, g3, f3, pl, mo3, x1, x2, x3, x4, x5, x6, x7, -, x8, x9, x10⟩ := readSamples_C (rd := (wy0, kd, nI H, nI w)) (F := F2) (n := at_) hat (Nat.le_refl _) c2 c3 hH1 hH f1 f2 (d13.trans c13) d14 (by rw [hk2]; exact k1) hBx F3 F4 F5 d6 (by omega)
        exact hfin V a3 b3 v3 g3 f3 pl mo3 (hcl.trans ((if_pos k0).trans ((bd_e x1).trans (hS0 _ _ _ _)))) x2 x3 x4 x5 x6 x7 (by omega) x9 x10
      · exact absurd (hR.1.1.symm.trans k1) (by decide)
theorem height_C {m many at_ H a f : Nat} {wy0 kd w0 : Int32} {b : Cb} {v : Br} {mo : Mo} {k171 k175 : Mo → Option Mo} (hat : at_ < many) (h40 : many ≤ 40) (hH : H ≤ 16) (hR : RcC b v mo m a) (ha : a + 100 < 2 ^ 30) (hwy : Mo_why mo = -1) :
    (∃ (wy h' w' : Int32) (b' : Cb) (v' : Br) (mo' : Mo), f_C_Reader_takeHeight (wy0, kd, nI H, w0) b v = some (0, (wy, kd, h', w'), b', v') ∧ l_Model_readClasses_4 (nI many) k171 k175 (f + 1) mo (nI at_) (nI H) = k171 mo' ∧ Mo_why mo' = wy ∧ ¬ wy < 0 ∧ Fp mo mo' ∧ Br_byL v' = Br_byL v) ∨
    ∃ (H' a' : Nat) (b' : Cb) (v' : Br) (mo' : Mo), H < H' ∧ H' ≤ 16 ∧ f_C_Reader_takeHeight (wy0, kd, nI H, w0) b v = some (1, (wy0, kd, nI H', nI 0), b', v') ∧ l_Model_readClasses_4 (nI many) k171 k175 (f + 1) mo (nI at_) (nI H) = j_Model_readClasses_122_29 (nI at_) (nI H') (l_Model_readClasses_53 (nI many) (nI H') (nI at_) (fun mo_41 x2_42 => (if (Mo_why mo_41) < 0 then l_Model_readClasses_4 (nI many) k171 k175 f mo_41 x2_42 (nI H') else k171 mo_41)) 99999) mo' 1 (nI 0) ∧ RcC b' v' mo' m a' ∧ a ≤ a' ∧ a' ≤ a + 76 ∧ Tm mo mo' ∧ Br_byL v' = Br_byL v := by
  obtain ⟨a1, b1, v1, mo1, t1, t2, t3, t4, t5, t6⟩ := takeNum_C hR (by omega)
  have hw1 : Mo_why mo1 = -1 := (Tm_w t4).1.trans hwy
  have hnle : ¬ nI many ≤ nI at_ := nI_ge hat (by omega)
  have hno : ∀ (x3 : Int32) (N : Mo), ¬ Mo_why N < 0 → j_Model_readClasses_36_8 (nI many) (nI at_) (l_Model_readClasses_4 (nI many) k171 k175 f) k171 x3 N = k171 N := by
    intro x3 N hN
    rw [j_Model_readClasses_36_8, if_pos (nlt_le hN), j_Model_readClasses_51_10, l_Model_readClasses_53, if_pos rfl, if_neg hN]
  rcases t6 with ⟨u1, u2⟩ | ⟨x, hx, u1, u2, -⟩
  · left
    obtain ⟨N, hN⟩ : ∃ z, z = Mo_s_why mo1 7 := ⟨_, rfl⟩
    rw [← hN] at u2
    have N1 : Mo_why N = 7 := by subst hN; exact wz mo1 7
    have N2 : Fp mo1 N := by subst hN; exact Fp_w mo1 7
    refine ⟨7, nI H, w0, b1, v1, N, ?_, ?_, N1, by decide, Fp.trans (Fp.of t4) N2, t5⟩
    · rw [f_C_Reader_takeHeight]
      refine Eq.trans (bd_e u1) ?_
      rfl
    · rw [l_Model_readClasses_4, if_neg hnle]
      refine Eq.trans (bd_e u2) ?_
      change lt' _ _ = _
      rw [lt']
      refine Eq.trans (if_pos (show (0 : Int32) ≤ Mo_why N by rw [N1]; decide)) ?_
      exact hno _ N (by rw [N1]; decide)
  · have hh : nI H + (nI x + 1) = nI (H + x + 1) := by rw [nI_1, nI_add, Nat.add_assoc]
    have hrd : Rd_s_h (wy0, kd, nI H, w0) (Rd_h (wy0, kd, nI H, w0) + (nI x + 1)) = (wy0, kd, nI (H + x + 1), w0) := congrArg (fun z => (wy0, kd, z, w0)) hh
    have hw0 : ¬ (0 : Int32) ≤ Mo_why mo1 := by rw [hw1]; decide
    rcases (Decidable.em (H + x + 1 ≤ 16)).symm with e1 | e1
    · left
      obtain ⟨N, hN⟩ : ∃ z, z = Mo_s_why mo1 1 := ⟨_, rfl⟩
      have N1 : Mo_why N = 1 := by subst hN; exact wz mo1 1
      have N2 : Fp mo1 N := by subst hN; exact Fp_w mo1 1
      have h16 : ¬ nI (H + x + 1) ≤ 16 := nI_ge (a := 16) (by omega) (by omega)
      refine ⟨1, nI (H + x + 1), w0, b1, v1, N, ?_, ?_, N1, by decide, Fp.trans (Fp.of t4) N2, t5⟩
      · rw [f_C_Reader_takeHeight]
        refine Eq.trans (bd_e u1) ?_
        refine Eq.trans (if_neg (nI_m1 (by omega))) ?_
        rw [lt', hrd]
        refine Eq.trans (if_neg h16) ?_
        rfl
      · rw [l_Model_readClasses_4, if_neg hnle]
        refine Eq.trans (bd_e u2) ?_
        change lt' _ _ = _
        rw [lt', hh]
        refine Eq.trans (if_neg hw0) ?_
        refine Eq.trans (if_neg h16) ?_
        rw [lt', ← hN]
        exact hno _ N (by rw [N1]; decide)
    · have h16 : nI (H + x + 1) ≤ 16 := nI_le (b := 16) e1 (by decide)
      obtain ⟨r, b2, v2, mo2, a2, r1, r2, r3, r4, r5, r6, r7, r8⟩ := bit_C t1 (by omega)
      have hw2 : Mo_why mo2 = -1 := (Tm_w r5).1.trans hw1
      have hne : ¬ nI at_ = nI many := by rw [nI_eq (by omega) (by omega)]; omega
      have hmo : ∀ y, (if r = 1 then j_Model_readClasses_73_17 (nI many) (nI at_) (nI (H + x + 1)) (nI at_) (l_Model_readClasses_53 (nI many) (nI (H + x + 1)) (nI at_) (fun mo_41 x2_42 => (if (Mo_why mo_41) < 0 then l_Model_readClasses_4 (nI many) k171 k175 f mo_41 x2_42 (nI (H + x + 1)) else k171 mo_41)) 99999) mo2 1 else j_Model_readClasses_73_17 (nI many) (nI at_) (nI (H + x + 1)) (nI at_) (l_Model_readClasses_53 (nI many) (nI (H + x + 1)) (nI at_) (fun mo_41 x2_42 => (if (Mo_why mo_41) < 0 then l_Model_readClasses_4 (nI many) k171 k175 f mo_41 x2_42 (nI (H + x + 1)) else k171 mo_41)) 99999) mo2 0) = y → l_Model_readClasses_4 (nI many) k171 k175 (f + 1) mo (nI at_) (nI H) = y := by
        intro y hy
        rw [l_Model_readClasses_4, if_neg hnle]
        refine Eq.trans (bd_e u2) ?_
        change lt' _ _ = _
        rw [lt', hh]
        refine Eq.trans (if_neg hw0) ?_
        refine Eq.trans (if_pos h16) ?_
        rw [j_Model_readClasses_36_8, if_neg hw0, j_Model_readClasses_51_10, l_Model_readClasses_53, if_neg (show ¬ (1 : Int32) = 0 by decide)]
        refine Eq.trans (bd_e r2) ?_
        exact hy
      rcases r4 with rfl | rfl
      · left
        obtain ⟨N, hN⟩ : ∃ z, z = Mo_s_why mo2 1 := ⟨_, rfl⟩
        have N1 : Mo_why N = 1 := by subst hN; exact wz mo2 1
        have N2 : Fp mo2 N := by subst hN; exact Fp_w mo2 1
        refine ⟨1, nI (H + x + 1), 0, b2, v2, N, ?_, hmo _ ?_, N1, by decide, Fp.trans (Fp.of t4) (Fp.trans (Fp.of r5) N2), r6.trans t5⟩
        · rw [f_C_Reader_takeHeight]
          refine Eq.trans (bd_e u1) ?_
          refine Eq.trans (if_neg (nI_m1 (by omega))) ?_
          rw [lt', hrd]
          refine Eq.trans (if_pos h16) ?_
          rw [lt']
          refine Eq.trans (bd_e r1) ?_
          rfl
        · refine Eq.trans (if_neg (show ¬ (0 : Int32) = 1 by decide)) ?_
          rw [j_Model_readClasses_73_17, if_pos rfl, j_Model_readClasses_93_18, if_pos rfl, if_pos rfl, lt', ← hN, j_Model_readClasses_142_21, if_pos rfl, l_Model_readClasses_53, if_pos rfl]
          exact if_neg (show ¬ Mo_why N < 0 by rw [N1]; decide)
      · right
        refine ⟨H + x + 1, a2, b2, v2, mo2, by omega, e1, ?_, hmo _ ?_, r3, by omega, by omega, Tm.trans t4 r5, r6.trans t5⟩
        · rw [f_C_Reader_takeHeight]
          refine Eq.trans (bd_e u1) ?_
          refine Eq.trans (if_neg (nI_m1 (by omega))) ?_
          rw [lt', hrd]
          refine Eq.trans (if_pos h16) ?_
          rw [lt']
          refine Eq.trans (bd_e r1) ?_
          rfl
        · refine Eq.trans (if_pos rfl) ?_
          rw [j_Model_readClasses_73_17, if_neg (show ¬ (1 : Int32) = 0 by decide), if_neg hne, j_Model_readClasses_93_18, if_neg (show ¬ (1 : Int32) = 0 by decide), if_pos rfl]
          rfl
theorem newclass_C {m at_ many H W a A f : Nat} {wy0 kd w0 : Int32} {b : Cb} {v : Br} {mo : Mo} {sy : Sy} {wd ht : Nat → Nat} {F G T : Int32 × Rd × Cb × Br × Sy → Option (Int32 × Rd × Cb × Br × Sy)} {S : Rd → Cb × Br × Sy → Option (Int32 × Rd × Cb × Br × Sy)} {rec : Rd → Cb → Br → Sy → Int32 → Option (Int32 × Rd × Cb × Br × Sy)} {k171 k175 : Mo → Option Mo}
    (hat : at_ < many) (h40 : many ≤ 40) (hm : m ≤ 3000) (hH : H ≤ 16) (hS : St_C b v sy mo m a at_ H W kd wd ht) (ha : a + 1730000 < 2 ^ 30) (h171 : ∀ mo, k171 mo = some mo) (hF0 : ∀ rd b v sy, F (0, rd, b, v, sy) = some (0, rd, b, v, sy)) (hF1 : ∀ rd b v sy, F (1, rd, b, v, sy) = bd (f_C_Reader_takeBase rd b v sy (nI at_)) G) (hG0 : ∀ rd b v sy, G (0, rd, b, v, sy) = some (0, rd, b, v, sy)) (hG1 : ∀ rd b v sy, G (1, rd, b, v, sy) = if Rd_br rd = 0 then bd (f_C_Reader_takeSamples rd b v sy (nI at_)) (S rd) else bd (f_C_Reader_takeRuns rd b v sy (nI at_)) T) (hS0 : ∀ rd b v sy, S rd (b, v, sy) = rec rd b v sy (nI at_ + 1)) (hT0 : ∀ rd b v sy, T (0, rd, b, v, sy) = some (0, rd, b, v, sy)) (hT1 : ∀ rd b v sy, T (1, rd, b, v, sy) = rec rd b v sy (nI at_ + 1))
    (hrec : ∀ (H' w a' : Nat) (b' : Cb) (v' : Br) (sy' : Sy) (mo' : Mo) (wd' ht' : Nat → Nat), 1 ≤ H' → H' ≤ 16 → w ≤ 16 → a' ≤ a + 1728600 → St_C b' v' sy' mo' m a' (at_ + 1) H' w kd wd' ht' → Mo_wd mo' (at_ + 40) = nI w → Out_C (rec (wy0, kd, nI H', nI w) b' v' sy' (nI (at_ + 1))) (l_Model_readClasses_53 (nI many) (nI H') (nI at_) (fun mo_41 x2_42 => (if (Mo_why mo_41) < 0 then l_Model_readClasses_4 (nI many) k171 k175 f mo_41 x2_42 (nI H') else k171 mo_41)) 99999 mo' (nI (at_ + 1)) 1) kd m many A v' mo') :
    Out_C (bd (j_C_Reader_takeSize_23_4 (wy0, kd, nI H, w0) sy b v 1) F) (l_Model_readClasses_4 (nI many) k171 k175 (f + 1) mo (nI at_) (nI H)) kd m many A v mo := by
  rcases height_C (wy0 := wy0) (kd := kd) (w0 := w0) (k171 := k171) (k175 := k175) (f := f) hat h40 hH hS.1 (by omega) hS.2.1 with ⟨wy, h', w', b1, v1, mo1, c1, c2, c3, c4, c5, c6⟩ | ⟨H', a1, b1, v1, mo1, c1, c2, c3, c4, c5, c6, c7, c8, c9⟩
  · left
    rw [← c3] at c4
    refine ⟨(wy, kd, h', w'), b1, v1, sy, mo1, Eq.trans (bd_e ?_) (hF0 _ _ _ _), c2.trans (h171 mo1), c3.symm, c4, rfl, c6, Gr_fp c5⟩
    rw [j_C_Reader_takeSize_23_4]
    refine Eq.trans (if_neg (show ¬ (1 : Int32) = 0 by decide)) ?_
    refine Eq.trans (bd_e c1) ?_
    rfl
  · have hj : j_C_Reader_takeSize_23_4 (wy0, kd, nI H, w0) sy b v 1 = j_C_Reader_takeSize_37_8 sy (wy0, kd, nI H', nI 0) b1 v1 := by
      rw [j_C_Reader_takeSize_23_4]
      refine Eq.trans (if_neg (show ¬ (1 : Int32) = 0 by decide)) ?_
      refine Eq.trans (bd_e c3) ?_
      rfl
    rw [hj, c4]
    obtain ⟨h1, h2, h3, h4, h5, h6, h7⟩ := St_C.next hS c5 c8
    refine Out_C.of (step_C (wd := wd) (ht := ht) (by omega) hm (by omega) c2 (by decide) ⟨h1, h2, h3, h4, fun i hi => ?_, h6, h7⟩ (by omega) hF0 hF1 hG0 hG1 hS0 hT0 hT1 (fun w a' b' v' sy' mo' wd' ht' q1 q2 q3 q4 => hrec H' w a' b' v' sy' mo' wd' ht' (by omega) c2 q1 (by omega) q3 q4) (fun mo' hw => ?_)) c9 (Gr_tm c8)
    · have := h5 i hi
      omega
    · rw [l_Model_readClasses_53, if_pos rfl, if_neg hw]
      exact h171 mo'
theorem body_C {x2 : Int32} {k73 k100 k108 : Rd → Cb → Br → Sy → Option (Int32 × Rd × Cb × Br × Sy)} {n at_ : Nat} {rd : Rd} {b : Cb} {v : Br} {sy : Sy} (hk73 : ∀ rd b v sy, k73 rd b v sy = some (0, rd, b, v, sy)) (hk100 : ∀ rd b v sy, k100 rd b v sy = some (0, rd, b, v, sy)) (h : ¬ x2 ≤ nI at_) :
    ∃ (F G T : Int32 × Rd × Cb × Br × Sy → Option (Int32 × Rd × Cb × Br × Sy)) (S : Rd → Cb × Br × Sy → Option (Int32 × Rd × Cb × Br × Sy)), l_C_Reader_takeSymbols_51 x2 k73 k100 k108 (n + 1) rd b v sy (nI at_) = bd (f_C_Reader_takeSize rd b v sy) F ∧ (∀ rd b v sy, F (0, rd, b, v, sy) = some (0, rd, b, v, sy)) ∧ (∀ rd b v sy, F (1, rd, b, v, sy) = bd (f_C_Reader_takeBase rd b v sy (nI at_)) G) ∧ (∀ rd b v sy, G (0, rd, b, v, sy) = some (0, rd, b, v, sy)) ∧ (∀ rd b v sy, G (1, rd, b, v, sy) = if Rd_br rd = 0 then bd (f_C_Reader_takeSamples rd b v sy (nI at_)) (S rd) else bd (f_C_Reader_takeRuns rd b v sy (nI at_)) T) ∧ (∀ rd b v sy, S rd (b, v, sy) = l_C_Reader_takeSymbols_51 x2 k73 k100 k108 n rd b v sy (nI at_ + 1)) ∧ (∀ rd b v sy, T (0, rd, b, v, sy) = some (0, rd, b, v, sy)) ∧ (∀ rd b v sy, T (1, rd, b, v, sy) = l_C_Reader_takeSymbols_51 x2 k73 k100 k108 n rd b v sy (nI at_ + 1)) := by
  rw [l_C_Reader_takeSymbols_51, if_neg h]
  exact ⟨_, _, _, _, rfl, fun rd b v sy => (if_pos rfl).trans (hk73 rd b v sy), fun _ _ _ _ => if_neg (show ¬ (1 : Int32) = 0 by decide), fun rd b v sy => (if_pos rfl).trans (hk73 rd b v sy), fun _ _ _ _ => if_neg (show ¬ (1 : Int32) = 0 by decide), fun _ _ _ _ => rfl, fun rd b v sy => (if_pos rfl).trans (hk100 rd b v sy), fun _ _ _ _ => if_neg (show ¬ (1 : Int32) = 0 by decide)⟩
theorem loop_C {m many A a0 : Nat} {kd : Int32} {k73 k100 k108 : Rd → Cb → Br → Sy → Option (Int32 × Rd × Cb × Br × Sy)} {k171 k175 : Mo → Option Mo} (h40 : many ≤ 40) (hm : m ≤ 3000) (hA : a0 + 41 * 1729000 ≤ A) (hA2 : A + 2000000 < 2 ^ 30) (hk73 : ∀ rd b v sy, k73 rd b v sy = some (0, rd, b, v, sy)) (hk100 : ∀ rd b v sy, k100 rd b v sy = some (0, rd, b, v, sy))
    (hk0 : ∀ rd b v sy b' v', f_C_ChanceBits_takeBit b v (-1) = some (0, b', v') → k108 rd b v sy = some (1, rd, b', v', sy)) (hk1 : ∀ rd b v sy b' v', f_C_ChanceBits_takeBit b v (-1) = some (1, b', v') → k108 rd b v sy = some (0, Rd_s_wy rd 0, b', v', sy)) (h171 : ∀ mo, k171 mo = some mo) (h175 : ∀ mo, k175 mo = some mo) :
    ∀ (d at_ first H W a f1 f2 f4 : Nat) (wy0 : Int32) (b : Cb) (v : Br) (sy : Sy) (mo : Mo) (wd ht : Nat → Nat), at_ + d = many → first < at_ → 1 ≤ H → H ≤ 16 → W ≤ 16 → d < f1 → d + 2 ≤ f2 → f2 ≤ 99999 → d < f4 → d + 3 ≤ 99999 → St_C b v sy mo m a at_ H W kd wd ht → Mo_wd mo (at_ + 39) = nI W → a ≤ a0 + at_ * 1729000 →
      Out_C (l_C_Reader_takeSymbols_51 (nI many) k73 k100 k108 f1 (wy0, kd, nI H, nI W) b v sy (nI at_)) (l_Model_readClasses_53 (nI many) (nI H) (nI first) (fun mo_41 x2_42 => (if (Mo_why mo_41) < 0 then l_Model_readClasses_4 (nI many) k171 k175 f4 mo_41 x2_42 (nI H) else k171 mo_41)) f2 mo (nI at_) 1) kd m many A v mo := by
  intro d
  induction d with
  | zero =>
    intro at_ first H W a f1 f2 f4 wy0 b v sy mo wd ht hd hfi hH1 hH hW hf1 hf2 _ hf4 _ hS hMw ha
    have e : at_ = many := by omega
    subst e
    obtain ⟨f1, rfl⟩ : ∃ f, f1 = f + 1 := ⟨f1 - 1, by omega⟩
    obtain ⟨f2, rfl⟩ : ∃ f, f2 = f + 1 + 1 := ⟨f2 - 2, by omega⟩
    obtain ⟨f4, rfl⟩ : ∃ f, f4 = f + 1 := ⟨f4 - 1, by omega⟩
    obtain ⟨hR, hwy, hn, hD, hord, hco, hkd⟩ := hS
    obtain ⟨r, b1, v1, mo1, a1, r1, r2, r3, r4, r5, r6, r7, r8⟩ := bit_C hR (by omega)
    have hw1 : Mo_why mo1 = -1 := (Tm_w r5).1.trans hwy
    have hw1' : Mo_why mo1 < 0 := by rw [hw1]; decide
    have hnf : ¬ nI at_ = nI first := by rw [nI_eq (by omega) (by omega)]; omega
    have hle : nI at_ ≤ nI at_ := nI_le (Nat.le_refl _) (by omega)
    rcases r4 with rfl | rfl
    · right
      refine ⟨(wy0, kd, nI H, nI W), b1, v1, sy, mo1, a1, wd, ht, ?_, ?_, r3, by omega, hw1, hn, Dc_keep hD (fun k _ => ⟨rfl, rfl, rfl, rfl, rfl, rfl, fun _ _ => rfl⟩) (Gr_tm r5).fm, hco, rfl, r6, Gr_tm r5⟩
      · rw [l_C_Reader_takeSymbols_51, if_pos hle]
        exact hk0 _ _ _ _ _ _ r1
      · rw [l_Model_readClasses_53, if_neg (show ¬ (1 : Int32) = 0 by decide)]
        refine Eq.trans (bd_e r2) ?_
        refine Eq.trans (if_neg (show ¬ (0 : Int32) = 1 by decide)) ?_
        rw [j_Model_readClasses_73_17, if_pos rfl, j_Model_readClasses_93_18, if_pos rfl, if_neg hnf, j_Model_readClasses_142_21, if_pos rfl, l_Model_readClasses_53, if_pos rfl, if_pos hw1', l_Model_readClasses_4, if_pos hle]
        exact h175 mo1
    · left
      obtain ⟨N, hN⟩ : ∃ z, z = Mo_s_why mo1 0 := ⟨_, rfl⟩
      have N1 : Mo_why N = 0 := by subst hN; exact wz mo1 0
      have N2 : Fp mo1 N := by subst hN; exact Fp_w mo1 0
      have N3 : ¬ Mo_why N < 0 := by rw [N1]; decide
      refine ⟨Rd_s_wy (wy0, kd, nI H, nI W) 0, b1, v1, sy, N, ?_, ?_, N1.symm, N3, rfl, r6, Gr_fp (Fp.trans (Fp.of r5) N2)⟩
      · rw [l_C_Reader_takeSymbols_51, if_pos hle]
        exact hk1 _ _ _ _ _ _ r1
      · rw [l_Model_readClasses_53, if_neg (show ¬ (1 : Int32) = 0 by decide)]
        refine Eq.trans (bd_e r2) ?_
        refine Eq.trans (if_pos rfl) ?_
        rw [j_Model_readClasses_73_17, if_neg (show ¬ (1 : Int32) = 0 by decide), if_pos rfl, lt', if_neg (show ¬ (1 : Int32) = 0 by decide), ← hN, if_pos (nlt_le N3), l_Model_readClasses_53, if_pos rfl, if_neg N3]
        exact h171 N
  | succ d ih =>
    intro at_ first H W a f1 f2 f4 wy0 b v sy mo wd ht hd hfi hH1 hH hW hf1 hf2 hf9 hf4 hd9 hS hMw ha
    obtain ⟨f1, rfl⟩ : ∃ f, f1 = f + 1 := ⟨f1 - 1, by omega⟩
    obtain ⟨f2, rfl⟩ : ∃ f, f2 = f + 1 + 1 := ⟨f2 - 2, by omega⟩
    obtain ⟨f4, rfl⟩ : ∃ f, f4 = f + 1 := ⟨f4 - 1, by omega⟩
    have h4 : at_ < 40 := by omega
    have hmul : at_ * 1729000 ≤ 39 * 1729000 := Nat.mul_le_mul_right _ (by omega)
    have hmul2 : (at_ + 1) * 1729000 = at_ * 1729000 + 1729000 := Nat.succ_mul _ _
    have hnle : ¬ nI many ≤ nI at_ := nI_ge (by omega) (by omega)
    have hne : ¬ nI at_ = nI many := by rw [nI_eq (by omega) (by omega)]; omega
    have hnf : ¬ nI at_ = nI first := by rw [nI_eq (by omega) (by omega)]; omega
    obtain ⟨r, b1, v1, mo1, a1, r1, r2, r3, r4, r5, r6, r7, r8⟩ := bit_C hS.1 (by omega)
    have hS1 := St_C.next hS r3 r5
    have hw1' : Mo_why mo1 < 0 := by rw [hS1.2.1]; decide
    obtain ⟨F, G, T, S, hC, hF0, hF1, hG0, hG1, hS0, hT0, hT1⟩ := body_C (k108 := k108) (n := f1) (rd := (wy0, kd, nI H, nI W)) (b := b) (v := v) (sy := sy) hk73 hk100 hnle
    rw [hC]
    have hn0 : ¬ Sy_n sy = 0 := by rw [hS.2.2.1]; exact nI_ne0 (by omega) (by omega)
    rcases r4 with rfl | rfl
    · have hts : f_C_Reader_takeSize (wy0, kd, nI H, nI W) b v sy = j_C_Reader_takeSize_23_4 (wy0, kd, nI H, nI W) sy b1 v1 1 := by
        rw [f_C_Reader_takeSize, if_neg hn0]
        refine Eq.trans (bd_e r1) ?_
        exact if_pos rfl
      have hmd : l_Model_readClasses_53 (nI many) (nI H) (nI first) (fun mo_41 x2_42 => (if (Mo_why mo_41) < 0 then l_Model_readClasses_4 (nI many) k171 k175 (f4 + 1) mo_41 x2_42 (nI H) else k171 mo_41)) (f2 + 1 + 1) mo (nI at_) 1 = l_Model_readClasses_4 (nI many) k171 k175 (f4 + 1) mo1 (nI at_) (nI H) := by
        rw [l_Model_readClasses_53, if_neg (show ¬ (1 : Int32) = 0 by decide)]
        refine Eq.trans (bd_e r2) ?_
        refine Eq.trans (if_neg (show ¬ (0 : Int32) = 1 by decide)) ?_
        rw [j_Model_readClasses_73_17, if_pos rfl, j_Model_readClasses_93_18, if_pos rfl, if_neg hnf, j_Model_readClasses_142_21, if_pos rfl, l_Model_readClasses_53, if_pos rfl, if_pos hw1']
      rw [hts, hmd]
      refine Out_C.of (newclass_C (by omega) h40 hm hH hS1 (by omega) h171 hF0 hF1 hG0 hG1 hS0 hT0 hT1 (fun H' w a' b' v' sy' mo' wd' ht' q1 q2 q3 q4 q5 q6 => ?_)) r6 (Gr_tm r5)
      exact ih (at_ + 1) at_ H' w a' f1 99999 f4 wy0 b' v' sy' mo' wd' ht' (by omega) (by omega) q1 q2 q3 (by omega) (by omega) (by omega) (by omega) (by omega) q5 q6 (by omega)
    · have hts : f_C_Reader_takeSize (wy0, kd, nI H, nI W) b v sy = j_C_Reader_takeSize_37_8 sy (wy0, kd, nI H, nI W) b1 v1 := by
        rw [f_C_Reader_takeSize, if_neg hn0]
        refine Eq.trans (bd_e r1) ?_
        refine Eq.trans (if_neg (show ¬ (1 : Int32) = 0 by decide)) ?_
        rw [j_C_Reader_takeSize_23_4]
        exact if_pos rfl
      have hix : (40 + nI at_) - 1 = nI (at_ + 39) := by
        rw [show (40 : Int32) = nI 40 from rfl, nI_add, show (1 : Int32) = nI 1 from rfl, pk_sub (by omega)]
        exact congrArg nI (by omega)
      have hmd : l_Model_readClasses_53 (nI many) (nI H) (nI first) (fun mo_41 x2_42 => (if (Mo_why mo_41) < 0 then l_Model_readClasses_4 (nI many) k171 k175 (f4 + 1) mo_41 x2_42 (nI H) else k171 mo_41)) (f2 + 1 + 1) mo (nI at_) 1 = j_Model_readClasses_122_29 (nI at_) (nI H) (l_Model_readClasses_53 (nI many) (nI H) (nI first) (fun mo_41 x2_42 => (if (Mo_why mo_41) < 0 then l_Model_readClasses_4 (nI many) k171 k175 (f4 + 1) mo_41 x2_42 (nI H) else k171 mo_41)) (f2 + 1)) mo1 1 (nI W) := by
        rw [l_Model_readClasses_53, if_neg (show ¬ (1 : Int32) = 0 by decide)]
        refine Eq.trans (bd_e r2) ?_
        refine Eq.trans (if_pos rfl) ?_
        rw [j_Model_readClasses_73_17, if_neg (show ¬ (1 : Int32) = 0 by decide), if_neg hne, j_Model_readClasses_93_18, if_neg (show ¬ (1 : Int32) = 0 by decide), if_neg hnf, hix, gd_in (show at_ + 39 < 80 by omega) (by decide), nI_clamp (show at_ + 39 < 2 ^ 31 by omega), (Tm_s r5).1, hMw]
      rw [hts, hmd]
      refine Out_C.of (step_C h4 hm hH1 hH hW hS1 (by omega) hF0 hF1 hG0 hG1 hS0 hT0 hT1 (fun w a' b' v' sy' mo' wd' ht' q1 q2 q3 q4 => ?_) (fun mo' hw => ?_)) r6 (Gr_tm r5)
      · exact ih (at_ + 1) first H w a' f1 (f2 + 1) (f4 + 1) wy0 b' v' sy' mo' wd' ht' (by omega) (by omega) hH1 hH q1 (by omega) (by omega) (by omega) (by omega) (by omega) q3 q4 (by omega)
      · rw [l_Model_readClasses_53, if_pos rfl, if_neg hw]
        exact h171 mo'
