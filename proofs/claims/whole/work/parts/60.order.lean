/-! THE ORDER of symbols, as numbers: how many come before one. -/
/-- by height, then width, then number -/
def bef (wd ht : Nat → Nat) (a b : Nat) : Bool := decide (ht a < ht b ∨ (ht a = ht b ∧ (wd a < wd b ∨ (wd a = wd b ∧ a < b))))
/-- how many of the first n have P -/
def cnt (P : Nat → Bool) : Nat → Nat
  | 0 => 0
  | n + 1 => cnt P n + (if P n = true then 1 else 0)
theorem cnt_le (P : Nat → Bool) (n : Nat) : cnt P n ≤ n := by
  induction n with
  | zero => exact Nat.le_refl 0
  | succ n ih => rw [cnt]; split <;> omega
theorem cnt_sub {P Q : Nat → Bool} {n : Nat} (h : ∀ j, j < n → P j = true → Q j = true) : cnt P n ≤ cnt Q n := by
  induction n with
  | zero => exact Nat.le_refl 0
  | succ n ih =>
    have h1 := ih (fun j hj => h j (by omega))
    have h2 := h n (by omega)
    rw [cnt, cnt]
    by_cases hp : P n = true
    · rw [if_pos hp, if_pos (h2 hp)]; omega
    · rw [if_neg hp]; omega
theorem cnt_lt {P Q : Nat → Bool} {n k : Nat} (h : ∀ j, j < n → P j = true → Q j = true) (hk : k < n) (h1 : P k = false) (h2 : Q k = true) : cnt P n < cnt Q n := by
  induction n with
  | zero => omega
  | succ n ih =>
    rw [cnt, cnt]
    by_cases e : k = n
    · subst e
      have := cnt_sub (P := P) (Q := Q) (n := k) (fun j hj => h j (by omega))
      rw [h1, h2]; simp; omega
    · have h3 := ih (fun j hj => h j (by omega)) (by omega)
      have h4 := h n (by omega)
      by_cases hp : P n = true
      · rw [if_pos hp, if_pos (h4 hp)]; omega
      · rw [if_neg hp]; omega
theorem cnt_lt_n {P : Nat → Bool} {n k : Nat} (hk : k < n) (h1 : P k = false) : cnt P n < n := by
  have h := cnt_lt (P := P) (Q := fun _ => true) (fun _ _ _ => rfl) hk h1 rfl
  have h2 := cnt_le (fun _ => true) n
  omega
theorem cnt_congr {P Q : Nat → Bool} {n : Nat} (h : ∀ j, j < n → P j = Q j) : cnt P n = cnt Q n := by
  induction n with
  | zero => rfl
  | succ n ih => rw [cnt, cnt, ih (fun j hj => h j (by omega)), h n (by omega)]
theorem bef_irrefl (wd ht : Nat → Nat) (a : Nat) : bef wd ht a a = false := by simp [bef]
theorem bef_trans {wd ht : Nat → Nat} {a b c : Nat} (h1 : bef wd ht a b = true) (h2 : bef wd ht b c = true) : bef wd ht a c = true := by
  simp only [bef, decide_eq_true_eq] at *; omega
theorem bef_total {wd ht : Nat → Nat} {a b : Nat} (h : a ≠ b) : bef wd ht a b = true ∨ bef wd ht b a = true := by
  simp only [bef, decide_eq_true_eq]; omega
theorem bef_asymm {wd ht : Nat → Nat} {a b : Nat} (h1 : bef wd ht a b = true) : bef wd ht b a = false := by
  cases h : bef wd ht b a with
  | false => rfl
  | true => simp only [bef, decide_eq_true_eq] at *; omega
/-- a symbol's place in the order -/
def rank (wd ht : Nat → Nat) (n k : Nat) : Nat := cnt (fun j => bef wd ht j k) n
theorem rank_lt_n {wd ht : Nat → Nat} {n k : Nat} (hk : k < n) : rank wd ht n k < n := cnt_lt_n hk (bef_irrefl wd ht k)
theorem rank_lt {wd ht : Nat → Nat} {n a b : Nat} (ha : a < n) (h : bef wd ht a b = true) : rank wd ht n a < rank wd ht n b :=
  cnt_lt (fun _ _ hj => bef_trans hj h) ha (bef_irrefl wd ht a) h
theorem rank_inj {wd ht : Nat → Nat} {n a b : Nat} (ha : a < n) (hb : b < n) (h : rank wd ht n a = rank wd ht n b) : a = b := by
  by_cases e : a = b
  · exact e
  · rcases bef_total (wd := wd) (ht := ht) e with h1 | h1
    · have := rank_lt ha h1; omega
    · have := rank_lt hb h1; omega
theorem rank_bef {wd ht : Nat → Nat} {n a b : Nat} (ha : a < n) (hb : b < n) (h : rank wd ht n a < rank wd ht n b) : bef wd ht a b = true := by
  have e : a ≠ b := fun e => by subst e; omega
  rcases bef_total (wd := wd) (ht := ht) e with h1 | h1
  · exact h1
  · have := rank_lt hb h1; omega
/-- as many holes as doves, each dove in its own: no hole is empty -/
theorem pigeon : ∀ (n : Nat) (f : Nat → Nat), (∀ k, k < n → f k < n) → (∀ a b, a < n → b < n → f a = f b → a = b) → ∀ i, i < n → ∃ k, k < n ∧ f k = i := by
  intro n
  induction n with
  | zero => intro f _ _ i hi; omega
  | succ n ih =>
    intro f hf hj i hi
    by_cases e : i = f n
    · exact ⟨n, by omega, e.symm⟩
    · have hm : f n < n + 1 := hf n (by omega)
      have hne : ∀ k, k < n → f k ≠ f n := fun k hk h => by have := hj k n (by omega) (by omega) h; omega
      obtain ⟨k, hk, hg⟩ := ih (fun k => if f n < f k then f k - 1 else f k)
        (fun k hk => by have h1 := hf k (by omega); have h2 := hne k hk; split <;> omega)
        (fun a b ha hb h => by
          have h1 := hne a ha; have h2 := hne b hb
          (try dsimp only at h)
          apply hj a b (by omega) (by omega)
          split at h <;> split at h <;> omega)
        (if f n < i then i - 1 else i) (by split <;> omega)
      refine ⟨k, by omega, ?_⟩
      have h2 := hne k hk
      (try dsimp only at hg)
      split at hg <;> split at hg <;> omega
theorem rank_onto {wd ht : Nat → Nat} {n i : Nat} (hi : i < n) : ∃ k, k < n ∧ rank wd ht n k = i :=
  pigeon n (rank wd ht n) (fun _ hk => rank_lt_n hk) (fun _ _ ha hb h => rank_inj ha hb h) i hi
