/-- Euclid's way, the reference's -/
theorem cpY (M : Mm) (f : Nat → Int64 → Int32 → Mm → Option Mm) (i : Nat) : ∀ k n a b, b < 2 ^ k → 2 * k + 1 ≤ n → a < 9223372036854775808 → b < 9223372036854775808 → fX9_lessens_b23 f n 80 (nI i) (lN a) (lN b) M = f 80 (lN (Nat.gcd b a)) (nI (i + 1)) M := by
  intro k
  induction k with
  | zero =>
    intro n a b hb hn ha _
    have e : b = 0 := by omega
    subst e
    obtain ⟨n, rfl⟩ : ∃ m, n = m + 1 := ⟨n - 1, by omega⟩
    rw [fX9_lessens_b23]
    simp (disch := first | assumption | omega | (simp only [FIX_sI, FIX_sJ, FIX_gI, FIX_gJ]; assumption)) only [l1, lN0, ↓reduceIte, Nat.gcd_zero_left, add_nn]
  | succ k ih =>
    intro n a b hb hn ha hb2
    obtain ⟨n, rfl⟩ : ∃ m, n = m + 2 := ⟨n - 2, by omega⟩
    rw [fX9_lessens_b23]
    by_cases b0 : b = 0
    · subst b0
      simp (disch := first | assumption | omega | (simp only [FIX_sI, FIX_sJ, FIX_gI, FIX_gJ]; assumption)) only [l1, lN0, ↓reduceIte, Nat.gcd_zero_left, add_nn]
    · have m1 := (mdJ_n ha (Nat.pos_of_ne_zero b0) hb2).2
      have hr : a % b < b := Nat.mod_lt _ (Nat.pos_of_ne_zero b0)
      have g1 : Nat.gcd b a = Nat.gcd (a % b) b := Nat.gcd_rec b a
      simp (disch := first | assumption | omega | (simp only [FIX_sI, FIX_sJ, FIX_gI, FIX_gJ]; assumption)) only [lN0, eq_LL, b0, ↓reduceIte, ↓bnd1 m1]
      rw [g1]
      generalize a % b = r at *
      rw [fX9_lessens_b23]
      by_cases r0 : r = 0
      · subst r0
        simp (disch := first | assumption | omega | (simp only [FIX_sI, FIX_sJ, FIX_gI, FIX_gJ]; assumption)) only [l1, lN0, ↓reduceIte, Nat.gcd_zero_left, add_nn]
      · have m2 := (mdJ_n hb2 (Nat.pos_of_ne_zero r0) (show r < 9223372036854775808 by omega)).2
        have hr2 : b % r < r := Nat.mod_lt _ (Nat.pos_of_ne_zero r0)
        have hp : b % r < 2 ^ k := by
          rw [Nat.pow_succ] at hb
          by_cases c : r ≤ 2 ^ k
          · omega
          · have := Nat.mod_eq_sub_mod (show b ≥ r by omega)
            rw [this, Nat.mod_eq_of_lt (by omega)]
            omega
        have g2 : Nat.gcd r b = Nat.gcd (b % r) r := Nat.gcd_rec r b
        simp (disch := first | assumption | omega | (simp only [FIX_sI, FIX_sJ, FIX_gI, FIX_gJ]; assumption)) only [lN0, eq_LL, r0, ↓reduceIte, ↓bnd1 m2]
        rw [g2]
        exact ih n r (b % r) hp (by omega) (by omega) (by omega)
