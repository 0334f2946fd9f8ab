/-- the greatest common part of the first n -/
def gc (od : Nat → Nat) : Nat → Nat
  | 0 => 0
  | n + 1 => Nat.gcd (od n) (gc od n)
theorem gc_one {od : Nat → Nat} {i : Nat} (h : gc od i = 1) : ∀ d, gc od (i + d) = 1 := by
  intro d
  induction d with
  | zero => exact h
  | succ d ih =>
    show Nat.gcd (od (i + d)) (gc od (i + d)) = 1
    rw [ih, Nat.gcd_one_right]
theorem gc_le {od : Nat → Nat} {B : Nat} (hB : ∀ c, od c ≤ B) : ∀ n, gc od n ≤ B := by
  intro n
  induction n with
  | zero => exact Nat.zero_le _
  | succ n ih =>
    show Nat.gcd (od n) (gc od n) ≤ B
    by_cases z : od n = 0
    · rw [z, Nat.gcd_zero_left]; exact ih
    · exact Nat.le_trans (Nat.gcd_le_left _ (Nat.pos_of_ne_zero z)) (hB n)
theorem leX4 {s : Nat} (hs : sl s) {M : Mm} (hF : FIX M) {od : Nat → Nat} (g : ∀ c, c < 24 → mJ M (s + 4) c = lN (od c)) (hB : ∀ c, od c ≤ 9223372036854775807) : ∀ n i, i ≤ 24 → 24 - i < n → fX0_lessen_b4 n (s + 3) (lN (gc od i)) (nI i) M = fX0_lessen_b35 FU (s + 3) (lN (gc od 24)) (nI 0) M := by
  intro n
  induction n with
  | zero => intro i h1 h2; omega
  | succ n ih =>
    intro i h1 h2
    have hg := gc_le hB i
    have ho := hB i
    rw [fX0_lessen_b4]
    by_cases c : 24 ≤ i
    · have e : i = 24 := by omega
      subst e
      simp (disch := first | assumption | omega | (simp only [FIX_sI, FIX_sJ, FIX_gI, FIX_gJ]; assumption)) only [l24, l0, le_nn, Nat.le_refl, ↓reduceIte]
    · by_cases c1 : gc od i = 1
      · have e24 : gc od 24 = 1 := by have := gc_one c1 (24 - i); rwa [show i + (24 - i) = 24 by omega] at this
        simp (disch := first | assumption | omega | (simp only [FIX_sI, FIX_sJ, FIX_gI, FIX_gJ]; assumption)) only [l24, l0, le_nn, c, c1, e24, lN1, ↓reduceIte]
      · have cp := cp8 (M := M) (a := gc od i) (b := od i) (by omega) (by omega)
        have n1 : ¬ lN (gc od i) = lN 1 := by rw [eq_LL (by omega) (by decide)]; exact c1
        have ci : i < 24 := by omega
        simp (disch := first | assumption | omega | (simp only [FIX_sI, FIX_sJ, FIX_gI, FIX_gJ]; assumption)) only [l24, l1, le_nn, c, lN1, n1, ↓reduceIte, ↓rbO0 hs, ↓abW hs, g i ci, ↓bnd1 cp, add_nn]
        exact ih (i + 1) (by omega) (by omega)
