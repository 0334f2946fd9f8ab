/-! a step heard: the sums -/
theorem mov8 {s : Nat} (hs : sl s) {M : Mm} (hF : FIX M) {c t k w v : Nat} (hc : c < 24) (ht : t < 24) (hk : k < 2147483648) (h1 : mJ M (s + 4) c = lN w) (h2 : mJ M (s + 5) t = lN v) : fX0_move (s + 3) (nI c) (nI t) (nI k) M = some (sJ M (s + 5) t (lN (v + w * k))) := by
  have a8 : fX0_at (s + 3) (nI c) M = some (lN w, M) := by
    unfold fX0_at
    simp (disch := first | assumption | omega | (simp only [FIX_sI, FIX_sJ, FIX_gI, FIX_gJ]; assumption)) only [↓kbO hs, l0, l24, lt_nn, Nat.not_lt_zero, ↓reduceIte, hc, ↓rbO0 hs, ↓abW hs, h1]
  unfold fX0_move
  simp (disch := first | assumption | omega | (simp only [FIX_sI, FIX_sJ, FIX_gI, FIX_gJ]; assumption)) only [↓kbO hs, l0, l24, lt_nn, le_nn, Nat.not_lt_zero, ↓reduceIte, show ¬ 24 ≤ t by omega, ↓rbO1 hs, ↓abM hs, h2, ↓bnd1 a8, nI_l hk, lN_mul, lN_add, ↓tbM hs]
/-- a sum a cell more: what goes to t -/
def adt (f : Nat → Nat) (t v : Nat) : Nat → Nat := u1 f t (f t + v)
/-- what one cell's odds give -/
def giv (L st tw : Nat) (bk : Bool) (od : Nat → Nat) (f : Nat → Nat) (c : Nat) : Nat → Nat :=
  adt (adt (adt f c (od c * st)) (if bk then c - 1 else gof L c 1) (od c * (10 - st - tw))) (if bk then c - 2 else gof L c 2) (od c * tw)
/-- what all the cells give -/
def gvs (L st tw : Nat) (bk : Bool) (od : Nat → Nat) : Nat → Nat → Nat
  | 0 => fun _ => 0
  | n + 1 => giv L st tw bk od (gvs L st tw bk od n) n
