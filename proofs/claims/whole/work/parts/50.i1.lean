/-! a sign more, a thing more -/
def nsM (M : Mm) (s n : Nat) (k c a e : Nat) : Mm := sI (sR (sI (sI (sI (sI (sI (sN M 5 0 5) (mT M) 0 (nI n)) (mT M) 1 (nI k)) (mT M) 2 (nI c)) (mT M) 3 (nI a)) (mT M) 4 (nI e)) (s + 1) n (some (mT M))) s 7 (nI (n + 1))
theorem mK_new (M : Mm) : mK (sN M 5 0 5) (mT M) = (5, 0) := by rw [mK_sN, if_pos rfl]
theorem add8 {s : Nat} (hs : sl s) {M : Mm} (hF : FIX M) {n k c a e : Nat} (hn : n < 8) (h : mI M s 7 = nI n) : fX5_addSign s (nI k) (nI c) (nI a) (nI e) M = some (nI n, nsM M s n k c a e) := by
  have hl := sl_lt hs
  have h0 := hF.1
  have kn := mK_new M
  have hF1 : FIX (sN M 5 0 5) := hF.sN 5 0 5
  have hF2 : FIX (sI (sI (sI (sI (sI (sN M 5 0 5) (mT M) 0 (nI n)) (mT M) 1 (nI k)) (mT M) 2 (nI c)) (mT M) 3 (nI a)) (mT M) 4 (nI e)) := by
    simp only [FIX_sI]; exact hF1
  have hi : fX4_init (mT M) (nI n) (nI k) (nI c) (nI a) (nI e) (sN M 5 0 5) = some (sI (sI (sI (sI (sI (sN M 5 0 5) (mT M) 0 (nI n)) (mT M) 1 (nI k)) (mT M) 2 (nI c)) (mT M) 3 (nI a)) (mT M) 4 (nI e)) := by
    unfold fX4_init
    simp only [kc, pI, mK_sI, kn, Nat.reduceAdd, ↓reduceIte, Option.bind_some]
  have ht : tR (sI (sI (sI (sI (sI (sN M 5 0 5) (mT M) 0 (nI n)) (mT M) 1 (nI k)) (mT M) 2 (nI c)) (mT M) 3 (nI a)) (mT M) 4 (nI e)) 23 4 (s + 1) (nI n) (some (mT M)) = some (sR (sI (sI (sI (sI (sI (sN M 5 0 5) (mT M) 0 (nI n)) (mT M) 1 (nI k)) (mT M) 2 (nI c)) (mT M) 3 (nI a)) (mT M) 4 (nI e)) (s + 1) n (some (mT M))) := by
    have hc := nI_clamp (show n < 2 ^ 31 by omega)
    unfold tR
    rw [if_pos, hc]
    rw [kS1 hF2 hs, hc]
    refine ⟨rfl, nI_pos (by omega), hn, fun a ha => ?_⟩
    cases ha
    simp only [mK_sI, kn]
  have hF3 : FIX (sR (sI (sI (sI (sI (sI (sN M 5 0 5) (mT M) 0 (nI n)) (mT M) 1 (nI k)) (mT M) 2 (nI c)) (mT M) 3 (nI a)) (mT M) 4 (nI e)) (s + 1) n (some (mT M))) := hF2.sR n _ (by rcases hs with rfl | rfl | rfl <;> decide)
  have h7 : mI (sR (sI (sI (sI (sI (sI (sN M 5 0 5) (mT M) 0 (nI n)) (mT M) 1 (nI k)) (mT M) 2 (nI c)) (mT M) 3 (nI a)) (mT M) 4 (nI e)) (s + 1) n (some (mT M))) s 7 = nI n := by
    rw [mI_sR, mI_sI, if_neg (by omega), mI_sI, if_neg (by omega), mI_sI, if_neg (by omega), mI_sI, if_neg (by omega), mI_sI, if_neg (by omega), mI_sN, if_neg (by omega)]
    exact h
  have n8 : ¬ 8 ≤ n := by omega
  unfold fX5_addSign nsM
  rw [kbS hs hF, ibS hs hF, h]
  simp (disch := first | assumption | omega | (simp only [FIX_sI, FIX_sJ, FIX_gI, FIX_gJ]; assumption)) only [l0, l1, l8, le_nn, lt_nn, n8, Nat.not_lt_zero, ↓reduceIte, ↓rbS6 hs, nO, Option.bind_some, hi, ht, ↓ibS hs hF3, h7, ↓pbS hs hF3, add_nn]
theorem fr_ns (M : Mm) (s n k c a e : Nat) (hs : s + 1 ∈ rcs) : Fr [s + 1] [(s, 7)] M (nsM M s n k c a e) := by
  unfold nsM
  have f0 : Fr [s + 1] [(s, 7)] M (sI (sI (sI (sI (sI (sN M 5 0 5) (mT M) 0 (nI n)) (mT M) 1 (nI k)) (mT M) 2 (nI c)) (mT M) 3 (nI a)) (mT M) 4 (nI e)) := (((((Fr.oN 5 0 5).xI _ _ (Nat.le_refl _)).xI _ _ (Nat.le_refl _)).xI _ _ (Nat.le_refl _)).xI _ _ (Nat.le_refl _)).xI _ _ (Nat.le_refl _)
  exact (f0.tr (Fr.oR _ _ List.mem_cons_self hs)).tr (Fr.oI _ _ (Or.inr List.mem_cons_self))
def qsg (q : Nat → Nat) (n k c a e : Nat) : Nat → Nat := u1 (u1 (u1 (u1 (u1 q n k) (8 + n) c) (16 + n) a) (24 + n) e) 62 (n + 1)
theorem qsg_o {q : Nat → Nat} {n k c a e i : Nat} (h : i ≠ n ∧ i ≠ 8 + n ∧ i ≠ 16 + n ∧ i ≠ 24 + n ∧ i ≠ 62) : qsg q n k c a e i = q i := by
  unfold qsg u1
  rw [if_neg h.2.2.2.2, if_neg h.2.2.2.1, if_neg h.2.2.1, if_neg h.2.1, if_neg h.1]
theorem qsg_n {q : Nat → Nat} {n k c a e : Nat} (hn : n < 8) : qsg q n k c a e n = k ∧ qsg q n k c a e (8 + n) = c ∧ qsg q n k c a e (16 + n) = a ∧ qsg q n k c a e (24 + n) = e ∧ qsg q n k c a e 62 = n + 1 := by
  unfold qsg u1
  refine ⟨?_, ?_, ?_, ?_, if_pos rfl⟩
  · rw [if_neg (by omega), if_neg (by omega), if_neg (by omega), if_neg (by omega), if_pos rfl]
  · rw [if_neg (by omega), if_neg (by omega), if_neg (by omega), if_pos rfl]
  · rw [if_neg (by omega), if_neg (by omega), if_pos rfl]
  · rw [if_neg (by omega), if_pos rfl]
