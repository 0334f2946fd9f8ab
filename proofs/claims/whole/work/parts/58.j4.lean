def wy (bk : Bool) : Int32 := if bk then -nI 1 else nI 1
theorem m2m1 : nI 2 * -nI 1 = -nI 2 := by decide
theorem rcW {s : Nat} (hs : sl s) {M : Mm} (hF : FIX M) {L c : Nat} (bk : Bool) (h : mI M s 0 = nI L) (hL : 2 ≤ L ∧ L ≤ 24) (hc : c < L) : fX5_reach s (nI c) (wy bk) M = some (nI (if bk then c - 1 else gof L c 1), M) ∧ fX5_reach s (nI c) (nI 2 * wy bk) M = some (nI (if bk then c - 2 else gof L c 2), M) := by
  unfold wy
  cases bk
  · simp only [Bool.false_eq_true, ↓reduceIte, mul_nn]
    exact ⟨rea8 hs hF h hL hc (by decide), rea8 hs hF h hL hc (by decide)⟩
  · simp only [↓reduceIte, m2m1]
    exact ⟨reb8 hs hF h hL hc (by decide), reb8 hs hF h hL hc (by decide)⟩
theorem gof_lt {L c d : Nat} (h : 2 ≤ L) (hc : c < L) : gof L c d < L := by unfold gof; split <;> omega
theorem hsX {s : Nat} (hs : sl s) {M : Mm} (hF : FIX M) {q od : Nat → Nat} {sd : Int32} (h : St s q od sd M) (hI : Inv q od) (bk : Bool) : ∀ d n i, d + i = q 56 →
    fX5_hearStep_b12 (n + d) s (wy bk) (nI i) (gJ M (s + 5) 0 24 (fun j => lN (gvs (q 56) (q 57) (q 58) bk od i j))) = fX5_hearStep_b12 n s (wy bk) (nI (q 56)) (gJ M (s + 5) 0 24 (fun j => lN (gvs (q 56) (q 57) (q 58) bk od (q 56) j))) := by
  have hl := sl_lt hs
  have hL := hI.1
  have h5 := hI.2.1
  have w4 := h.2.2.2.2.2.1
  intro d
  induction d with
  | zero => intro n i hi; rw [show i = q 56 by omega]; rfl
  | succ d ih =>
    intro n i hi
    have ci : i < q 56 := by omega
    have ci2 : ¬ q 56 ≤ i := by omega
    have hg : ∀ (f : Nat → Int64), FIX (gJ M (s + 5) 0 24 f) := fun f => (by simp only [FIX_sI, FIX_sJ, FIX_gI, FIX_gJ]; exact hF)
    have e0 : ∀ (f : Nat → Int64), mI (gJ M (s + 5) 0 24 f) s 0 = nI (q 56) := fun f => by rw [mI_gJ]; exact h.f56
    have e1 : ∀ (f : Nat → Int64), mI (gJ M (s + 5) 0 24 f) s 1 = nI (q 57) := fun f => by rw [mI_gJ]; exact h.f57
    have e2 : ∀ (f : Nat → Int64), mI (gJ M (s + 5) 0 24 f) s 2 = nI (q 58) := fun f => by rw [mI_gJ]; exact h.f58
    have r1 := fun (f : Nat → Int64) => (rcW hs (hg f) bk (e0 f) hL ci).1
    have r2 := fun (f : Nat → Int64) => (rcW hs (hg f) bk (e0 f) hL ci).2
    have t1 : (if bk then i - 1 else gof (q 56) i 1) < 24 := by
      have := gof_lt (d := 1) hL.1 ci
      split <;> omega
    have t2 : (if bk then i - 2 else gof (q 56) i 2) < 24 := by
      have := gof_lt (d := 2) hL.1 ci
      split <;> omega
    have mv : ∀ (f : Nat → Nat) t k, t < 24 → k < 2147483648 → fX0_move (s + 3) (nI i) (nI t) (nI k) (gJ M (s + 5) 0 24 (fun j => lN (f j))) = some (gJ M (s + 5) 0 24 (fun j => lN (adt f t (od i * k) j))) := fun f t k ht hk => by
      rw [mov8 hs (hg _) (show i < 24 by omega) ht hk (w := od i) (v := f t) (by rw [mJ_gJ, if_neg (by omega)]; exact w4 i (by omega)) (by rw [mJ_gJ, if_pos ⟨rfl, Nat.zero_le _, ht⟩]), adt_g ht]
    rw [show n + (d + 1) = (n + d) + 1 by omega, fX5_hearStep_b12, ibS hs (hg _), e0]
    rw [if_neg (by rw [le_nn (by omega) (by omega)]; exact ci2), rbS10 hs (hg _), ibS hs (hg _), e1, bnd1 (mv _ i _ (by omega) (by omega)), rbS10 hs (hg _), bnd1 (r1 _), ibS hs (hg _), ibS hs (hg _), e1, e2]
    rw [show (10 : Int32) - nI (q 57) - nI (q 58) = nI (10 - q 57 - q 58) by rw [l10, sub_nn (by omega), sub_nn (by omega)], bnd1 (mv _ _ _ t1 (by omega)), rbS10 hs (hg _), show (2 : Int32) * wy bk = nI 2 * wy bk from rfl, bnd1 (r2 _), ibS hs (hg _), e2, bnd1 (mv _ _ _ t2 (by omega))]
    have := ih n (i + 1) (by omega)
    rw [show nI i + (1 : Int32) = nI (i + 1) from add_nn i 1]
    exact this
