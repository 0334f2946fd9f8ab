/-! the reference reads an item -/
theorem ib2s {N : Mm} {K : Nat} (hK : K ≤ 6) (hx : ∀ j, j < K → fX9_isWordAt 80 (nI j) N = some (nI 0, N) ∨ (fX9_isWordAt 80 (nI j) N = some (nI 1, N) ∧ fX9_isFull 80 (nI j) N = some (nI 0, N))) : ∀ d i m, i + d = K →
    fX9_item_b2 (m + d) 80 (nI i) N = fX9_item_b2 m 80 (nI K) N := by
  intro d
  induction d with
  | zero => intro i m hi; rw [show i = K by omega]; rfl
  | succ d ih =>
    intro i m hi
    rw [show m + (d + 1) = (m + d) + 1 by omega, fX9_item_b2, if_neg (by rw [l6, le_nn (by decide) (by omega)]; omega)]
    rcases hx i (by omega) with a | ⟨a, b⟩
    · rw [bnd1 a]
      dsimp only
      rw [if_pos (show nI 0 = 0 from rfl), l1, add_nn, ih (i + 1) m (by omega)]
    · rw [bnd1 a]
      dsimp only
      rw [if_neg (show ¬ nI 1 = 0 by decide), bnd1 b]
      dsimp only
      rw [if_pos (show nI 0 = 0 from rfl), l1, add_nn, ih (i + 1) m (by omega)]
theorem ib26 {N N1 : Mm} (hF : FIX N) (m : Nat) (w : fX9_word 80 N = some (-nI 1, N1)) : fX9_item_b2 (m + 1) 80 (nI 6) N = some (nI 0, N1) := by
  rw [fX9_item_b2, if_pos (by rw [l6, le_nn (by decide) (by decide)]; exact Nat.le_refl _), ib80 hF, bnd1 w]
  dsimp only
  rw [if_pos (show -nI 1 = (-1 : Int32) by decide)]
  rfl
theorem itmN {s n p a b : Nat} {R : Nat → Int32} {N : Mm} (h : YK s n R N) (e : mI N 80 33 = nI p) (hp : p ≤ 200) (hx : ∀ j, j < 6 → ¬ mtc R n (wst j) p) : fX9_item 80 N = some (nI 0, sI N 80 36 (nI p)) := by
  have e1 := ib2s (N := N) (K := 6) (by decide) (fun j hj => Or.inl (iw0 h e hp hj (j := 0) (by have := wfc j hj; omega) (fun x hx => by omega) (hx j hj))) 6 0 1994 (by decide)
  unfold fX9_item
  rw [kb80 h.2.1]
  exact e1.trans (ib26 h.2.1 1993 (woN h e hp hx))
theorem itmF {s n p a b : Nat} {R : Nat → Int32} {N : Mm} (h : YK s n R N) (e : mI N 80 33 = nI p) (hp : p ≤ 200) (ha : a ≤ 8) (hb : b ≤ 8) (e6 : mI N 80 6 = nI a) (e7 : mI N 80 7 = nI b) {k j : Nat} (hk : k < 6) (h0 : 0 < j) (hj : j ≤ wln k) (hx : ∀ x, x < j → mtc R n (wst k + x) (p + x)) (hn : ¬ mtc R n (wst k + j) (p + j)) (hf : j < wln k ∨ ¬ full a b k) :
    fX9_item 80 N = some (nI 0, sI N 80 36 (nI (p + j))) := by
  have m0 : mtc R n (wst k) p := hx 0 h0
  have e1 := ib2s (N := N) (K := 6) (by decide) (fun i hi => by
    by_cases z : i = k
    · subst z
      by_cases y : j < wln i
      · exact Or.inl (iw0 h e hp hi y hx hn)
      · have : j = wln i := by omega
        subst this
        have q := isF h.2.1 ha hb hi e6 e7
        rw [if_neg (hf.elim (fun w => absurd w y) id)] at q
        exact Or.inr ⟨iw1 h e hp hi hx, q⟩
    · exact Or.inl (iw0 h e hp hi (j := 0) (by have := wfc i hi; omega) (fun x hx => by omega) (m1 hk m0 hi z))) 6 0 1994 (by decide)
  unfold fX9_item
  rw [kb80 h.2.1]
  exact e1.trans (ib26 h.2.1 1993 (woF h e hp hk h0 hj hx hn))
theorem itmU {s n p a b : Nat} {R : Nat → Int32} {N : Mm} (h : YK s n R N) (e : mI N 80 33 = nI p) (hp : p ≤ 200) (ha : a ≤ 8) (hb : b ≤ 8) (e6 : mI N 80 6 = nI a) (e7 : mI N 80 7 = nI b) {k : Nat} (hk : k < 6) (hx : ∀ x, x < wln k → mtc R n (wst k + x) (p + x)) (hf : full a b k) :
    fX9_item 80 N = some (nI 0, sI N 80 36 (nI p)) := by
  have hF := h.2.1
  have wl := (wfc k hk).2.2.2.1
  have m0 : mtc R n (wst k) p := hx 0 (by omega)
  have e1 := ib2s (N := N) (K := k) (by omega) (fun i hi => Or.inl (iw0 h e hp (show i < 6 by omega) (j := 0) (by have := wfc i (by omega); omega) (fun x hx => by omega) (m1 hk m0 (by omega) (by omega)))) k 0 (2000 - k) (by omega)
  rw [show 2000 - k + k = FU by unfold FU; omega] at e1
  have q := isF hF ha hb hk e6 e7
  rw [if_pos hf] at q
  unfold fX9_item
  rw [kb80 hF]
  refine e1.trans ?_
  rw [show 2000 - k = (1999 - k) + 1 by omega, fX9_item_b2, if_neg (by rw [l6, le_nn (by decide) (by omega)]; omega), bnd1 (iw1 h e hp hk hx)]
  dsimp only
  rw [if_neg (show ¬ nI 1 = 0 by decide), bnd1 q]
  dsimp only
  rw [if_neg (show ¬ nI 1 = 0 by decide), ib80 hF, e, bnd1 (wrY hF _)]
  dsimp only
  rw [rz0]
theorem itmO {s n p a b : Nat} {R : Nat → Int32} {N : Mm} (h : YK s n R N) (e : mI N 80 33 = nI p) (hp : p ≤ 200) (ha : a ≤ 8) (hb : b ≤ 8) (e6 : mI N 80 6 = nI a) (e7 : mI N 80 7 = nI b) {k : Nat} (hk : k < 6) (hx : ∀ x, x < wln k → mtc R n (wst k + x) (p + x)) (hs : sp R n (p + wln k)) (hf : ¬ full a b k) :
    fX9_item 80 N = fX9_item_b90 80 (nI k) (sI N 80 33 (nI (p + wln k + 1))) := by
  have hF := h.2.1
  have hF1 := FIXr hF 80 33 (nI (p + wln k + 1))
  have wl := (wfc k hk).2.2.2.1
  have m0 : mtc R n (wst k) p := hx 0 (by omega)
  have e1 := ib2s (N := N) (K := 6) (by decide) (fun i hi => by
    by_cases z : i = k
    · subst z
      have q := isF h.2.1 ha hb hi e6 e7
      rw [if_neg hf] at q
      exact Or.inr ⟨iw1 h e hp hi hx, q⟩
    · exact Or.inl (iw0 h e hp hi (j := 0) (by have := wfc i hi; omega) (fun x hx => by omega) (m1 hk m0 hi z))) 6 0 1994 (by decide)
  unfold fX9_item
  rw [kb80 hF]
  refine e1.trans ?_
  have b70 : fX9_item_b70 80 (nI p) (nI k) (sI N 80 33 (nI (p + wln k + 1))) = fX9_item_b90 80 (nI k) (sI N 80 33 (nI (p + wln k + 1))) := by
    unfold fX9_item_b70
    rw [ib80 hF1, mI_ne (show 80 ≠ 80 ∨ 7 ≠ 33 by decide), e7]
    by_cases c : k = 2
    · rw [if_pos (show nI k = 2 by rw [c]; rfl), if_neg (by rw [l8, eq_nn (by omega) (by decide)]; intro z; exact hf (Or.inr ⟨c, z⟩))]
    · rw [if_neg (by rw [l2, eq_nn (by omega) (by decide)]; exact c)]
  rw [show 1994 = 1993 + 1 from rfl, fX9_item_b2, if_pos (by rw [l6, le_nn (by decide) (by decide)]; exact Nat.le_refl _), ib80 hF, e, bnd1 (woO h e hp hk hx hs)]
  dsimp only
  rw [if_neg (show ¬ nI k = (-1 : Int32) by rw [show (-1 : Int32) = -nI 1 from by decide, mi_ne (by omega) (by decide) (by decide)]; exact id), b70]
  by_cases c : k = 1
  · rw [if_pos (show nI k = 1 by rw [c]; rfl), ib80 hF1, mI_ne (show 80 ≠ 80 ∨ 6 ≠ 33 by decide), e6, if_neg (by rw [l8, eq_nn (by omega) (by decide)]; intro z; exact hf (Or.inl ⟨c, z⟩))]
  · rw [if_neg (by rw [l1, eq_nn (by omega) (by decide)]; exact c)]
/-! the numbers of an item -/
def NE : List (Nat × Nat) := [(80, 33), (80, 35), (80, 36)]
theorem b183 {s n S j lo hi : Nat} {R : Nat → Int32} {N : Mm} (h : YK s n R N) (e : mI N 80 33 = nI S) (hS : S ≤ 200) (hj : j < 4) (hl : lo < 1000) (hh : hi < 1000) {k c : Nat} (low : fX9_low 80 (nI k) (nI j) N = some (nI lo, N)) (top : fX9_top 80 (nI k) (nI j) N = some (nI hi, N)) (K : Nat → Int32 → Int32 → Int32 → Mm → Option (Int32 × Mm)) :
    (nOk R n S lo hi → ∃ N1, fX9_item_b183 K 80 (nI k) (nI c) (nI j) N = K 80 (nI k) (nI c) (nI (j + 1)) N1 ∧ YK s n R N1 ∧ mI N1 80 33 = nI (nP R n S) ∧ mI N1 98 j = nI (nV R n S) ∧ (∀ i, i ≠ j → mI N1 98 i = mI N 98 i) ∧ Fr [98] NE N N1 ∧ (mT N1 = mT N ∧ mW N1 = mW N)) ∧
    (¬ nOk R n S lo hi → ∃ N1, fX9_item_b183 K 80 (nI k) (nI c) (nI j) N = some (nI 0, N1) ∧ mI N1 80 36 = nI S ∧ Fr [98] NE N N1 ∧ (mT N1 = mT N ∧ mW N1 = mW N)) := by
  refine ⟨fun ok => ?_, fun bad => ?_⟩
  · have h2 := (h.at (k := 35) (by omega) (nI (nV R n S))).at (k := 33) (by omega) (nI (nP R n S))
    refine ⟨sI (sI (sI N 80 35 (nI (nV R n S))) 80 33 (nI (nP R n S))) 98 j (nI (nV R n S)), ?_, h2.a98 _ _, ?_, mI_at _ _ _ _, fun i hi => ?_, ?_, ?_⟩
    · unfold fX9_item_b183
      rw [bnd1 low]
      dsimp only
      rw [bnd1 top]
      dsimp only
      rw [bnd1 (nuO h e hS hl hh ok)]
      dsimp only
      rw [if_neg (show ¬ nI 1 = 0 by decide), rb80_31 h2.2.1, ib80 h2.2.1, mI_ne (show 80 ≠ 80 ∨ 35 ≠ 33 by decide), mI_at, tb98 h2.2.1 hj, l1, add_nn]
    · rw [mI_ne (show 80 ≠ 98 ∨ 33 ≠ j by omega), mI_at]
    · rw [mI_ne (show 98 ≠ 98 ∨ i ≠ j by omega), mI_ne (show 98 ≠ 80 ∨ i ≠ 33 by omega), mI_ne (show 98 ≠ 80 ∨ i ≠ 35 by omega)]
    · exact ((Fr.oI _ _ (Or.inr (by decide))).tr (Fr.oI _ _ (Or.inr (by decide)))).tr (Fr.oI _ _ (Or.inl (by decide)))
    · exact ⟨by simp only [mT_sI, mW_sI, mK_sI, mI_sI, mJ_sI, mR_sI, mT_sJ, mW_sJ, mK_sJ, mI_sJ, mJ_sJ, mR_sJ, mT_sR, mW_sR, mK_sR, mI_sR, mJ_sR, mR_sR, mT_gI, mW_gI, mK_gI, mI_gI, mJ_gI, mR_gI, mT_gJ, mW_gJ, mK_gJ, mI_gJ, mJ_gJ, mR_gJ, mT_wR, mW_wR, mK_wR, mI_wR, mJ_wR, mR_wR], by simp only [mT_sI, mW_sI, mK_sI, mI_sI, mJ_sI, mR_sI, mT_sJ, mW_sJ, mK_sJ, mI_sJ, mJ_sJ, mR_sJ, mT_sR, mW_sR, mK_sR, mI_sR, mJ_sR, mR_sR, mT_gI, mW_gI, mK_gI, mI_gI, mJ_gI, mR_gI, mT_gJ, mW_gJ, mK_gJ, mI_gJ, mJ_gJ, mR_gJ, mT_wR, mW_wR, mK_wR, mI_wR, mJ_wR, mR_wR]⟩
  · obtain ⟨x, y, e1⟩ := nuX h e hS hl hh bad
    refine ⟨sI (sI (sI N 80 35 x) 80 33 y) 80 36 (nI S), ?_, mI_at _ _ _ _, ?_, ?_⟩
    · unfold fX9_item_b183
      rw [bnd1 low]
      dsimp only
      rw [bnd1 top]
      dsimp only
      rw [bnd1 e1]
      dsimp only
      rw [if_pos (show nI 0 = 0 from rfl)]
      rfl
    · exact ((Fr.oI _ _ (Or.inr (by decide))).tr (Fr.oI _ _ (Or.inr (by decide)))).tr (Fr.oI _ _ (Or.inr (by decide)))
    · exact ⟨by simp only [mT_sI, mW_sI, mK_sI, mI_sI, mJ_sI, mR_sI, mT_sJ, mW_sJ, mK_sJ, mI_sJ, mJ_sJ, mR_sJ, mT_sR, mW_sR, mK_sR, mI_sR, mJ_sR, mR_sR, mT_gI, mW_gI, mK_gI, mI_gI, mJ_gI, mR_gI, mT_gJ, mW_gJ, mK_gJ, mI_gJ, mJ_gJ, mR_gJ, mT_wR, mW_wR, mK_wR, mI_wR, mJ_wR, mR_wR], by simp only [mT_sI, mW_sI, mK_sI, mI_sI, mJ_sI, mR_sI, mT_sJ, mW_sJ, mK_sJ, mI_sJ, mJ_sJ, mR_sJ, mT_sR, mW_sR, mK_sR, mI_sR, mJ_sR, mR_sR, mT_gI, mW_gI, mK_gI, mI_gI, mJ_gI, mR_gI, mT_gJ, mW_gJ, mK_gJ, mI_gJ, mJ_gJ, mR_gJ, mT_wR, mW_wR, mK_wR, mI_wR, mJ_wR, mR_wR]⟩
/-- the first number -/
theorem stY0 {s n S lo hi m : Nat} {R : Nat → Int32} {N : Mm} (h : YK s n R N) (e : mI N 80 33 = nI S) (hS : S ≤ 200) (hl : lo < 1000) (hh : hi < 1000) {k c : Nat} (hc : 0 < c ∧ c ≤ 4) (low : fX9_low 80 (nI k) (nI 0) N = some (nI lo, N)) (top : fX9_top 80 (nI k) (nI 0) N = some (nI hi, N)) :
    (nOk R n S lo hi → ∃ N1, fX9_item_b122 (m + 1) 80 (nI k) (nI c) (nI 0) N = fX9_item_b122 m 80 (nI k) (nI c) (nI 1) N1 ∧ YK s n R N1 ∧ mI N1 80 33 = nI (nP R n S) ∧ mI N1 98 0 = nI (nV R n S) ∧ (∀ i, i ≠ 0 → mI N1 98 i = mI N 98 i) ∧ Fr [98] NE N N1 ∧ (mT N1 = mT N ∧ mW N1 = mW N)) ∧
    (¬ nOk R n S lo hi → ∃ N1, fX9_item_b122 (m + 1) 80 (nI k) (nI c) (nI 0) N = some (nI 0, N1) ∧ mI N1 80 36 = nI S ∧ Fr [98] NE N N1 ∧ (mT N1 = mT N ∧ mW N1 = mW N)) := by
  have e1 : fX9_item_b122 (m + 1) 80 (nI k) (nI c) (nI 0) N = fX9_item_b183 (fX9_item_b122 m) 80 (nI k) (nI c) (nI 0) N := by
    rw [fX9_item_b122, if_neg (by rw [le_nn (by omega) (by decide)]; omega), if_pos (show nI 0 ≤ 0 by decide)]
  rw [e1]
  exact b183 h e hS (by decide) hl hh low top _
theorem stYj {s n P j lo hi m : Nat} {R : Nat → Int32} {N : Mm} (h : YK s n R N) (e : mI N 80 33 = nI P) (hP : P ≤ 190) (hj : 0 < j ∧ j < 4) (hl : lo < 1000) (hh : hi < 1000) {k c : Nat} (hc : j < c ∧ c ≤ 4) (low : ∀ N1, FIX N1 → fX9_low 80 (nI k) (nI j) N1 = some (nI lo, N1)) (top : ∀ N1, FIX N1 → mI N1 80 0 = mI N 80 0 → mI N1 98 0 = mI N 98 0 → fX9_top 80 (nI k) (nI j) N1 = some (nI hi, N1)) :
    (sp R n P ∧ nOk R n (P + 1) lo hi → ∃ N1, fX9_item_b122 (m + 1) 80 (nI k) (nI c) (nI j) N = fX9_item_b122 m 80 (nI k) (nI c) (nI (j + 1)) N1 ∧ YK s n R N1 ∧ mI N1 80 33 = nI (nP R n (P + 1)) ∧ mI N1 98 j = nI (nV R n (P + 1)) ∧ (∀ i, i ≠ j → mI N1 98 i = mI N 98 i) ∧ Fr [98] NE N N1 ∧ (mT N1 = mT N ∧ mW N1 = mW N)) ∧
    (¬ (sp R n P ∧ nOk R n (P + 1) lo hi) → ∃ N1, fX9_item_b122 (m + 1) 80 (nI k) (nI c) (nI j) N = some (nI 0, N1) ∧ mI N1 80 36 = nI (ft R n P) ∧ Fr [98] NE N N1 ∧ (mT N1 = mT N ∧ mW N1 = mW N)) := by
  have hF := h.2.1
  have hn := h.1.2
  have j0 : ¬ nI j ≤ 0 := by rw [l0, le_nn (by omega) (by decide)]; omega
  by_cases hs : sp R n P
  · have h1 := h.at (k := 33) (by omega) (nI (P + 1))
    have f0 : Fr [98] NE N (sI N 80 33 (nI (P + 1))) := Fr.oI _ _ (Or.inr (by decide))
    have e1 : fX9_item_b122 (m + 1) 80 (nI k) (nI c) (nI j) N = fX9_item_b183 (fX9_item_b122 m) 80 (nI k) (nI c) (nI j) (sI N 80 33 (nI (P + 1))) := by
      have hp := hs.1
      rw [fX9_item_b122, if_neg (by rw [le_nn (by omega) (by omega)]; omega), if_neg j0, ib80 hF, ib80 hF, e, h.2.2.2.1, if_neg (by rw [le_nn (by omega) (by omega)]; omega), rb80_27 hF, ib80 hF, ib80 hF, h.2.2.1, e, leY h hs.1, h.2.2.2.2.1 P (by omega), if_pos (show R P = 32 from hs.2), ib80 hF, e, pb80 hF, l1, add_nn]
    have B := b183 h1 (mI_at _ _ _ _) (show P + 1 ≤ 200 by omega) hj.2 hl hh (c := c) (low _ h1.2.1) (top _ h1.2.1 (mI_ne (by decide)) (mI_ne (by decide))) (fX9_item_b122 m)
    rw [e1]
    refine ⟨fun ok => ?_, fun bad => ?_⟩
    · obtain ⟨N1, a1, a2, a3, a4, a5, a6, a7⟩ := B.1 ok.2
      exact ⟨N1, a1, a2, a3, a4, fun i hi => by rw [a5 i hi, mI_ne (show 98 ≠ 80 ∨ i ≠ 33 by omega)], f0.tr a6, a7⟩
    · obtain ⟨N1, a1, a2, a3, a4⟩ := B.2 (fun z => bad ⟨hs, z⟩)
      exact ⟨N1, a1, by rw [a2]; unfold ft; rw [if_pos hs], f0.tr a3, a4⟩
  · refine ⟨fun ok => absurd ok.1 hs, fun _ => ⟨sI N 80 36 (nI P), ?_, by rw [mI_at]; unfold ft; rw [if_neg hs], Fr.oI _ _ (Or.inr (by decide)), by simp only [mT_sI, mW_sI, mK_sI, mI_sI, mJ_sI, mR_sI, mT_sJ, mW_sJ, mK_sJ, mI_sJ, mJ_sJ, mR_sJ, mT_sR, mW_sR, mK_sR, mI_sR, mJ_sR, mR_sR, mT_gI, mW_gI, mK_gI, mI_gI, mJ_gI, mR_gI, mT_gJ, mW_gJ, mK_gJ, mI_gJ, mJ_gJ, mR_gJ, mT_wR, mW_wR, mK_wR, mI_wR, mJ_wR, mR_wR], by simp only [mT_sI, mW_sI, mK_sI, mI_sI, mJ_sI, mR_sI, mT_sJ, mW_sJ, mK_sJ, mI_sJ, mJ_sJ, mR_sJ, mT_sR, mW_sR, mK_sR, mI_sR, mJ_sR, mR_sR, mT_gI, mW_gI, mK_gI, mI_gI, mJ_gI, mR_gI, mT_gJ, mW_gJ, mK_gJ, mI_gJ, mJ_gJ, mR_gJ, mT_wR, mW_wR, mK_wR, mI_wR, mJ_wR, mR_wR]⟩⟩
    rw [fX9_item_b122, if_neg (by rw [le_nn (by omega) (by omega)]; omega), if_neg j0, ib80 hF, ib80 hF, e, h.2.2.2.1]
    by_cases hp : P < n
    · rw [if_neg (by rw [le_nn (by omega) (by omega)]; omega), rb80_27 hF, ib80 hF, ib80 hF, h.2.2.1, e, leY h hp, h.2.2.2.2.1 P (by omega), if_neg (show ¬ R P = 32 from fun z => hs ⟨hp, z⟩), ib80 hF, e, bnd1 (wrY hF _)]
      dsimp only
      rw [rz0]
    · rw [if_pos (by rw [le_nn (by omega) (by omega)]; omega), ib80 hF, e, bnd1 (wrY hF _)]
      dsimp only
      rw [rz0]
