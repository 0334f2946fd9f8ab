/-! the reference picks a word -/
theorem wnz {k x : Nat} (hk : k < 6) (hx : x < wln k + 1) : wc (wst k + x) ≠ 0 := by
  obtain ⟨a, b, c, d, e, f⟩ := wfc k hk
  by_cases z : x = wln k
  · rw [z, a]; decide
  · have := f x (by omega); omega
theorem w9f {s n p : Nat} {R : Nat → Int32} {N : Mm} (h : YK s n R N) (e : mI N 80 33 = nI p) (hp : p ≤ 200) {k j x2 m : Nat} (hk : k < 6) (hj : j ≤ wln k) (hx2 : x2 ≤ 300) (hx : ∀ x, x < j → mtc R n (wst k + x) (p + x)) (hn : ¬ mtc R n (wst k + j) (p + j)) :
    fX9_word_b9 (m + 1) 80 (nI (wst k)) (nI x2) (nI k) N = fX9_word_b9 m 80 (nI (wst (k + 1))) (nI (if p + j ≤ x2 then x2 else p + j)) (nI (k + 1)) N := by
  have hF := h.2.1
  obtain ⟨a1, a2, a3, a4, a5, a6⟩ := wfc k hk
  have w := wc128 (wst k + j) (by omega)
  have ei : mI N 97 (wst k + j) = nI (wc (wst k + j)) := h.2.2.2.2.2 _ (by omega)
  have g : ∀ y, fX9_word_b106 (fX9_word_b9 m) FU 80 (nI (wst k)) y (nI k) N = fX9_word_b9 m 80 (nI (wst (k + 1))) y (nI (k + 1)) N := fun y => by
    have := w106 (k9 := fX9_word_b9 m) (x2 := y) h (k := k) (e := wst k + wln k + 1) (by omega) a2 (wln k + 1) (FU - (wln k + 1) - 1) (wst k) (by omega) (fun x hx => wnz hk hx)
    rw [show FU - (wln k + 1) - 1 + (wln k + 1) + 1 = FU by unfold FU; omega] at this
    rw [this, a3]
  rw [fX9_word_b9, if_neg (by rw [l6, le_nn (by decide) (by omega)]; omega), ib80 hF, e, show FU = (1999 - j + 1) + j by unfold FU; omega, w24 h j _ _ _ (fun x hx3 => ⟨wnz hk (by omega), hx x hx3⟩) (by omega) (by omega), w24e h (by omega) (by omega) (Or.inr hn)]
  unfold fX9_word_b75
  rw [rb80_30 hF, ab97 hF (show wst k + j < 38 by omega), ei, if_neg (by rw [l0, eq_nn (by omega) (by decide)]; exact wnz hk (by omega))]
  by_cases c : p + j ≤ x2
  · rw [if_pos (by rw [le_nn (by omega) (by omega)]; exact c), if_pos c, g]
  · rw [if_neg (by rw [le_nn (by omega) (by omega)]; exact c), if_neg c, g]
theorem w9o {s n p : Nat} {R : Nat → Int32} {N : Mm} (h : YK s n R N) (e : mI N 80 33 = nI p) (hp : p ≤ 200) {k m : Nat} (x2 : Int32) (hk : k < 6) (hx : ∀ x, x < wln k → mtc R n (wst k + x) (p + x)) (hs : sp R n (p + wln k)) :
    fX9_word_b9 (m + 1) 80 (nI (wst k)) x2 (nI k) N = some (nI k, sI N 80 33 (nI (p + wln k + 1))) := by
  have hF := h.2.1
  obtain ⟨a1, a2, a3, a4, a5, a6⟩ := wfc k hk
  have ei : mI N 97 (wst k + (wln k + 1)) = nI (wc (wst k + (wln k + 1))) := h.2.2.2.2.2 _ (by omega)
  rw [fX9_word_b9, if_neg (by rw [l6, le_nn (by decide) (by omega)]; omega), ib80 hF, e, show FU = (1999 - (wln k + 1) + 1) + (wln k + 1) by unfold FU; omega, w24 h (wln k + 1) _ _ _ (fun x hx3 => ⟨wnz hk (by omega), by
    by_cases z : x = wln k
    · rw [z]; exact ⟨hs.1, by rw [a1]; exact hs.2⟩
    · exact hx x (by omega)⟩) (by omega) (by omega), w24e h (i := wst k + (wln k + 1)) (p := p + (wln k + 1)) (by omega) (by omega) (Or.inl a2)]
  unfold fX9_word_b75
  rw [rb80_30 hF, ab97 hF (show wst k + (wln k + 1) < 38 by omega), ei, if_pos (show nI (wc (wst k + (wln k + 1))) = 0 by rw [show wc (wst k + (wln k + 1)) = 0 from a2]; rfl), pb80 hF]
  rfl
theorem w9n {s n p : Nat} {R : Nat → Int32} {N : Mm} (h : YK s n R N) (e : mI N 80 33 = nI p) (hp : p ≤ 200) {x2 : Nat} (hx2 : p ≤ x2 ∧ x2 ≤ 300) : ∀ d k m, k + d = 6 → (∀ j, k ≤ j → j < 6 → ¬ mtc R n (wst j) p) →
    fX9_word_b9 (m + d + 1) 80 (nI (wst k)) (nI x2) (nI k) N = some (-nI 1, sI N 80 36 (nI x2)) := by
  intro d
  induction d with
  | zero =>
    intro k m hk _
    rw [fX9_word_b9, if_pos (by rw [l6, le_nn (by decide) (by omega)]; omega), pb80 h.2.1]
    rfl
  | succ d ih =>
    intro k m hk hx
    have := w9f h e hp (k := k) (j := 0) (x2 := x2) (m := m + d + 1) (by omega) (Nat.zero_le _) hx2.2 (fun x hx => by omega) (hx k (Nat.le_refl _) (by omega))
    rw [if_pos (show p + 0 ≤ x2 by omega)] at this
    rw [show m + (d + 1) + 1 = (m + d + 1) + 1 by omega, this]
    exact ih (k + 1) m (by omega) (fun j h1 h2 => hx j (by omega) h2)
theorem w9s {s n p : Nat} {R : Nat → Int32} {N : Mm} (h : YK s n R N) (e : mI N 80 33 = nI p) (hp : p ≤ 200) {k : Nat} (hk : k ≤ 6) (hx : ∀ j, j < k → ¬ mtc R n (wst j) p) : ∀ d i m, i + d = k →
    fX9_word_b9 (m + d) 80 (nI (wst i)) (nI p) (nI i) N = fX9_word_b9 m 80 (nI (wst k)) (nI p) (nI k) N := by
  intro d
  induction d with
  | zero => intro i m hi; rw [show i = k by omega]; rfl
  | succ d ih =>
    intro i m hi
    have := w9f h e hp (k := i) (j := 0) (x2 := p) (m := m + d) (by omega) (Nat.zero_le _) (by omega) (fun x hx => by omega) (hx i (by omega))
    rw [if_pos (show p + 0 ≤ p by omega)] at this
    rw [show m + (d + 1) = (m + d) + 1 by omega, this]
    exact ih (i + 1) m (by omega)
/-- one word's first letter fits only -/
theorem m1 {R : Nat → Int32} {n k p : Nat} (hk : k < 6) (h : mtc R n (wst k) p) {j : Nat} (hj : j < 6) (hne : j ≠ k) : ¬ mtc R n (wst j) p := fun z => by
  have e := h.2.symm.trans z.2
  have a := wc128 (wst k) (by have := wfc k hk; omega)
  have b := wc128 (wst j) (by have := wfc j hj; omega)
  rw [eq_nn (by omega) (by omega)] at e
  exact hne (wfd k hk j hj e).symm
theorem woN {s n p : Nat} {R : Nat → Int32} {N : Mm} (h : YK s n R N) (e : mI N 80 33 = nI p) (hp : p ≤ 200) (hx : ∀ j, j < 6 → ¬ mtc R n (wst j) p) : fX9_word 80 N = some (-nI 1, sI N 80 36 (nI p)) := by
  unfold fX9_word
  rw [kb80 h.2.1, ib80 h.2.1, e]
  exact w9n h e hp ⟨Nat.le_refl _, by omega⟩ 6 0 1993 (by decide) (fun j _ hj => hx j hj)
theorem woF {s n p : Nat} {R : Nat → Int32} {N : Mm} (h : YK s n R N) (e : mI N 80 33 = nI p) (hp : p ≤ 200) {k j : Nat} (hk : k < 6) (h0 : 0 < j) (hj : j ≤ wln k) (hx : ∀ x, x < j → mtc R n (wst k + x) (p + x)) (hn : ¬ mtc R n (wst k + j) (p + j)) : fX9_word 80 N = some (-nI 1, sI N 80 36 (nI (p + j))) := by
  have m0 : mtc R n (wst k) p := hx 0 h0
  have wl := (wfc k hk).2.2.2.1
  unfold fX9_word
  rw [kb80 h.2.1, ib80 h.2.1, e]
  have e1 := w9s h e hp (k := k) (by omega) (fun i hi => m1 hk m0 (by omega) (by omega)) k 0 (2000 - k) (by omega)
  have e2 := w9f h e hp (m := 1999 - k) hk hj (x2 := p) (by omega) hx hn
  have e3 := w9n h e hp (x2 := p + j) ⟨by omega, by omega⟩ (5 - k) (k + 1) 1993 (by omega) (fun i h1 h2 => m1 hk m0 h2 (by omega))
  rw [if_neg (by omega), show 1999 - k + 1 = 2000 - k by omega] at e2
  rw [show 1993 + (5 - k) + 1 = 1999 - k by omega] at e3
  rw [show 2000 - k + k = FU by unfold FU; omega] at e1
  exact e1.trans (e2.trans e3)
theorem woO {s n p : Nat} {R : Nat → Int32} {N : Mm} (h : YK s n R N) (e : mI N 80 33 = nI p) (hp : p ≤ 200) {k : Nat} (hk : k < 6) (hx : ∀ x, x < wln k → mtc R n (wst k + x) (p + x)) (hs : sp R n (p + wln k)) : fX9_word 80 N = some (nI k, sI N 80 33 (nI (p + wln k + 1))) := by
  have wl := (wfc k hk).2.2.2.1
  have m0 : mtc R n (wst k) p := hx 0 (by omega)
  unfold fX9_word
  rw [kb80 h.2.1, ib80 h.2.1, e]
  have e1 := w9s h e hp (k := k) (by omega) (fun i hi => m1 hk m0 (by omega) (by omega)) k 0 (2000 - k) (by omega)
  have e2 := w9o h e hp (m := 1999 - k) (nI p) hk hx hs
  rw [show 1999 - k + 1 = 2000 - k by omega] at e2
  rw [show 2000 - k + k = FU by unfold FU; omega] at e1
  exact e1.trans e2
/-! is a word there -/
def zc (i : Nat) : Nat := (WT.take i).count 0
theorem zc1 : ∀ i, i < 38 → zc (i + 1) = zc i + (if wc i = 0 then 1 else 0) := by decide
theorem zc2 : ∀ k, k < 6 → zc (wst k) = k ∧ ∀ i, i < wst k → zc i < k := by decide
theorem b4z {s n p : Nat} {R : Nat → Int32} {N : Mm} (h : YK s n R N) (e : mI N 80 33 = nI p) {k : Nat} (hk : k < 6) : ∀ d m i, i + d = wst k → fX9_isWordAt_b4 (m + d + 1) 80 (nI k) (nI i) (nI (zc i)) N = fX9_isWordAt_b37 FU 80 (nI (wst k)) (nI p) N := by
  have hF := h.2.1
  have wl := (wfc k hk).2.2.2.2.1
  intro d
  induction d with
  | zero =>
    intro m i hi
    have : i = wst k := by omega
    subst this
    rw [fX9_isWordAt_b4, (zc2 k hk).1, if_pos (by rw [le_nn (by omega) (by omega)]; exact Nat.le_refl _), ib80 hF, e]
  | succ d ih =>
    intro m i hi
    have z1 := zc1 i (by omega)
    have z2 := (zc2 k hk).2 i (by omega)
    have ei : mI N 97 i = nI (wc i) := h.2.2.2.2.2 i (by omega)
    have w := wc128 i (by omega)
    rw [show m + (d + 1) + 1 = (m + d + 1) + 1 by omega, fX9_isWordAt_b4, if_neg (by rw [le_nn (by omega) (by omega)]; omega), rb80_30 hF, ab97 hF (show i < 38 by omega), ei]
    unfold fX9_isWordAt_b24
    by_cases c : wc i = 0
    · rw [if_pos (show nI (wc i) = 0 by rw [c]; rfl), l1, add_nn, add_nn]
      rw [if_pos c] at z1
      rw [← z1]
      exact ih m (i + 1) (by omega)
    · rw [if_neg (by rw [l0, eq_nn (by omega) (by decide)]; exact c), l1, l0, add_nn, add_nn]
      rw [if_neg c] at z1
      rw [← z1]
      exact ih m (i + 1) (by omega)
theorem i37 {s n : Nat} {R : Nat → Int32} {N : Mm} (h : YK s n R N) : ∀ j m i p, (∀ x, x < j → 32 < wc (i + x) ∧ mtc R n (i + x) (p + x)) → i + j < 38 → p < 2000 →
    fX9_isWordAt_b37 (m + j) 80 (nI i) (nI p) N = fX9_isWordAt_b37 m 80 (nI (i + j)) (nI (p + j)) N := by
  have hF := h.2.1
  have hn := h.1.2
  intro j
  induction j with
  | zero => intro m i p _ _ _; rfl
  | succ j ih =>
    intro m i p hx hi hp
    obtain ⟨a, b, c⟩ := hx 0 (by omega)
    rw [Nat.add_zero] at a b c
    rw [Nat.add_zero] at c
    have w := wc128 i (by omega)
    have ei : mI N 97 i = nI (wc i) := h.2.2.2.2.2 i (by omega)
    rw [show m + (j + 1) = (m + j) + 1 by omega, fX9_isWordAt_b37, rb80_30 hF, ab97 hF (show i < 38 by omega), ei, if_neg (by rw [l32, le_nn (by omega) (by decide)]; omega), ib80 hF, h.2.2.2.1, if_neg (by rw [le_nn (by omega) (by omega)]; omega), rb80_27 hF, ib80 hF, h.2.2.1, leY h b, rb80_30 hF, ab97 hF (show i < 38 by omega), ei, h.2.2.2.2.1 p (by omega), if_pos c, l1, add_nn, add_nn,
      ih m (i + 1) (p + 1) (fun x hx2 => by have := hx (x + 1) (by omega); rw [show i + (x + 1) = i + 1 + x by omega, show p + (x + 1) = p + 1 + x by omega] at this; exact this) (by omega) (by omega), show p + 1 + j = p + (j + 1) by omega, show i + 1 + j = i + (j + 1) by omega]
theorem i37e {s n : Nat} {R : Nat → Int32} {N : Mm} (h : YK s n R N) {m i p : Nat} (hi : i < 38) (hp : p < 2000) (hx : wc i ≤ 32 ∨ ¬ mtc R n i p) :
    fX9_isWordAt_b37 (m + 1) 80 (nI i) (nI p) N = some (if 32 < wc i then nI 0 else nI 1, N) := by
  have hF := h.2.1
  have hn := h.1.2
  have ei : mI N 97 i = nI (wc i) := h.2.2.2.2.2 i hi
  have w := wc128 i hi
  have g : fX9_isWordAt_b86 80 (nI i) N = some (if 32 < wc i then nI 0 else nI 1, N) := by
    unfold fX9_isWordAt_b86
    rw [rb80_30 hF, ab97 hF hi, ei]
    by_cases c : 32 < wc i
    · rw [if_pos (by rw [l32, lt_nn (by omega) (by omega)]; exact c), if_pos c]; rfl
    · rw [if_neg (by rw [l32, lt_nn (by omega) (by omega)]; exact c), if_neg c]; rfl
  rw [fX9_isWordAt_b37, rb80_30 hF, ab97 hF hi, ei, g]
  by_cases c0 : wc i ≤ 32
  · rw [if_pos (by rw [l32, le_nn (by omega) (by decide)]; exact c0)]
  · rw [if_neg (by rw [l32, le_nn (by omega) (by decide)]; exact c0), ib80 hF, h.2.2.2.1]
    by_cases c1 : p < n
    · rw [if_neg (by rw [le_nn (by omega) (by omega)]; omega), rb80_27 hF, ib80 hF, h.2.2.1, leY h c1, rb80_30 hF, ab97 hF hi, ei, h.2.2.2.2.1 p (by omega), if_neg (fun z => hx.elim c0 fun y => y ⟨c1, z⟩)]
    · rw [if_pos (by rw [le_nn (by omega) (by omega)]; omega)]
theorem iw1 {s n p : Nat} {R : Nat → Int32} {N : Mm} (h : YK s n R N) (e : mI N 80 33 = nI p) (hp : p ≤ 200) {k : Nat} (hk : k < 6) (hx : ∀ x, x < wln k → mtc R n (wst k + x) (p + x)) : fX9_isWordAt 80 (nI k) N = some (nI 1, N) := by
  obtain ⟨a1, a2, a3, a4, a5, a6⟩ := wfc k hk
  have e1 := b4z h e hk (wst k) (1999 - wst k) 0 (by omega)
  have e2 := i37 h (wln k) (2000 - wln k) (wst k) p (fun x hx2 => ⟨a6 x hx2, hx x hx2⟩) (by omega) (by omega)
  have e3 := i37e h (m := 1999 - wln k) (i := wst k + wln k) (p := p + wln k) (by omega) (by omega) (Or.inl (by omega))
  rw [if_neg (by omega), show 1999 - wln k + 1 = 2000 - wln k by omega] at e3
  rw [show 2000 - wln k + wln k = FU by unfold FU; omega] at e2
  rw [show 1999 - wst k + wst k + 1 = FU by unfold FU; omega] at e1
  unfold fX9_isWordAt
  rw [kb80 h.2.1]
  exact e1.trans (e2.trans e3)
theorem iw0 {s n p : Nat} {R : Nat → Int32} {N : Mm} (h : YK s n R N) (e : mI N 80 33 = nI p) (hp : p ≤ 200) {k j : Nat} (hk : k < 6) (hj : j < wln k) (hx : ∀ x, x < j → mtc R n (wst k + x) (p + x)) (hn : ¬ mtc R n (wst k + j) (p + j)) : fX9_isWordAt 80 (nI k) N = some (nI 0, N) := by
  obtain ⟨a1, a2, a3, a4, a5, a6⟩ := wfc k hk
  have e1 := b4z h e hk (wst k) (1999 - wst k) 0 (by omega)
  have e2 := i37 h j (2000 - j) (wst k) p (fun x hx2 => ⟨a6 x (by omega), hx x hx2⟩) (by omega) (by omega)
  have e3 := i37e h (m := 1999 - j) (i := wst k + j) (p := p + j) (by omega) (by omega) (Or.inr hn)
  rw [if_pos (a6 j hj), show 1999 - j + 1 = 2000 - j by omega] at e3
  rw [show 2000 - j + j = FU by unfold FU; omega] at e2
  rw [show 1999 - wst k + wst k + 1 = FU by unfold FU; omega] at e1
  unfold fX9_isWordAt
  rw [kb80 h.2.1]
  exact e1.trans (e2.trans e3)
abbrev full (a b k : Nat) : Prop := (k = 1 ∧ a = 8) ∨ (k = 2 ∧ b = 8)
theorem isF {N : Mm} (hF : FIX N) {a b k : Nat} (ha : a ≤ 8) (hb : b ≤ 8) (hk : k < 6) (e6 : mI N 80 6 = nI a) (e7 : mI N 80 7 = nI b) : fX9_isFull 80 (nI k) N = some (if full a b k then nI 1 else nI 0, N) := by
  have g : fX9_isFull_b14 80 (nI k) N = some (if k = 2 ∧ b = 8 then nI 1 else nI 0, N) := by
    unfold fX9_isFull_b14
    rw [ib80 hF, e7]
    by_cases c : k = 2
    · rw [if_pos (show nI k = 2 by rw [c]; rfl)]
      by_cases d : b = 8
      · rw [if_pos (show nI b = 8 by rw [d]; rfl), if_pos ⟨c, d⟩]; rfl
      · rw [if_neg (by rw [l8, eq_nn (by omega) (by decide)]; exact d), if_neg (fun z => d z.2)]; rfl
    · rw [if_neg (by rw [l2, eq_nn (by omega) (by decide)]; exact c), if_neg (fun z => c z.1)]; rfl
  unfold fX9_isFull
  rw [kb80 hF, ib80 hF, e6, g]
  by_cases c : k = 1
  · rw [if_pos (show nI k = 1 by rw [c]; rfl)]
    by_cases d : a = 8
    · rw [if_pos (show nI a = 8 by rw [d]; rfl), if_pos (Or.inl ⟨c, d⟩)]; rfl
    · rw [if_neg (by rw [l8, eq_nn (by omega) (by decide)]; exact d), if_neg (by omega), if_neg (by omega)]
  · rw [if_neg (by rw [l1, eq_nn (by omega) (by decide)]; exact c)]
    by_cases d : k = 2 ∧ b = 8
    · rw [if_pos d, if_pos (Or.inr d)]
    · rw [if_neg d, if_neg (by omega)]
