/-! the reference reads numbers and words -/
def YK (s n : Nat) (R : Nat → Int32) (N : Mm) : Prop := (s < 8 ∧ n ≤ 160) ∧ FIX N ∧ mI N 80 32 = nI (160 * s) ∧ mI N 80 34 = nI n ∧ (∀ y, y < 160 → (mJ N 95 (160 * s + y)).toInt32 = R y) ∧ Ws N
theorem YK.at {s n : Nat} {R : Nat → Int32} {N : Mm} (h : YK s n R N) {k : Nat} (hk : k ≠ 32 ∧ k ≠ 34) (v : Int32) : YK s n R (sI N 80 k v) := by
  obtain ⟨a, b, c, d, e, f⟩ := h
  refine ⟨a, FIXr b _ _ _, by rw [mI_sI, if_neg (by omega)]; exact c, by rw [mI_sI, if_neg (by omega)]; exact d, e, fun j hj => by rw [mI_sI, if_neg (by omega)]; exact f j hj⟩
theorem YK.a98 {s n : Nat} {R : Nat → Int32} {N : Mm} (h : YK s n R N) (k : Nat) (v : Int32) : YK s n R (sI N 98 k v) := by
  obtain ⟨a, b, c, d, e, f⟩ := h
  refine ⟨a, FIXr b _ _ _, by rw [mI_sI, if_neg (by omega)]; exact c, by rw [mI_sI, if_neg (by omega)]; exact d, e, fun j hj => by rw [mI_sI, if_neg (by omega)]; exact f j hj⟩
theorem mI_ne {M : Mm} {a k x j : Nat} {v : Int32} (h : x ≠ a ∨ j ≠ k) : mI (sI M a k v) x j = mI M x j := by rw [mI_sI, if_neg (by omega)]
/-- the letter at p -/
theorem leY {β : Type} {s n p : Nat} {R : Nat → Int32} {N : Mm} (h : YK s n R N) (hp : p < n) (f : Int64 → Option β) : Option.bind (aJ N 95 (nI (160 * s) + nI p)) f = f (mJ N 95 (160 * s + p)) := by
  obtain ⟨a, b, -⟩ := h
  rw [add_nn, ab95 b (by omega)]
theorem dgY {s n p : Nat} {R : Nat → Int32} {N : Mm} (h : YK s n R N) (hp : p < 2147483648) (e : mI N 80 33 = nI p) : fX9_isDigit 80 N = some (if dgt R n p then nI 1 else nI 0, N) := by
  have hF := h.2.1
  have h2 := h.1.2
  unfold fX9_isDigit
  rw [kb80 hF, ib80 hF, ib80 hF, e, h.2.2.2.1]
  by_cases c : p < n
  · have l1 : ∀ {β : Type} (f : Int64 → Option β), Option.bind (aJ N 95 (nI (160 * s) + nI p)) f = f (mJ N 95 (160 * s + p)) := fun f => leY h c f
    rw [if_neg (by rw [le_nn (by omega) (by omega)]; omega), rb80_27 hF, ib80 hF, ib80 hF, e, h.2.2.1, l1, h.2.2.2.2.1 p (by omega)]
    by_cases d : R p < 48
    · rw [if_pos d, if_neg (fun z => z.2.1 d)]
      rfl
    · rw [if_neg d, rb80_27 hF, ib80 hF, ib80 hF, e, h.2.2.1, l1, h.2.2.2.2.1 p (by omega)]
      by_cases d2 : 57 < R p
      · rw [if_pos d2, if_neg (fun z => z.2.2 d2)]
        rfl
      · rw [if_neg d2, if_pos (show dgt R n p from ⟨c, d, d2⟩)]
        rfl
  · rw [if_pos (by rw [le_nn (by omega) (by omega)]; omega), if_neg (fun z => c z.1)]
    rfl
theorem ynL {s n : Nat} {R : Nat → Int32} (x1 x2 x3 : Int32) : ∀ k m c p v (N : Mm), YK s n R N → mI N 80 33 = nI p → mI N 80 35 = nI v → c + k = 3 → p < 2000 →
    fX9_number_b29 (m + k + 1) 80 x1 x2 x3 (nI c) N = fX9_number_b88 80 x1 x2 x3 (sI (sI N 80 35 (nI (nme R n k p v).2)) 80 33 (nI (nme R n k p v).1)) := by
  intro k
  induction k with
  | zero =>
    intro m c p v N h e e5 hc hp
    rw [fX9_number_b29, if_pos (by rw [l3, le_nn (by decide) (by omega)]; omega), sI_self (show mI N 80 35 = nI (nme R n 0 p v).2 from e5), sI_self (show mI N 80 33 = nI (nme R n 0 p v).1 from e)]
  | succ k ih =>
    intro m c p v N h e e5 hc hp
    have hF := h.2.1
    have e1 := dgY h (show p < 2147483648 by omega) e
    have E : nme R n (k + 1) p v = if dgt R n p then nme R n k (p + 1) (10 * v + dvl R p) else (p, v) := rfl
    rw [show m + (k + 1) + 1 = (m + k + 1) + 1 by omega, fX9_number_b29, if_neg (by rw [l3, le_nn (by decide) (by omega)]; omega), bnd1 e1]
    dsimp only
    by_cases d : dgt R n p
    · have hpn := d.1
      have hn := h.1.2
      have dv := dgt_v d
      have h1 := h.at (k := 35) (by omega) (nI (10 * v + dvl R p))
      have hF1 := h1.2.1
      rw [E, if_pos d, if_pos d, if_neg (show ¬ nI 1 = 0 by decide), ib80 hF, rb80_27 hF, ib80 hF, ib80 hF, e, e5, h.2.2.1, leY h hpn, h.2.2.2.2.1 p (by omega), dv.2, l10, l48, mul_nn, add_nn, sub_nn (by omega), show 10 * v + (48 + dvl R p) - 48 = 10 * v + dvl R p by omega, pb80 hF, ib80 hF1, mI_sI, if_neg (by omega), e, pb80 hF1, l1, add_nn, add_nn,
        ih m (c + 1) (p + 1) (10 * v + dvl R p) _ (h1.at (k := 33) (by omega) (nI (p + 1))) (mI_at _ _ _ _) (by rw [mI_sI, if_neg (by omega), mI_at]) (by omega) (by omega), sI_four (by decide)]
    · rw [E, if_neg d, if_neg d, if_pos (show nI 0 = 0 from rfl), sI_self e5, sI_self e]
theorem wrY {N : Mm} (hF : FIX N) (x : Int32) : fX9_wrong 80 x N = some (nI 0, sI N 80 36 x) := by
  unfold fX9_wrong
  rw [kb80 hF, pb80 hF]
  rfl
theorem rz0 {β : Type} (f : Int32 → Option β) : Option.bind (rZ (nI 0)) f = f (nI 0) := rfl
theorem nuO {s n p lo hi : Nat} {R : Nat → Int32} {N : Mm} (h : YK s n R N) (e : mI N 80 33 = nI p) (hp : p ≤ 200) (hl : lo < 1000) (hh : hi < 1000) (ok : nOk R n p lo hi) :
    fX9_number 80 (nI lo) (nI hi) N = some (nI 1, sI (sI N 80 35 (nI (nV R n p))) 80 33 (nI (nP R n p))) := by
  have hF := h.2.1
  have h1 := h.at (k := 35) (by omega) (nI 0)
  have e2 : mI (sI N 80 35 (nI 0)) 80 33 = nI p := by rw [mI_sI, if_neg (by omega)]; exact e
  have e1 := dgY h1 (show p < 2147483648 by omega) e2
  rw [if_pos ok.1] at e1
  have L := ynL (s := s) (n := n) (R := R) (nI lo) (nI hi) (nI p) 3 1996 0 p 0 _ h1 e2 (mI_at _ _ _ _) (by decide) (by omega)
  have v3 : (nme R n 3 p 0).2 < 1000 := nV_lt R n p
  rw [sI_sI] at L
  unfold fX9_number
  rw [kb80 hF, ib80 hF, e, pb80 hF, l0, bnd1 e1]
  dsimp only
  rw [if_neg (show ¬ nI 1 = nI 0 by decide)]
  refine Eq.trans L ?_
  have h2 := (h.at (k := 35) (by omega) (nI (nme R n 3 p 0).2)).at (k := 33) (by omega) (nI (nme R n 3 p 0).1)
  unfold fX9_number_b88
  rw [ib80 h2.2.1, mI_ne (show 80 ≠ 80 ∨ 35 ≠ 33 by decide), mI_at, if_neg (by rw [lt_nn (by omega) (by omega)]; have := ok.2.1; omega), ib80 h2.2.1, mI_ne (show 80 ≠ 80 ∨ 35 ≠ 33 by decide), mI_at, if_pos (by rw [le_nn (by omega) (by omega)]; exact ok.2.2)]
  rfl
theorem nuX {s n p lo hi : Nat} {R : Nat → Int32} {N : Mm} (h : YK s n R N) (e : mI N 80 33 = nI p) (hp : p ≤ 200) (hl : lo < 1000) (hh : hi < 1000) (bad : ¬ nOk R n p lo hi) :
    ∃ x y, fX9_number 80 (nI lo) (nI hi) N = some (nI 0, sI (sI (sI N 80 35 x) 80 33 y) 80 36 (nI p)) := by
  have hF := h.2.1
  have h1 := h.at (k := 35) (by omega) (nI 0)
  have e2 : mI (sI N 80 35 (nI 0)) 80 33 = nI p := by rw [mI_sI, if_neg (by omega)]; exact e
  have e1 := dgY h1 (show p < 2147483648 by omega) e2
  by_cases d : dgt R n p
  rotate_left
  · rw [if_neg d] at e1
    refine ⟨nI 0, nI p, ?_⟩
    unfold fX9_number
    rw [kb80 hF, ib80 hF, e, pb80 hF, l0, bnd1 e1]
    dsimp only
    rw [if_pos (show nI 0 = nI 0 from rfl), ib80 h1.2.1, e2, bnd1 (wrY h1.2.1 _)]
    dsimp only
    rw [rz0, sI_self e2]
  rw [if_pos d] at e1
  have L := ynL (s := s) (n := n) (R := R) (nI lo) (nI hi) (nI p) 3 1996 0 p 0 _ h1 e2 (mI_at _ _ _ _) (by decide) (by omega)
  have v3 : (nme R n 3 p 0).2 < 1000 := nV_lt R n p
  rw [sI_sI] at L
  refine ⟨nI (nme R n 3 p 0).2, nI (nme R n 3 p 0).1, ?_⟩
  unfold fX9_number
  rw [kb80 hF, ib80 hF, e, pb80 hF, l0, bnd1 e1]
  dsimp only
  rw [if_neg (show ¬ nI 1 = nI 0 by decide)]
  refine Eq.trans L ?_
  have h2 := (h.at (k := 35) (by omega) (nI (nme R n 3 p 0).2)).at (k := 33) (by omega) (nI (nme R n 3 p 0).1)
  have e4 : fX9_number_b104 80 (nI p) (sI (sI N 80 35 (nI (nme R n 3 p 0).2)) 80 33 (nI (nme R n 3 p 0).1)) = some (nI 0, sI (sI (sI N 80 35 (nI (nme R n 3 p 0).2)) 80 33 (nI (nme R n 3 p 0).1)) 80 36 (nI p)) := by
    unfold fX9_number_b104
    rw [bnd1 (wrY h2.2.1 _)]
    dsimp only
    rw [if_pos (show nI 0 = 0 from rfl)]
    rfl
  unfold fX9_number_b88
  rw [ib80 h2.2.1, mI_ne (show 80 ≠ 80 ∨ 35 ≠ 33 by decide), mI_at]
  by_cases c1 : (nme R n 3 p 0).2 < lo
  · rw [if_pos (by rw [lt_nn (by omega) (by omega)]; exact c1), e4]
  · rw [if_neg (by rw [lt_nn (by omega) (by omega)]; exact c1), ib80 h2.2.1, mI_ne (show 80 ≠ 80 ∨ 35 ≠ 33 by decide), mI_at, if_neg (by rw [le_nn (by omega) (by omega)]; intro z; exact bad ⟨d, by omega, z⟩), e4]
/-! words -/
def wst (k : Nat) : Nat := [0, 6, 12, 19, 27, 32, 38].getD k 0
def wln (k : Nat) : Nat := [4, 4, 5, 6, 3, 4, 0].getD k 0
abbrev wc (i : Nat) : Nat := WT.getD i 0
abbrev mtc (R : Nat → Int32) (n i p : Nat) : Prop := p < n ∧ R p = nI (wc i)
theorem wfc : ∀ k, k < 6 → wc (wst k + wln k) = 32 ∧ wc (wst k + wln k + 1) = 0 ∧ wst (k + 1) = wst k + wln k + 2 ∧ (1 ≤ wln k ∧ wln k ≤ 6) ∧ wst k + wln k + 1 < 38 ∧ ∀ x, x < wln k → 32 < wc (wst k + x) := by decide
theorem wc128 : ∀ i, i < 38 → wc i < 128 := by decide
theorem wfd : ∀ k, k < 6 → ∀ j, j < 6 → wc (wst k) = wc (wst j) → k = j := by decide
theorem ffail (P : Nat → Prop) : ∀ L, (∀ x, x < L → P x) ∨ ∃ j, j < L ∧ (∀ x, x < j → P x) ∧ ¬ P j := by
  intro L
  induction L with
  | zero => left; intro x hx; omega
  | succ L ih =>
    rcases ih with a | ⟨j, hj, b, c⟩
    · by_cases d : P L
      · left
        intro x hx
        by_cases e : x = L
        · rw [e]; exact d
        · exact a x (by omega)
      · right; exact ⟨L, by omega, a, d⟩
    · right; exact ⟨j, by omega, b, c⟩
theorem w24 {s n : Nat} {R : Nat → Int32} {k9 : Nat → Int32 → Int32 → Int32 → Mm → Option (Int32 × Mm)} {x1 x2 x3 : Int32} {N : Mm} (h : YK s n R N) : ∀ j m i p, (∀ x, x < j → wc (i + x) ≠ 0 ∧ mtc R n (i + x) (p + x)) → i + j < 38 → p < 2000 →
    fX9_word_b24 k9 (m + j) 80 x1 x2 x3 (nI p) (nI i) N = fX9_word_b24 k9 m 80 x1 x2 x3 (nI (p + j)) (nI (i + j)) N := by
  have hF := h.2.1
  have hn := h.1.2
  intro j
  induction j with
  | zero => intro m i p _ _ _; rfl
  | succ j ih =>
    intro m i p hx hi hp
    obtain ⟨a, b, c⟩ := hx 0 (by omega)
    rw [Nat.add_zero] at a b c
    rw [Nat.add_zero] at c
    have w := wc128 i (by omega)
    have ei : mI N 97 i = nI (wc i) := h.2.2.2.2.2 i (by omega)
    rw [show m + (j + 1) = (m + j) + 1 by omega, fX9_word_b24, rb80_30 hF, ab97 hF (show i < 38 by omega), ei, if_neg (by rw [l0, eq_nn (by omega) (by decide)]; exact a), ib80 hF, h.2.2.2.1, if_neg (by rw [le_nn (by omega) (by omega)]; omega), rb80_27 hF, ib80 hF, h.2.2.1, leY h b, rb80_30 hF, ab97 hF (show i < 38 by omega), ei, h.2.2.2.2.1 p (by omega), if_pos c, l1, add_nn, add_nn,
      ih m (i + 1) (p + 1) (fun x hx2 => by have := hx (x + 1) (by omega); rw [show i + (x + 1) = i + 1 + x by omega, show p + (x + 1) = p + 1 + x by omega] at this; exact this) (by omega) (by omega), show p + 1 + j = p + (j + 1) by omega, show i + 1 + j = i + (j + 1) by omega]
theorem w24e {s n : Nat} {R : Nat → Int32} {k9 : Nat → Int32 → Int32 → Int32 → Mm → Option (Int32 × Mm)} {x1 x2 x3 : Int32} {N : Mm} (h : YK s n R N) {m i p : Nat} (hi : i < 38) (hp : p < 2000) (hx : wc i = 0 ∨ ¬ mtc R n i p) :
    fX9_word_b24 k9 (m + 1) 80 x1 x2 x3 (nI p) (nI i) N = fX9_word_b75 k9 80 x1 x2 x3 (nI p) (nI i) N := by
  have hF := h.2.1
  have hn := h.1.2
  have ei : mI N 97 i = nI (wc i) := h.2.2.2.2.2 i hi
  have w := wc128 i hi
  rw [fX9_word_b24, rb80_30 hF, ab97 hF hi, ei]
  by_cases c0 : wc i = 0
  · rw [if_pos (show nI (wc i) = 0 by rw [c0]; rfl)]
  · rw [if_neg (by rw [l0, eq_nn (by omega) (by decide)]; exact c0), ib80 hF, h.2.2.2.1]
    by_cases c1 : p < n
    · rw [if_neg (by rw [le_nn (by omega) (by omega)]; omega), rb80_27 hF, ib80 hF, h.2.2.1, leY h c1, rb80_30 hF, ab97 hF hi, ei, h.2.2.2.2.1 p (by omega), if_neg (fun z => hx.elim c0 fun y => y ⟨c1, z⟩)]
    · rw [if_pos (by rw [le_nn (by omega) (by omega)]; omega)]
theorem w106 {s n : Nat} {R : Nat → Int32} {k9 : Nat → Int32 → Int32 → Int32 → Mm → Option (Int32 × Mm)} {x2 : Int32} {N : Mm} (h : YK s n R N) {k : Nat} {e : Nat} (he : e < 38) (h0 : wc e = 0) : ∀ d m i, i + d = e → (∀ x, x < d → wc (i + x) ≠ 0) → fX9_word_b106 k9 (m + d + 1) 80 (nI i) x2 (nI k) N = k9 80 (nI (e + 1)) x2 (nI (k + 1)) N := by
  have hF := h.2.1
  intro d
  induction d with
  | zero =>
    intro m i hi _
    have ei : mI N 97 i = nI (wc i) := h.2.2.2.2.2 i (by omega)
    have : i = e := by omega
    subst this
    rw [fX9_word_b106, rb80_30 hF, ab97 hF he, ei, h0, if_pos (show nI 0 = 0 from rfl), l1, add_nn, add_nn]
  | succ d ih =>
    intro m i hi hx
    have ei : mI N 97 i = nI (wc i) := h.2.2.2.2.2 i (by omega)
    have w := wc128 i (by omega)
    have c0 := hx 0 (by omega)
    rw [Nat.add_zero] at c0
    rw [show m + (d + 1) + 1 = (m + d + 1) + 1 by omega, fX9_word_b106, rb80_30 hF, ab97 hF (show i < 38 by omega), ei, if_neg (by rw [l0, eq_nn (by omega) (by decide)]; exact c0), l1, add_nn]
    have := ih m (i + 1) (by omega) (fun x hx2 => by have := hx (x + 1) (by omega); rw [show i + (x + 1) = i + 1 + x by omega] at this; exact this)
    exact this
