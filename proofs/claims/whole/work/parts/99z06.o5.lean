/-! the class picks a word -/
def SB (M : Mm) : Prop := ∀ k, k < 7 → (mK M (3 + k)).1 = 32 ∧ mK M (10 + k) = (31, wln k) ∧ ∀ x, x < wln k → mI M (10 + k) x = nI (wc (wst k + x))
theorem SB.sI {M : Mm} (h : SB M) {r : Nat} (hr : 107 ≤ r) (k : Nat) (v : Int32) : SB (sI M r k v) := fun j hj => ⟨(h j hj).1, (h j hj).2.1, fun x hx => by rw [mI_ne (by omega)]; exact (h j hj).2.2 x hx⟩
theorem SB.fr {ds : List Nat} {es : List (Nat × Nat)} {M M1 : Mm} (hF : FIX M) (h : SB M) (f : Fr ds es M M1) (hd : ∀ o ∈ ds, 20 ≤ o) (he : ∀ t ∈ es, 20 ≤ t.1) : SB M1 := by
  have h0 := hF.1
  intro k hk
  obtain ⟨a, b, c⟩ := h k hk
  refine ⟨by rw [f.2.1 _ (by omega)]; exact a, by rw [f.2.1 _ (by omega)]; exact b, fun x hx => ?_⟩
  rw [f.I (by omega) (fun z => by have := hd _ z; omega) (fun z => by have : 20 ≤ 10 + k := he _ z; omega)]
  exact c x hx
theorem SB.ro {A M : Mm} (h : SB A) (r : RO A M) : SB M := fun k hk => by
  obtain ⟨a, b, c⟩ := h k hk
  obtain ⟨a1, -, -⟩ := r (3 + k) (by omega)
  obtain ⟨b1, b2, -⟩ := r (10 + k) (by omega)
  exact ⟨by rw [a1]; exact a, by rw [b1]; exact b, fun x hx => by rw [b2]; exact c x hx⟩
theorem kcT {β : Type} {M : Mm} (h : SB M) {k : Nat} (hk : k < 7) (f : Unit → Option β) : Option.bind (kc M 31 (3 + k)) f = f () := bnd1 (by unfold kc; rw [if_pos (h k hk).1]) f
theorem aLT {β : Type} {M : Mm} (h : SB M) {k : Nat} (hk : k < 7) (f : Int32 → Option β) : Option.bind (aL M (3 + k + 7)) f = f (nI (wln k)) := bnd1 (by
  unfold aL
  rw [show 3 + k + 7 = 10 + k by omega, (h k hk).2.1, if_pos (Or.inr (Or.inr rfl))]
  rfl) f
theorem wln7 : ∀ k, k < 7 → wln k ≤ 6 := by decide
theorem shr0 : ∀ w, w < 7 → nI w >>> ((0 : Int32) &&& 31) = nI w := by decide
theorem leT {M : Mm} (h : SB M) {k : Nat} (hk : k < 7) : fJ0_length_8abf5 (3 + k) M = some (nI (wln k), M) := by
  have e : fJ0_coder_7d493 (3 + k) M = some (0, M) := by
    unfold fJ0_coder_7d493
    rw [kcT h hk, if_neg (by decide), kcT h hk]
  unfold fJ0_length_8abf5
  rw [kcT h hk, kcT h hk, aLT h hk, bnd1 e]
  dsimp only
  rw [shr0 _ (by have := wln7 k hk; omega)]
theorem rcw : ∀ w, w < 128 → rC (((nI w &&& (255 : Int32)).toUInt32 % 65536).toInt32) = some (nI w) ∧ rC (nI w) = some (nI w) := by decide +kernel
theorem chT {M : Mm} (h : SB M) {k x : Nat} (hk : k < 6) (hx : x < wln k) : fJ0_charAt_5068e (3 + k) (nI x) M = some (nI (wc (wst k + x)), M) := by
  obtain ⟨a1, a2, a3, a4, a5, a6⟩ := wfc k hk
  have w := wc128 (wst k + x) (by omega)
  have hb := h k (by omega)
  have e : fJ0_isLatin1_aae02 (3 + k) M = some (1, M) := by
    unfold fJ0_isLatin1_aae02
    rw [kcT h (by omega), if_neg (by decide), kcT h (by omega), if_pos rfl]
  have e2 : fJ0_checkIndex_df160 (nI x) (nI (wln k)) M = some M := by
    unfold fJ0_checkIndex_df160 fJ3_checkIndex_8e157
    rw [if_neg (nI_pos (by omega)), if_pos (by rw [lt_nn (by omega) (by omega)]; exact hx)]
    rfl
  have e3 : aB M (3 + k + 7) (nI x) = some (nI (wc (wst k + x))) := by
    have hc := nI_clamp (show x < 2 ^ 31 by omega)
    unfold aB
    rw [show 3 + k + 7 = 10 + k by omega, hb.2.1, hc, if_pos ⟨rfl, nI_pos (by omega), hx⟩, hb.2.2 x hx]
  have e4 : fJ1_charAt_3b067 (3 + k + 7) (nI x) M = some (nI (wc (wst k + x)), M) := by
    unfold fJ1_charAt_3b067
    rw [aLT h (by omega), bnd1 e2, bnd1 e3, bnd1 (rcw _ w).1]
  unfold fJ0_charAt_5068e
  rw [kcT h (by omega), bnd1 e]
  dsimp only
  rw [if_neg (by decide), kcT h (by omega), bnd1 e4]
  dsimp only
  rw [bnd1 (rcw _ w).2]
theorem ww1 {k : Nat} (hk : k < 6) (M : Mm) : fX2_wordWith (nI (wc (wst k))) M = some (3 + k, M) := by
  have : k = 0 ∨ k = 1 ∨ k = 2 ∨ k = 3 ∨ k = 4 ∨ k = 5 := by omega
  unfold fX2_wordWith
  rcases this with rfl | rfl | rfl | rfl | rfl | rfl
  · rw [if_neg (by decide), if_neg (by decide), if_pos (by decide)]
  · rw [if_neg (by decide), if_neg (by decide), if_neg (by decide), if_pos (by decide)]
  · rw [if_neg (by decide), if_neg (by decide), if_neg (by decide), if_neg (by decide), if_pos (by decide)]
  · rw [if_neg (by decide), if_neg (by decide), if_neg (by decide), if_neg (by decide), if_neg (by decide), if_pos (by decide)]
  · rw [if_pos (by decide)]
  · rw [if_neg (by decide), if_pos (by decide)]
theorem ww0 {x : Int32} (hx : ∀ k, k < 6 → x ≠ nI (wc (wst k))) (M : Mm) : fX2_wordWith x M = some (9, M) := by
  unfold fX2_wordWith
  rw [if_neg (show ¬ x = (97 : Int32) from hx 4 (by decide)), if_neg (show ¬ x = (104 : Int32) from hx 5 (by decide)), if_neg (show ¬ x = (108 : Int32) from hx 0 (by decide)), if_neg (show ¬ x = (115 : Int32) from hx 1 (by decide)), if_neg (show ¬ x = (116 : Int32) from hx 2 (by decide)), if_neg (show ¬ x = (119 : Int32) from hx 3 (by decide))]
theorem ieT {M : Mm} (h : SB M) {k : Nat} (hk : k < 7) : fJ0_isEmpty_aae02 (3 + k) M = some (if k = 6 then 1 else 0, M) := by
  unfold fJ0_isEmpty_aae02
  rw [kcT h hk, kcT h hk, aLT h hk]
  by_cases c : k = 6
  · subst c; rw [if_pos (show nI (wln 6) = 0 by decide), if_pos rfl]
  · have := (wfc k (by omega)).2.2.2.1
    rw [if_neg (by rw [l0, eq_nn (by omega) (by decide)]; omega), if_neg c]
theorem rw17 {r s n : Nat} {R : Nat → Int32} {k : Nat} (hk : k < 6) : ∀ j m i p (M : Mm), FIX M → SB M → RdK r s n R M → mI M r 2 = nI p → mI M r 3 = -nI 1 → p < 2000 → i + j ≤ wln k → (∀ x, x < j → mtc R n (wst k + i + x) (p + x)) →
    fX2_readWord_b17 (m + j) r (3 + k) (nI i) M = fX2_readWord_b17 m r (3 + k) (nI (i + j)) (sI M r 2 (nI (p + j))) := by
  intro j
  induction j with
  | zero => intro m i p M _ _ _ e _ _ _ _; rw [sI_self (show mI M r 2 = nI (p + 0) from e)]; rfl
  | succ j ih =>
    intro m i p M hF hB h e e3 hp hi hx
    have h107 := h.1.1
    have wl := (wfc k hk).2.2.2.1
    have m0 : p < n ∧ R p = nI (wc (wst k + i)) := hx 0 (by omega)
    have hn := h.1.2.2
    have w := wc128 (wst k + i) (by have := (wfc k hk).2.2.2.2.1; omega)
    rw [show m + (j + 1) = (m + j) + 1 by omega, fX2_readWord_b17, bnd1 (leT hB (by omega))]
    dsimp only
    rw [if_neg (by rw [le_nn (by omega) (by omega)]; omega), ibR h, e3, if_pos (show -nI 1 = (-1 : Int32) by decide), bnd1 (chT hB hk (show i < wln k by omega))]
    dsimp only
    rw [bnd1 (pas8 hF h (show p < 2147483648 by omega) e (show wc (wst k + i) < 2147483648 by omega)), if_pos m0, l1, add_nn,
      ih m (i + 1) (p + 1) (sI M r 2 (nI (p + 1))) (FIXr hF _ _ _) (hB.sI h107 _ _) (h.sI _ _) (mI_at _ _ _ _) (by rw [mI_ne (by omega)]; exact e3) (by omega) (by omega) (fun x hx2 => by have := hx (x + 1) (by omega); rw [show wst k + i + (x + 1) = wst k + (i + 1) + x by omega, show p + (x + 1) = p + 1 + x by omega] at this; exact this), sI_sI, show i + 1 + j = i + (j + 1) by omega, show p + 1 + j = p + (j + 1) by omega]
theorem rw17e {r s n f : Nat} {R : Nat → Int32} {k : Nat} (hk : k < 6) {M : Mm} (hB : SB M) (h : RdK r s n R M) {m i : Nat} (hi : i ≤ wln k) (hx : i = wln k ∨ (mI M r 3 = nI f ∧ f < 2147483648)) : fX2_readWord_b17 (m + 1) r (3 + k) (nI i) M = some M := by
  have wl := (wfc k hk).2.2.2.1
  rw [fX2_readWord_b17, bnd1 (leT hB (by omega))]
  dsimp only
  by_cases c : i = wln k
  · rw [if_pos (by rw [le_nn (by omega) (by omega)]; omega)]
  · obtain ⟨a, b⟩ := hx.elim (fun z => absurd z c) id
    rw [if_neg (by rw [le_nn (by omega) (by omega)]; omega), ibR h, a, if_neg (show ¬ nI f = (-1 : Int32) by rw [show (-1 : Int32) = -nI 1 from by decide, mi_ne b (by decide) (by decide)]; exact id)]
theorem rwO {r s n p : Nat} {R : Nat → Int32} {k : Nat} (hk : k < 6) {M : Mm} (hF : FIX M) (hB : SB M) (h : RdK r s n R M) (e : mI M r 2 = nI p) (e3 : mI M r 3 = -nI 1) (hp : p ≤ 200) (hx : ∀ x, x < wln k → mtc R n (wst k + x) (p + x)) :
    fX2_readWord r (3 + k) M = some (sI M r 2 (nI (p + wln k))) := by
  have wl := (wfc k hk).2.2.2.1
  have e1 := rw17 (r := r) (s := s) hk (wln k) (2000 - wln k) 0 p M hF hB h e e3 (by omega) (by omega) (fun x hx2 => by rw [Nat.add_zero]; exact hx x hx2)
  have e2 := rw17e (f := 0) hk (hB.sI h.1.1 2 (nI (p + wln k))) (h.sI 2 (nI (p + wln k))) (m := 1999 - wln k) (i := wln k) (Nat.le_refl _) (Or.inl rfl)
  rw [show 2000 - wln k + wln k = FU by unfold FU; omega, Nat.zero_add] at e1
  rw [show 1999 - wln k + 1 = 2000 - wln k by omega] at e2
  unfold fX2_readWord
  rw [kbR h, bnd1 (ieT hB (by omega))]
  dsimp only
  rw [if_neg (show ¬ k = 6 by omega), if_pos rfl]
  exact e1.trans e2
theorem rwX {r s n p j : Nat} {R : Nat → Int32} {k : Nat} (hk : k < 6) {M : Mm} (hF : FIX M) (hB : SB M) (h : RdK r s n R M) (e : mI M r 2 = nI p) (e3 : mI M r 3 = -nI 1) (hp : p ≤ 200) (hj : j < wln k) (hx : ∀ x, x < j → mtc R n (wst k + x) (p + x)) (hn : ¬ mtc R n (wst k + j) (p + j)) :
    fX2_readWord r (3 + k) M = some (sI (sI M r 2 (nI (p + j))) r 3 (nI (p + j))) := by
  have h107 := h.1.1
  have wl := (wfc k hk).2.2.2.1
  have w := wc128 (wst k + j) (by have := (wfc k hk).2.2.2.2.1; omega)
  have e1 := rw17 (r := r) (s := s) hk j (2000 - j) 0 p M hF hB h e e3 (by omega) (by omega) (fun x hx2 => by rw [Nat.add_zero]; exact hx x hx2)
  rw [show 2000 - j + j = FU by unfold FU; omega, Nat.zero_add] at e1
  have hF1 := FIXr hF r 2 (nI (p + j))
  have hB1 := hB.sI h107 2 (nI (p + j))
  have h1 := h.sI 2 (nI (p + j))
  have e2 := rw17e (f := p + j) hk (hB1.sI h107 3 (nI (p + j))) (h1.sI 3 (nI (p + j))) (m := 1998 - j) (i := j + 1) (by omega) (Or.inr ⟨mI_at _ _ _ _, by omega⟩)
  unfold fX2_readWord
  rw [kbR h, bnd1 (ieT hB (by omega))]
  dsimp only
  rw [if_neg (show ¬ k = 6 by omega), if_pos rfl]
  refine Eq.trans e1 ?_
  rw [show 2000 - j = (1999 - j) + 1 by omega, fX2_readWord_b17, bnd1 (leT hB1 (by omega))]
  dsimp only
  rw [if_neg (by rw [le_nn (by omega) (by omega)]; omega), ibR h1, mI_ne (show r ≠ r ∨ 3 ≠ 2 by omega), e3, if_pos (show -nI 1 = (-1 : Int32) by decide), bnd1 (chT hB1 hk hj)]
  dsimp only
  rw [bnd1 (pas8 hF1 h1 (show p + j < 2147483648 by omega) (mI_at _ _ _ _) (show wc (wst k + j) < 2147483648 by omega)), if_neg hn, l1, add_nn, show 1999 - j = 1998 - j + 1 by omega]
  exact e2
theorem rw0 {r s n p : Nat} {R : Nat → Int32} {M : Mm} (hB : SB M) (h : RdK r s n R M) (e : mI M r 2 = nI p) : fX2_readWord r 9 M = some (sI M r 3 (nI p)) := by
  have h1 := h.sI 3 (nI p)
  have hB1 := hB.sI h.1.1 3 (nI p)
  have e2 := ieT hB (k := 6) (by decide)
  have e4 := leT hB1 (k := 6) (by decide)
  rw [if_pos rfl] at e2
  unfold fX2_readWord
  rw [kbR h, bnd1 (show fJ0_isEmpty_aae02 9 M = some (1, M) from e2)]
  dsimp only
  rw [if_neg (by decide), ibR h, e, pbR h, show FU = 1999 + 1 from rfl, fX2_readWord_b17, bnd1 (show fJ0_length_8abf5 9 (sI M r 3 (nI p)) = some (nI (wln 6), sI M r 3 (nI p)) from e4)]
  dsimp only
  rw [if_pos (by decide)]
