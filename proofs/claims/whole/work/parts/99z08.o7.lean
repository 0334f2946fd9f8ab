/-! the numbers of an item, one behind another -/
def pz (R : Nat → Int32) (n P : Nat) : Nat → Nat
  | 0 => P
  | i + 1 => nP R n (pz R n P i + 1)
def wz (R : Nat → Int32) (n P i : Nat) : Nat := nV R n (pz R n P i + 1)
def goo (R : Nat → Int32) (n P L k i : Nat) : Prop := sp R n (pz R n P i) ∧ nOk R n (pz R n P i + 1) (lwv k i) (tpv L (wz R n P 0) k i)
theorem lwv_b (k j : Nat) : lwv k j < 1000 := by
  unfold lwv
  repeat' split
  all_goals omega
theorem tpv_b {L v k j : Nat} (hL : L ≤ 24) : tpv L v k j < 1000 := by
  unfold tpv
  repeat' split
  all_goals omega
theorem cnt_b {k : Nat} (hk : k < 6) : 0 < cnt k ∧ cnt k ≤ 4 := by
  have : k = 0 ∨ k = 1 ∨ k = 2 ∨ k = 3 ∨ k = 4 ∨ k = 5 := by omega
  rcases this with rfl | rfl | rfl | rfl | rfl | rfl <;> decide
theorem goo_w {R : Nat → Int32} {n P L k i : Nat} (h : goo R n P L k i) : lwv k i ≤ wz R n P i ∧ wz R n P i ≤ tpv L (wz R n P 0) k i := ⟨h.2.2.1, h.2.2.2⟩
theorem goo_p {R : Nat → Int32} {n P L k i : Nat} (h : goo R n P L k i) : pz R n P i < pz R n P (i + 1) ∧ pz R n P (i + 1) ≤ n := by
  have a := nP_b R n (pz R n P i + 1)
  have b := h.1.1
  exact ⟨by show _ < nP R n (pz R n P i + 1); omega, a.2.2 (by omega)⟩
theorem pz_n {R : Nat → Int32} {n P L k : Nat} (hP : P ≤ n) : ∀ i, (∀ x, x < i → goo R n P L k x) → P ≤ pz R n P i ∧ pz R n P i ≤ n := by
  intro i
  induction i with
  | zero => intro _; exact ⟨Nat.le_refl _, hP⟩
  | succ i ih =>
    intro h
    have := ih (fun x hx => h x (by omega))
    have b := goo_p (h i (by omega))
    exact ⟨by omega, b.2⟩
def YPr (s n : Nat) (R : Nat → Int32) (q od : Nat → Nat) (sd : Int32) (t P : Nat) (N0 : Mm) (i : Nat) (N : Mm) : Prop :=
  YK s n R N ∧ mI N 80 33 = nI (pz R n P i) ∧ (∀ x, x < i → mI N 98 x = nI (wz R n P x)) ∧ Fr [98] NE N0 N ∧ (mT N = mT N0 ∧ mW N = mW N0) ∧ MD q od sd N ∧ mI N 80 29 = nI t
theorem NEn {o k : Nat} (h : o ≠ 80 ∨ (k ≠ 33 ∧ k ≠ 35 ∧ k ≠ 36)) : ¬ (o, k) ∈ NE := fun z => by
  simp only [NE, List.mem_cons, Prod.mk.injEq, List.not_mem_nil, or_false] at z
  omega
theorem yP {s n p t : Nat} {R : Nat → Int32} {q od : Nat → Nat} {sd : Int32} {N0 : Mm} (h : YIr s n R q od sd p t N0) (hI : Inv q od) (hpn : p ≤ n) {k : Nat} (hk : k < 6) (hx : ∀ x, x < wln k → mtc R n (wst k + x) (p + x)) (hf : ¬ full (q 62) (q 63) k) : ∀ i, 1 ≤ i → i ≤ cnt k → (∀ x, x < i → goo R n (p + wln k) (q 56) k x) →
    ∃ N1, fX9_item 80 N0 = fX9_item_b122 (2000 - i) 80 (nI k) (nI (cnt k)) (nI i) N1 ∧ YPr s n R q od sd t (p + wln k) N0 i N1 := by
  have hF0 := h.1.2.1
  have h0 := hF0.1
  have hn := h.1.1.2
  have wl := wfc k hk
  have hL := hI.1
  have cb := cnt_b hk
  intro i
  induction i with
  | zero => intro z _ _; omega
  | succ i ih =>
    intro _ hi hg
    by_cases z : i = 0
    · subst z
      obtain ⟨N1, a1, a2, a3, a4, a5, a6⟩ := (yF1 h hI hpn hk hx hf (v := wz R n (p + wln k) 0)).1 (hg 0 (by omega))
      refine ⟨N1, a1, a2, a3, fun x hx => ?_, a5, a6, h.2.2.2.fr hF0 a5 (by decide) (by unfold NE; decide), ?_⟩
      · rw [show x = 0 by omega]; exact a4
      · rw [a5.I (by omega) (by decide) (NEn (Or.inr (by decide)))]; exact h.2.2.1
    · obtain ⟨N1, a1, b1, b2, b3, b4, b5, b6, b7⟩ := ih (by omega) (by omega) (fun x hx => hg x (by omega))
      have h01 := b1.2.1.1
      have g := hg i (by omega)
      have B := (stYj (m := 2000 - (i + 1)) (k := k) (c := cnt k) b1 b2 (j := i) (by
        have := g.1.1
        omega) (by omega) (lwv_b k i) (tpv_b (v := wz R n (p + wln k) 0) (k := k) (j := i) hL.2) (by omega) (fun N' hF' => lowY hF' hk (by omega)) (fun N' hF' e0 e98 => topY (v := wz R n (p + wln k) 0) hF' hk (by omega) hL (by rw [e0]; exact b6.f56) (fun k3 j1 => ⟨by rw [e98]; exact b3 0 (by omega), by
          have := (goo_w (hg 0 (by omega))).2
          subst k3
          exact this⟩))).1 g
      obtain ⟨N2, c1, c2, c3, c4, c5, c6, c7⟩ := B
      refine ⟨N2, ?_, c2, c3, fun x hx => ?_, b4.tr c6, ⟨c7.1.trans b5.1, c7.2.trans b5.2⟩, b6.fr b1.2.1 c6 (by decide) (by unfold NE; decide), ?_⟩
      · rw [show 2000 - i = 2000 - (i + 1) + 1 by omega] at a1
        exact a1.trans c1
      · by_cases e : x = i
        · rw [e]; exact c4
        · rw [c5 x e]; exact b3 x (by omega)
      · rw [c6.I (by omega) (by decide) (NEn (Or.inr (by decide)))]; exact b7
theorem yB {s n p t : Nat} {R : Nat → Int32} {q od : Nat → Nat} {sd : Int32} {N0 : Mm} (h : YIr s n R q od sd p t N0) (hI : Inv q od) (hpn : p ≤ n) {k : Nat} (hk : k < 6) (hx : ∀ x, x < wln k → mtc R n (wst k + x) (p + x)) (hf : ¬ full (q 62) (q 63) k) {i : Nat} (hi : i < cnt k) (hg : ∀ x, x < i → goo R n (p + wln k) (q 56) k x) (bad : ¬ goo R n (p + wln k) (q 56) k i) :
    ∃ N1, fX9_item 80 N0 = some (nI 0, N1) ∧ mI N1 80 36 = nI (ft R n (pz R n (p + wln k) i)) ∧ Fr [98] NE N0 N1 ∧ (mT N1 = mT N0 ∧ mW N1 = mW N0) := by
  have hF0 := h.1.2.1
  have h0 := hF0.1
  have hn := h.1.1.2
  have wl := wfc k hk
  have hL := hI.1
  have cb := cnt_b hk
  by_cases z : i = 0
  · subst z
    exact (yF1 h hI hpn hk hx hf (v := wz R n (p + wln k) 0)).2 bad
  · obtain ⟨N1, a1, b1, b2, b3, b4, b5, b6, b7⟩ := yP h hI hpn hk hx hf i (by omega) (by omega) hg
    have hpl : p + wln k ≤ n := by
      have := (hx (wln k - 1) (by omega)).1
      omega
    have pb := pz_n (L := q 56) (k := k) hpl i hg
    obtain ⟨N2, c1, c2, c3, c4⟩ := (stYj (m := 2000 - (i + 1)) (k := k) (c := cnt k) b1 b2 (j := i) (by omega) (by omega) (lwv_b k i) (tpv_b (v := wz R n (p + wln k) 0) (k := k) (j := i) hL.2) (by omega) (fun N' hF' => lowY hF' hk (by omega)) (fun N' hF' e0 e98 => topY (v := wz R n (p + wln k) 0) hF' hk (by omega) hL (by rw [e0]; exact b6.f56) (fun k3 j1 => ⟨by rw [e98]; exact b3 0 (by omega), by
          have := (goo_w (hg 0 (by omega))).2
          subst k3
          exact this⟩))).2 bad
    rw [show 2000 - i = 2000 - (i + 1) + 1 by omega] at a1
    exact ⟨N2, a1.trans c1, c2, b4.tr c3, ⟨c4.1.trans b5.1, c4.2.trans b5.2⟩⟩
theorem cG {s n r P t L k i lo hi : Nat} {R : Nat → Int32} {M0 M : Mm} {q od : Nat → Nat} {sd : Int32} (h : CIr s n R r M0 q od sd (pz R n P i) t M) (hL : L ≤ 24) (g : goo R n P L k i) (e1 : lo = lwv k i) (e2 : hi = tpv L (wz R n P 0) k i) :
    fX2_readNumber r (nI lo) (nI hi) M = some (nI (wz R n P i), sI M r 2 (nI (pz R n P (i + 1)))) ∧ CIr s n R r M0 q od sd (pz R n P (i + 1)) t (sI M r 2 (nI (pz R n P (i + 1)))) := by
  subst e1
  subst e2
  have hn := h.2.2.1.1.2.2
  have hp := h.2.2.2.2.2.2.2
  exact ⟨rnO h.1 h.2.2.1 h.2.2.2.2.1.1 h.2.2.2.2.1.2.1 (by omega) g.1 (lwv_b k i) (tpv_b hL) g.2, h.at (goo_p g).2⟩
theorem cB {s n r P t L k i lo hi : Nat} {R : Nat → Int32} {M0 M : Mm} {q od : Nat → Nat} {sd : Int32} (h : CIr s n R r M0 q od sd (pz R n P i) t M) (hL : L ≤ 24) (g : ¬ goo R n P L k i) (e1 : lo = lwv k i) (e2 : hi = tpv L (wz R n P 0) k i) :
    ∃ v M1, fX2_readNumber r (nI lo) (nI hi) M = some (v, M1) ∧ FBr s n R r M0 (ft R n (pz R n P i)) M1 ∧ (mT M1 = mT M ∧ mW M1 = mW M) := by
  subst e1
  subst e2
  have hn := h.2.2.1.1.2.2
  have hp := h.2.2.2.2.2.2.2
  obtain ⟨v, x, e⟩ := rnX h.1 h.2.2.1 h.2.2.2.2.1.1 h.2.2.2.2.1.2.1 (by omega) (lwv_b k i) (tpv_b hL) g
  exact ⟨v, _, e, h.bad x (by unfold ft; split <;> omega), by simp only [mT_sI, mW_sI, mK_sI, mI_sI, mJ_sI, mR_sI, mT_sJ, mW_sJ, mK_sJ, mI_sJ, mJ_sJ, mR_sJ, mT_sR, mW_sR, mK_sR, mI_sR, mJ_sR, mR_sR, mT_gI, mW_gI, mK_gI, mI_gI, mJ_gI, mR_gI, mT_gJ, mW_gJ, mK_gJ, mI_gJ, mJ_gJ, mR_gJ, mT_wR, mW_wR, mK_wR, mI_wR, mJ_wR, mR_wR], by simp only [mT_sI, mW_sI, mK_sI, mI_sI, mJ_sI, mR_sI, mT_sJ, mW_sJ, mK_sJ, mI_sJ, mJ_sJ, mR_sJ, mT_sR, mW_sR, mK_sR, mI_sR, mJ_sR, mR_sR, mT_gI, mW_gI, mK_gI, mI_gI, mJ_gI, mR_gI, mT_gJ, mW_gJ, mK_gJ, mI_gJ, mJ_gJ, mR_gJ, mT_wR, mW_wR, mK_wR, mI_wR, mJ_wR, mR_wR]⟩
theorem FBr.rn {s n r f : Nat} {R : Nat → Int32} {M0 M : Mm} (h : FBr s n R r M0 f M) (x1 x2 : Int32) : fX2_readNumber r x1 x2 M = some (x1, M) := rnF h.2.1 h.2.2.2.1.1 (by have := h.2.2.2.1.2; omega) x1 x2
theorem FBr.f3 {s n r f : Nat} {R : Nat → Int32} {M0 M : Mm} (h : FBr s n R r M0 f M) : ¬ mI M r 3 = (-1 : Int32) := by
  rw [h.2.2.2.1.1, show (-1 : Int32) = -nI 1 from by decide, mi_ne (by have := h.2.2.2.1.2; omega) (by decide) (by decide)]
  exact id
theorem CIr.f3 {s n r p t : Nat} {R : Nat → Int32} {M0 M : Mm} {q od : Nat → Nat} {sd : Int32} (h : CIr s n R r M0 q od sd p t M) : mI M r 3 = (-1 : Int32) := h.2.2.2.2.1.2.1.trans (by decide)
theorem YK.mv {s n : Nat} {R : Nat → Int32} {N N1 : Mm} (h : YK s n R N) (f : Fr YD YE N N1) : YK s n R N1 := by
  obtain ⟨a, b, c, d, e, g⟩ := h
  have h0 := b.1
  have n1 : ∀ o, o = 80 ∨ o = 95 ∨ o = 97 → ¬ o ∈ YD := fun o ho z => by simp only [YD, List.mem_cons, List.not_mem_nil, or_false] at z; omega
  have n2 : ∀ o k, (o = 80 ∧ (k = 32 ∨ k = 34)) ∨ o = 97 → ¬ (o, k) ∈ YE := fun o k ho z => by simp only [YE, List.mem_cons, Prod.mk.injEq, List.not_mem_nil, or_false] at z; omega
  exact ⟨a, f.fix b, by rw [f.I (by omega) (n1 _ (by omega)) (n2 _ _ (by omega))]; exact c, by rw [f.I (by omega) (n1 _ (by omega)) (n2 _ _ (by omega))]; exact d, fun y hy => by rw [f.J (by omega) (n1 _ (by omega))]; exact e y hy, fun k hk => by rw [f.I (by omega) (n1 _ (by omega)) (n2 _ _ (by omega))]; exact g k hk⟩
theorem NE_YE {N N1 : Mm} (f : Fr [98] NE N N1) : Fr YD YE N N1 := f.wk (by unfold YD; decide) (by unfold NE YE; decide)
/-- a fault, on both sides -/
theorem OutI.bad {s n r p t : Nat} {R : Nat → Int32} {M0 M M1 : Mm} {q od : Nat → Nat} {sd : Int32} {X : Option Mm} (hI : Inv q od) (hpn : p ≤ n) {k : Nat} (hk : k < 6) (hx : ∀ x, x < wln k → mtc R n (wst k + x) (p + x)) (hf : ¬ full (q 62) (q 63) k) {i : Nat} (hi : i < cnt k) (hg : ∀ x, x < i → goo R n (p + wln k) (q 56) k x) (bad : ¬ goo R n (p + wln k) (q 56) k i)
    (e : X = some M1) (hB : FBr s n R r M0 (ft R n (pz R n (p + wln k) i)) M1) (hT : mT M1 = mT M ∧ mW M1 = mW M) : OutI s n R r M0 q od sd p t M X :=
  Or.inr ⟨_, M1, e, hB, hT, fun N hN => by
    obtain ⟨N1, a1, a2, a3, a4⟩ := yB hN hI hpn hk hx hf hi hg bad
    exact ⟨N1, a1, a2, NE_YE a3, a4⟩⟩
