/-! an item on both sides: what is kept -/
def D8 : List Nat := [28, 29, 30, 31, 32, 33]
def YD : List Nat := [82, 83, 84, 85, 86, 87, 88, 89, 98]
def YE : List (Nat × Nat) := [(80, 0), (80, 1), (80, 2), (80, 3), (80, 4), (80, 5), (80, 6), (80, 7), (80, 8), (80, 9), (80, 10), (80, 11), (80, 29), (80, 33), (80, 35), (80, 36)]
theorem Fr.mv {ds ds2 : List Nat} {es es2 : List (Nat × Nat)} {M M1 : Mm} (h : Fr ds es M M1) (hs : ∀ o ∈ ds, o ∈ ds2) (he : ∀ t ∈ es, t ∈ es2 ∨ t.1 ∈ ds2) : Fr ds2 es2 M M1 :=
  ⟨h.1, h.2.1, fun o ho hn => h.2.2.1 o ho (hn.elim (fun z => Or.inl fun y => z (hs o y)) Or.inr), fun o ho hn => ⟨(h.2.2.2 o ho (fun y => hn (hs o y))).1, fun k hk => (h.2.2.2 o ho (fun y => hn (hs o y))).2 k (fun y => (he _ y).elim hk hn)⟩⟩
theorem Sg.sr {M : Mm} {x i r : Nat} {q : Nat → Nat} (h : Sg M x i q) (hk : mK M r = (3, 0)) (k : Nat) (v : Int32) : Sg (sI M r k v) x i q := by
  obtain ⟨a, b, c, d⟩ := h
  have hne : x ≠ r := fun z => by rw [z, hk] at c; exact absurd (congrArg Prod.fst c) (by decide)
  exact ⟨a, b, c, by rw [mI_ne (Or.inl hne), mI_ne (Or.inl hne), mI_ne (Or.inl hne), mI_ne (Or.inl hne), mI_ne (Or.inl hne)]; exact d⟩
theorem Th.sr {M : Mm} {x i r : Nat} {q : Nat → Nat} (h : Th M x i q) (hk : mK M r = (3, 0)) (k : Nat) (v : Int32) : Th (sI M r k v) x i q := by
  obtain ⟨a, b, c, d⟩ := h
  have hne : x ≠ r := fun z => by rw [z, hk] at c; exact absurd (congrArg Prod.fst c) (by decide)
  exact ⟨a, b, c, by rw [mI_ne (Or.inl hne), mI_ne (Or.inl hne), mI_ne (Or.inl hne)]; exact d⟩
theorem Sw.sI {s : Nat} {M : Mm} (h : Sw s M) (a k : Nat) (v : Int32) : Sw s (sI M a k v) := ⟨h.1, h.2.1, h.2.2⟩
theorem St.sr {s r : Nat} {q od : Nat → Nat} {sd : Int32} {M : Mm} (h : St s q od sd M) (hs : s < 107) (hr : 107 ≤ r) (hk : mK M r = (3, 0)) (k : Nat) (v : Int32) : St s q od sd (sI M r k v) := by
  obtain ⟨a, b, c, d, e, g, w⟩ := h
  refine ⟨fun t ht => by rw [mI_ne (by omega)]; exact a t ht, by rw [mI_ne (by omega)]; exact b, by rw [mI_ne (by omega)]; exact c, fun i hi => ?_, fun i hi => ?_, g, w.sI _ _ _⟩
  · obtain ⟨x, hx, y⟩ := d i hi
    exact ⟨x, hx, y.sr hk _ _⟩
  · obtain ⟨x, hx, y⟩ := e i hi
    exact ⟨x, hx, y.sr hk _ _⟩
def CIr (s n : Nat) (R : Nat → Int32) (r : Nat) (M0 : Mm) (q od : Nat → Nat) (sd : Int32) (p t : Nat) (M : Mm) : Prop :=
  FIX M ∧ SB M ∧ RdK r s n R M ∧ (mT M0 ≤ r ∧ r < mT M ∧ Fr D8 [] M0 M) ∧ (mI M r 2 = nI p ∧ mI M r 3 = -nI 1 ∧ mI M r 4 = nI t ∧ t ≤ 1) ∧ St 28 q od sd M ∧ Inv q od ∧ p ≤ n
def FBr (s n : Nat) (R : Nat → Int32) (r : Nat) (M0 : Mm) (f : Nat) (M : Mm) : Prop :=
  FIX M ∧ RdK r s n R M ∧ (mT M0 ≤ r ∧ r < mT M ∧ Fr D8 [] M0 M) ∧ (mI M r 3 = nI f ∧ f ≤ 200) ∧ Sw 28 M
def YIr (s n : Nat) (R : Nat → Int32) (q od : Nat → Nat) (sd : Int32) (p t : Nat) (N : Mm) : Prop := YK s n R N ∧ mI N 80 33 = nI p ∧ mI N 80 29 = nI t ∧ MD q od sd N
theorem CIr.at {s n r p t : Nat} {R : Nat → Int32} {M0 M : Mm} {q od : Nat → Nat} {sd : Int32} (h : CIr s n R r M0 q od sd p t M) {p1 : Nat} (hp : p1 ≤ n) : CIr s n R r M0 q od sd p1 t (sI M r 2 (nI p1)) := by
  obtain ⟨a, b, c, ⟨d1, d2, d3⟩, ⟨e1, e2, e3⟩, g, i, -⟩ := h
  have hr := c.1.1
  exact ⟨FIXr a _ _ _, b.sI hr _ _, c.sI _ _, ⟨d1, d2, d3.xI _ _ d1⟩, ⟨mI_at _ _ _ _, by rw [mI_ne (by omega)]; exact e2, by rw [mI_ne (by omega)]; exact e3⟩, g.sr (by decide) hr c.2.1.1 _ _, i, hp⟩
theorem CIr.told {s n r p t : Nat} {R : Nat → Int32} {M0 M : Mm} {q od : Nat → Nat} {sd : Int32} (h : CIr s n R r M0 q od sd p t M) {t1 : Nat} (ht : t1 ≤ 1) : CIr s n R r M0 q od sd p t1 (sI M r 4 (nI t1)) := by
  obtain ⟨a, b, c, ⟨d1, d2, d3⟩, ⟨e1, e2, e3⟩, g, i, j⟩ := h
  have hr := c.1.1
  exact ⟨FIXr a _ _ _, b.sI hr _ _, c.sI _ _, ⟨d1, d2, d3.xI _ _ d1⟩, ⟨by rw [mI_ne (by omega)]; exact e1, by rw [mI_ne (by omega)]; exact e2, mI_at _ _ _ _, ht⟩, g.sr (by decide) hr c.2.1.1 _ _, i, j⟩
theorem CIr.mv {s n r p t : Nat} {R : Nat → Int32} {M0 M M1 : Mm} {q od q1 od1 : Nat → Nat} {sd : Int32} (h : CIr s n R r M0 q od sd p t M) (f : Fr D8 [] M M1) (hS : St 28 q1 od1 sd M1) (hI : Inv q1 od1) : CIr s n R r M0 q1 od1 sd p t M1 := by
  obtain ⟨a, b, ⟨⟨c0, c1, c2⟩, ⟨c3, c4, c5⟩, c6, c7⟩, ⟨d1, d2, d3⟩, ⟨e1, e2, e3⟩, g, i, j⟩ := h
  have h0 := a.1
  have nr : ¬ r ∈ D8 := fun z => by simp only [D8, List.mem_cons, List.not_mem_nil, or_false] at z; omega
  have n1 : ∀ o, 64 ≤ o → ¬ o ∈ D8 := fun o ho z => by simp only [D8, List.mem_cons, List.not_mem_nil, or_false] at z; omega
  have k : ∀ x, mI M1 r x = mI M r x := fun x => f.I d2 nr List.not_mem_nil
  exact ⟨f.fix a, b.fr a f (by unfold D8; decide) mem0, ⟨⟨c0, c1, c2⟩, ⟨by rw [f.2.1 r d2]; exact c3, by rw [f.R d2 (Or.inl nr)]; exact c4, by rw [f.R d2 (Or.inl nr)]; exact c5⟩, by rw [f.I (by omega) (n1 _ (by omega)) List.not_mem_nil]; exact c6, fun y hy => by rw [f.J (by omega) (n1 _ (by omega))]; exact c7 y hy⟩, ⟨d1, Nat.lt_of_lt_of_le d2 f.1.1, d3.tr f⟩, ⟨by rw [k]; exact e1, by rw [k]; exact e2, by rw [k]; exact e3⟩, hS, hI, j⟩
/-- a fault set at the reader -/
theorem CIr.bad {s n r p t f : Nat} {R : Nat → Int32} {M0 M : Mm} {q od : Nat → Nat} {sd : Int32} (h : CIr s n R r M0 q od sd p t M) (x : Int32) (hf : f ≤ 200) : FBr s n R r M0 f (sI (sI M r 2 x) r 3 (nI f)) := by
  obtain ⟨a, b, c, ⟨d1, d2, d3⟩, -, g, -⟩ := h
  exact ⟨FIXr (FIXr a _ _ _) _ _ _, (c.sI _ _).sI _ _, ⟨d1, d2, (d3.xI _ _ d1).xI _ _ d1⟩, ⟨mI_at _ _ _ _, hf⟩, (g.2.2.2.2.2.2.sI _ _ _).sI _ _ _⟩
theorem FBr.at28 {s n r f : Nat} {R : Nat → Int32} {M0 M : Mm} (h : FBr s n R r M0 f M) (k : Nat) (v : Int32) : FBr s n R r M0 f (sI M 28 k v) := by
  obtain ⟨a, ⟨⟨c0, c1, c2⟩, c3, c6, c7⟩, ⟨d1, d2, d3⟩, ⟨e1, e2⟩, g⟩ := h
  exact ⟨FIXr a _ _ _, ⟨⟨c0, c1, c2⟩, c3, by rw [mI_ne (by omega)]; exact c6, c7⟩, ⟨d1, d2, d3.tr (Fr.oI _ _ (Or.inl (by unfold D8; decide)))⟩, ⟨by rw [mI_ne (by omega)]; exact e1, e2⟩, g.sI _ _ _⟩
def OutI (s n : Nat) (R : Nat → Int32) (r : Nat) (M0 : Mm) (q od : Nat → Nat) (sd : Int32) (p t : Nat) (M : Mm) (X : Option Mm) : Prop :=
  (∃ p1 q1 od1 t1 M1, X = some M1 ∧ CIr s n R r M0 q1 od1 sd p1 t1 M1 ∧ p < p1 ∧ (t1 = 0 → t = 0 ∧ q 62 ≤ q1 62) ∧ (mT M1 ≤ mT M + 1 ∧ mW M1 ≤ mW M + 5) ∧ ∀ N, YIr s n R q od sd p t N → ∃ N1, fX9_item 80 N = some (nI 1, N1) ∧ YIr s n R q1 od1 sd p1 t1 N1 ∧ Fr YD YE N N1 ∧ (mT N1 = mT N ∧ mW N1 = mW N)) ∨
  (∃ f M1, X = some M1 ∧ FBr s n R r M0 f M1 ∧ (mT M1 = mT M ∧ mW M1 = mW M) ∧ ∀ N, YIr s n R q od sd p t N → ∃ N1, fX9_item 80 N = some (nI 0, N1) ∧ mI N1 80 36 = nI f ∧ Fr YD YE N N1 ∧ (mT N1 = mT N ∧ mW N1 = mW N))
/-! bounds -/
def lwv (k j : Nat) : Nat := if k = 0 then 2 else if (k = 1 ∧ j = 2) ∨ (k = 2 ∧ j = 2) ∨ k = 4 then 1 else 0
theorem lowY {N : Mm} (hF : FIX N) {k j : Nat} (hk : k < 6) (hj : j < 4) : fX9_low 80 (nI k) (nI j) N = some (nI (lwv k j), N) := by
  have h1 : k = 0 ∨ k = 1 ∨ k = 2 ∨ k = 3 ∨ k = 4 ∨ k = 5 := by omega
  have h2 : j = 0 ∨ j = 1 ∨ j = 2 ∨ j = 3 := by omega
  unfold fX9_low
  rw [kb80 hF]
  rcases h1 with rfl | rfl | rfl | rfl | rfl | rfl <;> rcases h2 with rfl | rfl | rfl | rfl <;> rfl
def cnt (k : Nat) : Nat := [1, 4, 3, 2, 1, 1].getD k 0
theorem b90Y {N : Mm} {k : Nat} (hk : k < 6) : fX9_item_b90 80 (nI k) N = fX9_item_b122 FU 80 (nI k) (nI (cnt k)) (nI 0) N := by
  have h1 : k = 0 ∨ k = 1 ∨ k = 2 ∨ k = 3 ∨ k = 4 ∨ k = 5 := by omega
  unfold fX9_item_b90
  rcases h1 with rfl | rfl | rfl | rfl | rfl | rfl
  · rw [if_neg (by decide), if_neg (by decide), if_neg (by decide)]; rfl
  · rw [if_pos (by decide)]; rfl
  · rw [if_neg (by decide), if_pos (by decide)]; rfl
  · rw [if_neg (by decide), if_neg (by decide), if_pos (by decide)]; rfl
  · rw [if_neg (by decide), if_neg (by decide), if_neg (by decide)]; rfl
  · rw [if_neg (by decide), if_neg (by decide), if_neg (by decide)]; rfl
/-- what bounds a number above: the street's length L, the number before v -/
def tpv (L v k j : Nat) : Nat := if k = 0 then 24 else if k = 1 then (if j = 0 then 6 else if j = 1 then L - 1 else if j = 2 then 10 else 255) else if k = 2 then (if j = 0 then L - 1 else if j = 1 then 1 else 10) else if k = 3 then (if j = 0 then 10 else 10 - v) else if k = 4 then 9 else 7
theorem topY {N : Mm} (hF : FIX N) {L v k j : Nat} (hk : k < 6) (hj : j < cnt k) (hL : 2 ≤ L ∧ L ≤ 24) (e0 : mI N 80 0 = nI L) (ev : k = 3 → j = 1 → mI N 98 0 = nI v ∧ v ≤ 10) : fX9_top 80 (nI k) (nI j) N = some (nI (tpv L v k j), N) := by
  have h1 : k = 0 ∨ k = 1 ∨ k = 2 ∨ k = 3 ∨ k = 4 ∨ k = 5 := by omega
  have eL : nI L - (1 : Int32) = nI (L - 1) := sub_nn (show 1 ≤ L by omega)
  have hc : cnt k ≤ 4 := by rcases h1 with rfl | rfl | rfl | rfl | rfl | rfl <;> decide
  have h2 : j = 0 ∨ j = 1 ∨ j = 2 ∨ j = 3 := by omega
  unfold fX9_top
  rw [kb80 hF]
  rcases h1 with rfl | rfl | rfl | rfl | rfl | rfl
  · rfl
  · rw [if_neg (by decide), if_pos (by decide)]
    rcases h2 with rfl | rfl | rfl | rfl
    · rfl
    · rw [if_neg (by decide), if_pos (by decide), ib80 hF, e0, eL]; rfl
    · rw [if_neg (by decide), if_neg (by decide), if_pos (by decide)]; rfl
    · rw [if_neg (by decide), if_neg (by decide), if_neg (by decide)]; rfl
  · rw [if_neg (by decide), if_neg (by decide), if_pos (by decide)]
    rcases h2 with rfl | rfl | rfl | rfl
    · rw [if_pos (by decide), ib80 hF, e0, eL]; rfl
    · rw [if_neg (by decide), if_pos (by decide)]; rfl
    · rw [if_neg (by decide), if_neg (by decide)]; rfl
    · exact absurd hj (by decide)
  · rw [if_neg (by decide), if_neg (by decide), if_neg (by decide), if_pos (by decide)]
    rcases h2 with rfl | rfl | rfl | rfl
    · rw [if_pos (by decide)]; rfl
    · obtain ⟨e1, e2⟩ := ev rfl rfl
      rw [if_neg (by decide), rb80_31 hF, l0, ab98 hF (by decide), e1, l10, sub_nn e2]; rfl
    · exact absurd hj (by decide)
    · exact absurd hj (by decide)
  · rw [if_neg (by decide), if_neg (by decide), if_neg (by decide), if_neg (by decide), if_pos (by decide)]; rfl
  · rw [if_neg (by decide), if_neg (by decide), if_neg (by decide), if_neg (by decide), if_neg (by decide)]; rfl
/-- up to the first number -/
theorem yF1 {s n p t : Nat} {R : Nat → Int32} {q od : Nat → Nat} {sd : Int32} {N : Mm} (h : YIr s n R q od sd p t N) (hI : Inv q od) (hpn : p ≤ n) {k : Nat} (hk : k < 6) (hx : ∀ x, x < wln k → mtc R n (wst k + x) (p + x)) (hf : ¬ full (q 62) (q 63) k) {v : Nat} :
    (sp R n (p + wln k) ∧ nOk R n (p + wln k + 1) (lwv k 0) (tpv (q 56) v k 0) → ∃ N1, fX9_item 80 N = fX9_item_b122 1999 80 (nI k) (nI (cnt k)) (nI 1) N1 ∧ YK s n R N1 ∧ mI N1 80 33 = nI (nP R n (p + wln k + 1)) ∧ mI N1 98 0 = nI (nV R n (p + wln k + 1)) ∧ Fr [98] NE N N1 ∧ (mT N1 = mT N ∧ mW N1 = mW N)) ∧
    (¬ (sp R n (p + wln k) ∧ nOk R n (p + wln k + 1) (lwv k 0) (tpv (q 56) v k 0)) → ∃ N1, fX9_item 80 N = some (nI 0, N1) ∧ mI N1 80 36 = nI (ft R n (p + wln k)) ∧ Fr [98] NE N N1 ∧ (mT N1 = mT N ∧ mW N1 = mW N)) := by
  obtain ⟨hY, e, -, hM⟩ := h
  have hn := hY.1.2
  have wl := wfc k hk
  have hL := hI.1
  have hq := hI.sg
  have c1 : 0 < cnt k ∧ cnt k ≤ 4 := by
    have : k = 0 ∨ k = 1 ∨ k = 2 ∨ k = 3 ∨ k = 4 ∨ k = 5 := by omega
    rcases this with rfl | rfl | rfl | rfl | rfl | rfl <;> decide
  have tb : tpv (q 56) v k 0 < 1000 := by unfold tpv; repeat' split
                                          all_goals omega
  have lb : lwv k 0 < 1000 := by unfold lwv; repeat' split
                                 all_goals omega
  by_cases hs : sp R n (p + wln k)
  · have hY1 := hY.at (k := 33) (by omega) (nI (p + wln k + 1))
    have f0 : Fr [98] NE N (sI N 80 33 (nI (p + wln k + 1))) := Fr.oI _ _ (Or.inr (by decide))
    have e1 := itmO hY e (by omega) hq.1 hq.2 hM.f62 hM.f63 hk hx hs hf
    rw [b90Y hk] at e1
    have hp2 := hs.1
    have B := stY0 (m := 1999) hY1 (mI_at _ _ _ _) (show p + wln k + 1 ≤ 200 by omega) lb tb (k := k) (c := cnt k) c1 (lowY hY1.2.1 hk (by decide)) (topY (v := v) hY1.2.1 hk c1.1 hL (by rw [mI_ne (by decide)]; exact hM.f56) (fun _ z => absurd z (by decide)))
    refine ⟨fun ok => ?_, fun bad => ?_⟩
    · obtain ⟨N1, a1, a2, a3, a4, -, a6, a7⟩ := B.1 ok.2
      exact ⟨N1, e1.trans a1, a2, a3, a4, f0.tr a6, a7⟩
    · obtain ⟨N1, a1, a2, a3, a4⟩ := B.2 (fun z => bad ⟨hs, z⟩)
      exact ⟨N1, e1.trans a1, by rw [a2]; unfold ft; rw [if_pos hs], f0.tr a3, a4⟩
  · refine ⟨fun ok => absurd ok.1 hs, fun _ => ⟨sI N 80 36 (nI (p + wln k)), itmF hY e (by omega) hq.1 hq.2 hM.f62 hM.f63 hk (by omega) (Nat.le_refl _) hx (by rw [show mtc R n (wst k + wln k) (p + wln k) = (p + wln k < n ∧ R (p + wln k) = nI (wc (wst k + wln k))) from rfl, wl.1]; exact hs) (Or.inr hf), by rw [mI_at]; unfold ft; rw [if_neg hs], Fr.oI _ _ (Or.inr (by decide)), by simp only [mT_sI, mW_sI, mK_sI, mI_sI, mJ_sI, mR_sI, mT_sJ, mW_sJ, mK_sJ, mI_sJ, mJ_sJ, mR_sJ, mT_sR, mW_sR, mK_sR, mI_sR, mJ_sR, mR_sR, mT_gI, mW_gI, mK_gI, mI_gI, mJ_gI, mR_gI, mT_gJ, mW_gJ, mK_gJ, mI_gJ, mJ_gJ, mR_gJ, mT_wR, mW_wR, mK_wR, mI_wR, mJ_wR, mR_wR], by simp only [mT_sI, mW_sI, mK_sI, mI_sI, mJ_sI, mR_sI, mT_sJ, mW_sJ, mK_sJ, mI_sJ, mJ_sJ, mR_sJ, mT_sR, mW_sR, mK_sR, mI_sR, mJ_sR, mR_sR, mT_gI, mW_gI, mK_gI, mI_gI, mJ_gI, mR_gI, mT_gJ, mW_gJ, mK_gJ, mI_gJ, mJ_gJ, mR_gJ, mT_wR, mW_wR, mK_wR, mI_wR, mJ_wR, mR_wR]⟩⟩
