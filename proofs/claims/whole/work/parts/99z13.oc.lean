/-! town -/
theorem MKc.fr {c e : Nat} {ds : List Nat} {es : List (Nat × Nat)} {M M1 : Mm} (hF : FIX M) (f : Fr ds es M M1) {q od : Nat → Nat} {sd : Int32} (h : MKc c e q od sd M) (hc : c < 107 ∧ e < 107) (h1 : ¬ c ∈ ds) (h2 : ¬ e ∈ ds) (he : ∀ o ∈ es, o.1 ≠ c) : MKc c e q od sd M1 := by
  have h0 := hF.1
  have ne : ∀ k, ¬ (c, k) ∈ es := fun k x => he _ x rfl
  obtain ⟨a, b, d, g⟩ := h
  exact ⟨fun k hk => by rw [f.I (by omega) h1 (ne _)]; exact a k hk, by rw [f.I (by omega) h1 (ne _)]; exact b, by rw [f.I (by omega) h1 (ne _)]; exact d, fun k hk => by rw [f.J (by omega) h2]; exact g k hk⟩
theorem REL.upd3 {ds : List Nat} {es : List (Nat × Nat)} {A : Mm} {q od q1 od1 q2 od2 : Nat → Nat} {sd sd1 sd2 : Int32} {b : Nat} {M M1 : Mm} (h : REL A q od sd b q2 od2 sd2 M) (f : Fr ds es M M1)
    (hd : ∀ o ∈ ds, scr o ∨ (64 ≤ o ∧ o < 80) ∨ (91 ≤ o ∧ o ≤ 96)) (he : ∀ t ∈ es, scf t ∨ (64 ≤ t.1 ∧ t.1 < 80) ∨ (91 ≤ t.1 ∧ t.1 ≤ 96) ∨ (t.1 = 20 ∧ t.2 = 6) ∨ (t.1 = 80 ∧ t.2 = 12) ∨ t.1 = 40 ∨ t.1 = 81) (hI : Inv q1 od1) (hS : St 22 q1 od1 sd1 M1) (hM : MD q1 od1 sd1 M1) (hw : Sw 28 M1) (hs : ∀ s, s < 8 → Sh s q1 M1) (h10 : Rf M1) (h11 : mI M1 20 6 = mI M1 80 12) : REL A q1 od1 sd1 b q2 od2 sd2 M1 := by
  unfold scr at hd
  unfold scf at he
  obtain ⟨a1, a2, a3, a4, a5, a6, a7, ⟨i1, i2, i3⟩, a9, a10, a11, ⟨n, t1, t2, t3, t4⟩, a13⟩ := h
  have h0 := a1.1
  have n0 : ∀ o, (34 ≤ o ∧ o ≤ 39) ∨ (o = 20 ∨ o = 21 ∨ o = 61 ∨ o = 62) ∨ o = 80 ∨ o = 97 ∨ o = 100 ∨ o = 102 ∨ o = 106 → ¬ o ∈ ds := fun o ho x => by have := hd o x; omega
  have ne : ∀ o k, ((34 ≤ o ∧ o ≤ 39) ∨ (o = 20 ∧ k < 6) ∨ (o = 21 ∨ o = 61 ∨ o = 62) ∨ (o = 80 ∧ 47 ≤ k) ∨ o = 97 ∨ o = 100 ∨ o = 102 ∨ o = 106) → ¬ (o, k) ∈ es := fun o k ho x => by
    have := he _ x
    simp only at this
    omega
  have g : ∀ o k, ((34 ≤ o ∧ o ≤ 39) ∨ (o = 20 ∧ k < 6) ∨ (o = 21 ∨ o = 61 ∨ o = 62) ∨ (o = 80 ∧ 47 ≤ k) ∨ o = 97 ∨ o = 100 ∨ o = 102 ∨ o = 106) → mI M1 o k = mI M o k := fun o k b => f.I (by omega) (n0 o (by omega)) (ne o k b)
  refine ⟨f.fix a1, a2.fr a1 f (fun o ho => by have := hd o ho; omega) (fun o ho => by have := he o ho; omega), hI, hS, hM, hw, a7.fr a1 f (by omega) (n0 _ (by omega)) (n0 _ (by omega)) (n0 _ (by omega)), ⟨?_, ?_, ?_⟩, hs, h10, h11, ⟨n, t1, ?_, ?_, fun i x y => ?_⟩, fun k hk => ?_⟩
  · rw [g _ _ (by omega)]; exact i1
  · rw [g _ _ (by omega)]; exact i2
  · refine i3.imp id fun z => ⟨z.1, z.2.1, z.2.2.1.fr a1 f (by omega) (fun o ho => by have := hd o ho; omega) (fun o ho => by have := he o ho; omega), z.2.2.2.fr a1 f (n0 _ (by omega)) (n0 _ (by omega)) (fun o ho => by have := he o ho; omega)⟩
  · rw [g _ _ (by omega)]; exact t2
  · rw [g _ _ (by omega)]; exact t3
  · rw [g _ _ (by omega), g _ _ (by omega)]; exact t4 i x y
  · rw [g _ _ (by omega)]; exact a13 k hk
theorem Sh.same {s : Nat} {q : Nat → Nat} {M M1 : Mm} (h : Sh s q M) (c : ∀ k, mI M1 (64 + 2 * s) k = mI M (64 + 2 * s) k) (r : ∀ o, 91 ≤ o → o ≤ 94 → mI M1 o s = mI M o s) (j : ∀ i, mJ M1 (65 + 2 * s) i = mJ M (65 + 2 * s) i) (j2 : ∀ i, mJ M1 95 i = mJ M 95 i) : Sh s q M1 := by
  rcases h with ⟨m, x, w⟩ | ⟨m, o, n, ho, hn, x, y, n1, n2, w⟩ | ⟨m, g, hg, x, y, w⟩
  · exact Or.inl ⟨by rw [r 91 (by omega) (by omega)]; exact m, by rw [c]; exact x, by rw [c]; exact w⟩
  · exact Or.inr (Or.inl ⟨by rw [r 91 (by omega) (by omega)]; exact m, o, n, ho, hn, by rw [c]; exact x, by rw [r 92 (by omega) (by omega)]; exact y, by rw [c]; exact n1, by rw [r 93 (by omega) (by omega)]; exact n2, fun i hi => by rw [j, j2]; exact w i hi⟩)
  · exact Or.inr (Or.inr ⟨by rw [r 91 (by omega) (by omega)]; exact m, g, hg, by rw [c]; exact x, by rw [r 94 (by omega) (by omega)]; exact y, by rw [c]; exact w⟩)
/-- the class makes its reader -/
theorem mkR {M : Mm} (hF : FIX M) (hB : SB M) {s n : Nat} {R : Nat → Int32} (hs : s < 8) (hn : n ≤ 160) (e1 : mI M (64 + 2 * s) 1 = nI n) (e2 : ∀ y, y < 160 → (mJ M (65 + 2 * s) y).toInt32 = R y) {q od : Nat → Nat} {sd : Int32} (hI : Inv q od) {M1 : Mm} (f1 : Fr [28, 29, 30, 32] [] M M1) (t1 : mT M1 = mT M ∧ mW M1 = mW M) (s1 : St 28 q od sd M1) :
    ∃ M2, fX2_init (mT M) (64 + 2 * s) 28 (sN M1 3 0 5) = some M2 ∧ CIr s n R (mT M) M q od sd 0 0 M2 ∧ (mT M2 = mT M + 1 ∧ mW M2 = mW M + 5) := by
  have h0 := hF.1
  have hF1 := f1.fix hF
  have h01 := hF1.1
  have hk : mK (sN M1 3 0 5) (mT M) = (3, 0) := by rw [mK_sN, if_pos t1.1.symm]
  have fn : Fr [] [] M1 (sN M1 3 0 5) := Fr.oN _ _ _
  have le : mT M1 ≤ mT M := Nat.le_of_eq t1.1
  have f2 := ((((fn.xI 2 (nI 0) le).xI 3 (-nI 1) le).xI 4 (nI 0) le).xR 0 (some (64 + 2 * s)) le).xR 1 (some 28) le
  obtain ⟨M2, hM2⟩ : ∃ M2, M2 = sR (sR (sI (sI (sI (sN M1 3 0 5) (mT M) 2 (nI 0)) (mT M) 3 (-nI 1)) (mT M) 4 (nI 0)) (mT M) 0 (some (64 + 2 * s))) (mT M) 1 (some 28) := ⟨_, rfl⟩
  rw [← hM2] at f2
  have hF2 := f2.fix hF1
  have fT : Fr D8 [] M M2 := (f1.wk (by unfold D8; decide) mem0).tr (f2.wk mem0 mem0)
  have n1 : ∀ o, 64 ≤ o → ¬ o ∈ D8 := fun o ho z => by simp only [D8, List.mem_cons, List.not_mem_nil, or_false] at z; omega
  have T2 : mT M2 = mT M + 1 := by rw [hM2]; simp only [mT_sI, mW_sI, mK_sI, mI_sI, mJ_sI, mR_sI, mT_sJ, mW_sJ, mK_sJ, mI_sJ, mJ_sJ, mR_sJ, mT_sR, mW_sR, mK_sR, mI_sR, mJ_sR, mR_sR, mT_gI, mW_gI, mK_gI, mI_gI, mJ_gI, mR_gI, mT_gJ, mW_gJ, mK_gJ, mI_gJ, mJ_gJ, mR_gJ, mT_wR, mW_wR, mK_wR, mI_wR, mJ_wR, mR_wR, mT_sN, mW_sN, mK_sN, mI_sN, mJ_sN, mR_sN]; rw [t1.1]
  refine ⟨M2, ?_, ⟨hF2, hB.fr hF fT (by unfold D8; decide) mem0, ⟨⟨h0, hs, hn⟩, ⟨?_, ?_, ?_⟩, by rw [fT.I (by omega) (n1 _ (by omega)) List.not_mem_nil]; exact e1, fun y hy => by rw [fT.J (by omega) (n1 _ (by omega))]; exact e2 y hy⟩, ⟨Nat.le_refl _, by omega, fT⟩, ⟨?_, ?_, ?_, by decide⟩, s1.fr hF1 f2 (by decide) mem0 mem0, hI, Nat.zero_le _⟩, T2, by rw [hM2]; simp only [mT_sI, mW_sI, mK_sI, mI_sI, mJ_sI, mR_sI, mT_sJ, mW_sJ, mK_sJ, mI_sJ, mJ_sJ, mR_sJ, mT_sR, mW_sR, mK_sR, mI_sR, mJ_sR, mR_sR, mT_gI, mW_gI, mK_gI, mI_gI, mJ_gI, mR_gI, mT_gJ, mW_gJ, mK_gJ, mI_gJ, mJ_gJ, mR_gJ, mT_wR, mW_wR, mK_wR, mI_wR, mJ_wR, mR_wR, mT_sN, mW_sN, mK_sN, mI_sN, mJ_sN, mR_sN]; rw [t1.2]⟩
  · unfold fX2_init
    rw [hM2]
    simp only [kc, pI, pZ, pR, mK_sI, mK_sR, hk, Nat.reduceAdd, ↓reduceIte, Option.bind_some, l0, l1, show nI 0 &&& nI 1 = nI 0 from by decide, and_self, show (-1 : Int32) = -nI 1 from by decide]
  · rw [hM2]; simp only [mK_sI, mK_sR]; exact hk
  · rw [hM2, mR_sR, if_neg (by omega), mR_sR, if_pos ⟨rfl, rfl⟩]
  · rw [hM2, mR_sR, if_pos ⟨rfl, rfl⟩]
  · rw [hM2, mI_sR, mI_sR, mI_ne (by omega), mI_ne (by omega), mI_at]
  · rw [hM2, mI_sR, mI_sR, mI_ne (by omega), mI_at]
  · rw [hM2, mI_sR, mI_sR, mI_at]
/-- the reference begins -/
theorem yBeg {N : Mm} (hF : FIX N) {s n : Nat} {R : Nat → Int32} (hs : s < 8) (hn : n ≤ 160) (h91 : mI N 91 s = nI 1) (h93 : mI N 93 s = nI n) (hR : ∀ y, y < 160 → (mJ N 95 (160 * s + y)).toInt32 = R y) (hW : Ws N) {q od : Nat → Nat} {sd : Int32} (hM : MD q od sd N) :
    ∃ N2, fX9_town 80 (nI s) N = (Option.bind (fX9_item 80 N2) fun q9_ => fX9_town_b71 FU 80 (nI 0 + (1 : Int32)) q9_.1 q9_.2) ∧ YIr s n R q od sd 0 0 N2 ∧ mI N2 80 12 = -nI 1 ∧ MKc 99 101 q od sd N2 ∧ Fr [99, 101] [(80, 12), (80, 29), (80, 32), (80, 33), (80, 34)] N N2 ∧ (mT N2 = mT N ∧ mW N2 = mW N) := by
  have h0 := hF.1
  have w := (wT hF hs).2.1 h91
  obtain ⟨N1, e1, f1, t1, s1⟩ := allS (c := 99) (e := 101) (Or.inl rfl) (Or.inl rfl) hF hM
  have hF1 := f1.fix hF
  have h01 := hF1.1
  obtain ⟨N2, hN2⟩ : ∃ N2, N2 = sI (sI (sI (sI (sI N1 80 32 (nI (160 * s))) 80 33 (nI 0)) 80 34 (nI n)) 80 12 (-nI 1)) 80 29 (nI 0) := ⟨_, rfl⟩
  have f2 : Fr [] [(80, 12), (80, 29), (80, 32), (80, 33), (80, 34)] N1 N2 := by
    rw [hN2]
    exact ((((Fr.oI _ _ (Or.inr (by decide))).tr (Fr.oI _ _ (Or.inr (by decide)))).tr (Fr.oI _ _ (Or.inr (by decide)))).tr (Fr.oI _ _ (Or.inr (by decide)))).tr (Fr.oI _ _ (Or.inr (by decide)))
  have hF2 := f2.fix hF1
  have fT : Fr [99, 101] [(80, 12), (80, 29), (80, 32), (80, 33), (80, 34)] N N2 := (f1.wk (fun _ z => z) mem0).tr (f2.wk mem0 (fun _ z => z))
  have i93 : mI N1 93 s = nI n := by rw [f1.I (by omega) (by decide) List.not_mem_nil]; exact h93
  refine ⟨N2, ?_, ⟨⟨⟨hs, hn⟩, hF2, ?_, ?_, fun y hy => ?_, fun k hk => ?_⟩, ?_, ?_, hM.fr hF fT (by decide) (by decide)⟩, ?_, s1.fr hF1 f2 (by decide) List.not_mem_nil List.not_mem_nil (by decide), fT, by rw [hN2]; simp only [mT_sI, mW_sI, mK_sI, mI_sI, mJ_sI, mR_sI, mT_sJ, mW_sJ, mK_sJ, mI_sJ, mJ_sJ, mR_sJ, mT_sR, mW_sR, mK_sR, mI_sR, mJ_sR, mR_sR, mT_gI, mW_gI, mK_gI, mI_gI, mJ_gI, mR_gI, mT_gJ, mW_gJ, mK_gJ, mI_gJ, mJ_gJ, mR_gJ, mT_wR, mW_wR, mK_wR, mI_wR, mJ_wR, mR_wR]; exact t1⟩
  · have p29 : ∀ {β : Type} (M : Mm), FIX M → ∀ f : Mm → Option β, Option.bind (pZ M 9 80 29 0) f = f (sI M 80 29 (nI 0)) := fun M h f => bnd1 (by unfold pZ; rw [if_pos ⟨by rw [K80 h], by decide⟩]; rfl) f
    have p1 : (160 : Int32) * nI s = nI (160 * s) := mul_nn 160 s
    unfold fX9_town
    rw [kb80 hF, bnd1 w]
    dsimp only
    rw [if_pos (show nI 0 = 0 from rfl), rb80_37 hF, rb80_39 hF, bnd1 (show fX9_all 80 99 101 0 N = some N1 from e1), pb80 hF1, pb80 (FIXr hF1 _ _ _), rb80_25 (FIXr (FIXr hF1 _ _ _) _ _ _), ab93 (FIXr (FIXr hF1 _ _ _) _ _ _) hs, mI_ne (show 93 ≠ 80 ∨ s ≠ 33 by omega), mI_ne (show 93 ≠ 80 ∨ s ≠ 32 by omega), i93, pb80 (FIXr (FIXr hF1 _ _ _) _ _ _), pb80 (FIXr (FIXr (FIXr hF1 _ _ _) _ _ _) _ _ _), p29 _ (FIXr (FIXr (FIXr (FIXr hF1 _ _ _) _ _ _) _ _ _) _ _ _), p1, show (-1 : Int32) = -nI 1 from by decide, show nI 0 + (1 : Int32) = 1 from by decide, show (0 : Int32) = nI 0 from rfl, ← hN2]
  · rw [hN2, mI_ne (by decide), mI_ne (by decide), mI_ne (by decide), mI_ne (by decide), mI_at]
  · rw [hN2, mI_ne (by decide), mI_ne (by decide), mI_at]
  · rw [fT.J (by omega) (by decide)]; exact hR y hy
  · rw [fT.I (by omega) (by decide) (by
      intro z
      simp only [List.mem_cons, Prod.mk.injEq, List.not_mem_nil, or_false] at z
      omega)]
    exact hW k hk
  · rw [hN2, mI_ne (by decide), mI_ne (by decide), mI_ne (by decide), mI_at]
  · rw [hN2, mI_at]
  · rw [hN2, mI_ne (by decide), mI_at]
/-- the reference takes it back -/
theorem b142x {N : Mm} (hF : FIX N) {q od : Nat → Nat} {sd : Int32} (h : MKc 99 101 q od sd N) {f : Nat} (e : mI N 80 36 = nI f) (y : Int32) :
    ∃ N1, fX9_town_b142 80 y (nI 0) N = some (-nI 6, sI (sI N1 80 12 (nI f)) 81 6 (mI N1 81 6 + nI 1)) ∧ Fr [82, 83, 84, 85, 86, 87, 88, 89] e80s N N1 ∧ (mT N1 = mT N ∧ mW N1 = mW N) ∧ MD q od sd N1 := by
  have h0 := hF.1
  obtain ⟨N1, e1, f1, t1, s1⟩ := allR (c := 99) (e := 101) (Or.inl rfl) (Or.inl rfl) hF h
  have hF1 := f1.fix hF
  have n36 : ¬ (80, 36) ∈ e80s := by decide
  have i36 : mI N1 80 36 = nI f := by rw [f1.I (by omega) (by decide) n36]; exact e
  refine ⟨N1, ?_, f1, t1, s1⟩
  unfold fX9_town_b142
  rw [if_pos (show nI 0 = 0 from rfl), rb80_37 hF, rb80_39 hF, bnd1 (show fX9_all 80 99 101 1 N = some N1 from e1), ib80 hF1, i36, pb80 hF1, nb6 (FIXr hF1 _ _ _), mI_ne (by decide)]
/-- the reference keeps it -/
theorem b142o {N : Mm} (hF : FIX N) {L t : Nat} (hL : L ≤ 24) (e0 : mI N 80 0 = nI L) (e29 : mI N 80 29 = nI t) (ht : t < 2147483648) (y : Int32) :
    ∃ N1, fX9_town_b142 80 y (nI 1) N = some (y, sI (sI (gJ N1 89 0 24 (fun c => lN (evn L c))) 80 8 (nI 0)) 80 9 (nI 0)) ∧ Fr [91] [] N N1 ∧ (mT N1 = mT N ∧ mW N1 = mW N) ∧ ∀ s, s < 8 → mI N1 91 s = if t = 0 then mI N 91 s else if mI N 91 s = nI 2 then nI 0 else mI N 91 s := by
  have h0 := hF.1
  by_cases z : t = 0
  · refine ⟨N, ?_, Fr.rfl, ⟨rfl, rfl⟩, fun s hs => by rw [if_pos z]⟩
    unfold fX9_town_b142 fX9_knows
    rw [if_neg (show ¬ nI 1 = 0 by decide), ib80 hF, e29, if_pos (show nI t = 0 by rw [z]; rfl), kb80 hF, show (-1 : Int32) = -nI 1 from by decide, show (0 : Int32) = nI 0 from rfl, bnd1 (evY hL FU 0 N hF e0 (by decide) (by decide))]
  · have em := emY (fun s => mI N 91 s) FU 0 N hF (fun s _ _ => rfl) (by decide) (by decide)
    have f1 : Fr [91] [] N (gI N 91 0 8 (fun s => if mI N 91 s = nI 2 then nI 0 else mI N 91 s)) := Fr.gI _ _ _ List.mem_cons_self
    refine ⟨gI N 91 0 8 (fun s => if mI N 91 s = nI 2 then nI 0 else mI N 91 s), ?_, f1, ⟨by rw [mT_gI], by rw [mW_gI]⟩, fun s hs => by rw [if_neg z, mI_gI, if_pos ⟨rfl, Nat.zero_le _, hs⟩]⟩
    have hF1 := f1.fix hF
    have ee : fX9_empties 80 N = some (gI N 91 0 8 (fun s => if mI N 91 s = nI 2 then nI 0 else mI N 91 s)) := by
      unfold fX9_empties
      rw [kb80 hF]
      exact em
    unfold fX9_town_b142 fX9_knows
    rw [if_neg (show ¬ nI 1 = 0 by decide), ib80 hF, e29, if_neg (by rw [l0, eq_nn ht (by decide)]; exact z), bnd1 ee, kb80 hF1, show (-1 : Int32) = -nI 1 from by decide, show (0 : Int32) = nI 0 from rfl, bnd1 (evY hL FU 0 _ hF1 (by rw [mI_gI, if_neg (by omega)]; exact e0) (by decide) (by decide))]
