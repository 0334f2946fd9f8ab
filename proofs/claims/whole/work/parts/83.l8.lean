/-! judge, told -/
theorem b56Y {g : Nat → Int64} {S NN x4 x5 : Int32} : ∀ m n i (N : Mm), FIX N → (∀ x, x < 24 → mJ N 89 x = g x) → m + i = 24 → fX9_played_b56 (n + m) 80 S NN x4 x5 (nI i) N = fX9_played_b56 n 80 S NN x4 x5 (nI 24) (gJ N 103 i 24 g) := by
  intro m
  induction m with
  | zero => intro n i N _ _ hi; rw [show i = 24 by omega, gJ_end]; rfl
  | succ m ih =>
    intro n i N hF hv hi
    have ci : i < 24 := by omega
    rw [show n + (m + 1) = (n + m) + 1 by omega, fX9_played_b56, if_neg (by rw [l24, le_nn (by decide) (by omega)]; omega), rb80_41 hF, rb80_21 hF, ab89 hF ci, hv i ci, tb103 hF ci, show nI i + (1 : Int32) = nI (i + 1) from add_nn i 1, ih n (i + 1) (sJ N 103 i (g i)) (by simp only [FIX_sI, FIX_sJ, FIX_gI, FIX_gJ]; exact hF) (fun x h => by rw [mJ_sJ, if_neg (by omega)]; exact hv x h) (by omega), gJ_step ci rfl]
theorem b296Y {g : Nat → Int64} : ∀ m n i (N : Mm), FIX N → (∀ x, x < 24 → mJ N 103 x = g x) → m + i = 24 → fX9_played_b296 (n + m) 80 (nI i) N = fX9_played_b296 n 80 (nI 24) (gJ N 89 i 24 g) := by
  intro m
  induction m with
  | zero => intro n i N _ _ hi; rw [show i = 24 by omega, gJ_end]; rfl
  | succ m ih =>
    intro n i N hF hv hi
    have ci : i < 24 := by omega
    rw [show n + (m + 1) = (n + m) + 1 by omega, fX9_played_b296, if_neg (by rw [l24, le_nn (by decide) (by omega)]; omega), rb80_21 hF, rb80_41 hF, ab103 hF ci, hv i ci, tb89 hF ci, show nI i + (1 : Int32) = nI (i + 1) from add_nn i 1, ih n (i + 1) (sJ N 89 i (g i)) (by simp only [FIX_sI, FIX_sJ, FIX_gI, FIX_gJ]; exact hF) (fun x h => by rw [mJ_sJ, if_neg (by omega)]; exact hv x h) (by omega), gJ_step ci rfl]
theorem pl273 {N : Mm} (hF : FIX N) {q od q1 od1 : Nat → Nat} {sd : Int32} (h : MD q1 od1 sd N) (hI1 : Inv q1 od1) (hg : ∀ x, x < 24 → mJ N 103 x = lN (od x)) : ∃ N1, fX9_played_b273 80 (nI (q 64)) (nI (q 65)) N = some (nI 0, N1) ∧ Fr [89] [(80, 8), (80, 9), (80, 43)] N N1 ∧ (mT N1 = mT N ∧ mW N1 = mW N) ∧ mI N1 80 43 = nI (sr od1 23 0 1) ∧ mI N1 80 8 = nI (q 64) ∧ mI N1 80 9 = nI (q 65) ∧ ∀ c, c < 24 → mJ N1 89 c = lN (od c) := by
  have e := sur9 hF h hI1
  obtain ⟨N2, hN2⟩ : ∃ N2, N2 = sI (sI (sI N 80 43 (nI (sr od1 23 0 1))) 80 8 (nI (q 64))) 80 9 (nI (q 65)) := ⟨_, rfl⟩
  have hFa : FIX (sI N 80 43 (nI (sr od1 23 0 1))) := by rw [FIX_sI]; exact hF
  have hFb : FIX (sI (sI N 80 43 (nI (sr od1 23 0 1))) 80 8 (nI (q 64))) := by rw [FIX_sI]; exact hFa
  have hF2 : FIX N2 := by rw [hN2, FIX_sI]; exact hFb
  have f2 : Fr [89] [(80, 8), (80, 9), (80, 43)] N N2 := by
    rw [hN2]
    exact ((Fr.oI _ _ (Or.inr (by decide))).tr (Fr.oI _ _ (Or.inr (by decide)))).tr (Fr.oI _ _ (Or.inr (by decide)))
  have e2 := b296Y (g := fun x => lN (od x)) 24 1976 0 N2 hF2 (fun x hx => by rw [hN2, mJ_sI, mJ_sI, mJ_sI]; exact hg x hx) (by decide)
  have v43 : mI N2 80 43 = nI (sr od1 23 0 1) := by rw [hN2, mI_sI, if_neg (by decide), mI_sI, if_neg (by decide), mI_sI, if_pos ⟨rfl, rfl⟩]
  have v8 : mI N2 80 8 = nI (q 64) := by rw [hN2, mI_sI, if_neg (by decide), mI_sI, if_pos ⟨rfl, rfl⟩]
  have v9 : mI N2 80 9 = nI (q 65) := by rw [hN2, mI_sI, if_pos ⟨rfl, rfl⟩]
  refine ⟨gJ N2 89 0 24 (fun x => lN (od x)), ?_, f2.tr (Fr.gJ _ _ _ (by decide)), ⟨by rw [mT_gJ, hN2, mT_sI, mT_sI, mT_sI], by rw [mW_gJ, hN2, mW_sI, mW_sI, mW_sI]⟩, by rw [mI_gJ]; exact v43, by rw [mI_gJ]; exact v8, by rw [mI_gJ]; exact v9, fun c hc => by rw [mJ_gJ, if_pos ⟨rfl, Nat.zero_le _, hc⟩]⟩
  unfold fX9_played_b273
  rw [bnd1 e]
  dsimp only
  rw [pb80 hF, pb80 hFa, pb80 hFb, ← hN2, show (0 : Int32) = nI 0 from rfl]
  refine Eq.trans e2 ?_
  rw [show 1976 = 1975 + 1 from rfl, fX9_played_b296, if_pos (by rw [l24, le_nn (by decide) (by decide)]; exact Nat.le_refl _)]
  rfl
/-- what both do with news that may be tried at all -/
theorem tryB {A : Mm} {q od q2 od2 : Nat → Nat} {sd sd2 : Int32} {b : Nat} {M : Mm} (h : REL A q od sd b q2 od2 sd2 M) {s n NN : Nat} (hs : s < 8) (hn : n ≤ 160) (hk : NN ≤ n) (hN : NN ≤ 16)
    (m : mI M 91 s = nI 1) (n1 : mI M (64 + 2 * s) 1 = nI n) (n2 : mI M 93 s = nI n) (w : ∀ i, i < 160 → mJ M (65 + 2 * s) i = mJ M 95 (160 * s + i)) :
    ∃ wv q1 od1 M1 M2, fX8_tryNews 20 (64 + 2 * s) (nI NN) M = some (wv, M1) ∧ fX9_played 80 (nI s) (nI NN) M1 = some (nI 0, M2) ∧ (wv = -nI 1 ∨ ∃ j, j < 100 ∧ wv = nI j) ∧ mI M2 80 42 = wv ∧ mI M2 80 43 = nI (sr od1 23 0 1) ∧ FIX M1 ∧ FIX M2 ∧ St 28 q1 od1 sd M1 ∧ Inv q1 od1 ∧ REL A q od sd b q2 od2 sd2 M2 ∧ (mT M2 = mT M ∧ mW M2 = mW M) ∧
      ((mT M1 = mT M ∧ mW M1 = mW M) ∧ Fr [28, 29, 30, 32, 33] [] M M1) ∧ (∀ k v, ∃ M3, fX9_played 80 (nI s) (nI NN) (sI M1 40 k v) = some (nI 0, M3) ∧ mI M3 80 42 = wv ∧ FIX M3 ∧ (mT M3 = mT M ∧ mW M3 = mW M) ∧ mI M3 81 k = mI M 81 k ∧ (v = mI M 40 k + nI 1 → REL A q od sd b q2 od2 sd2 (sI M3 81 k (mI M3 81 k + nI 1)))) := by
  have hF := h.1
  have h0 := hF.1
  have hI := h.2.2.1
  have hq := hI.sg
  have hS := h.2.2.2.1
  have hM := h.2.2.2.2.1
  have hw := h.2.2.2.2.2.1
  obtain ⟨N, e1, f1, t1, s1⟩ := lik8 (s := 22) (d := 28) (Or.inl rfl) (Or.inr (Or.inl rfl)) (by decide) hF hS ⟨hI.2.2.2.1, hq.1, hq.2⟩ hw.2.2
  have hFN := f1.fix hF
  have n0 : ∀ o, 64 ≤ o → ¬ o ∈ [28, 28 + 1, 28 + 2, 28 + 4] := fun o ho z => by
    simp only [List.mem_cons, List.not_mem_nil, or_false] at z
    omega
  obtain ⟨wv, q1, od1, M1, g1, g2, g3, g4, g5, g6, g7⟩ := nwB hs hn (V := mJ M (65 + 2 * s)) (sd := sd) hk hN NN (FU - NN - 1) 0 q od N hFN s1 hI (by rw [f1.I (by omega) (n0 _ (by omega)) List.not_mem_nil]; exact n1) (fun y hy => by rw [f1.J (by omega) (n0 _ (by omega))]) (Nat.add_zero _)
  rw [show FU - NN - 1 + NN + 1 = FU by unfold FU; omega] at g1
  have fA : Fr [28, 29, 30, 32, 33] [] M N := f1.wk (by decide) mem0
  have fB : Fr [28, 29, 30, 32, 33] [] N M1 := ⟨g2.1, g2.2.1, fun o ho hn => g2.2.2.1 o ho (hn.imp (fun z y => z (by
      simp only [List.mem_cons, List.not_mem_nil, or_false] at y ⊢
      omega)) id), fun o ho hn => ⟨(g2.2.2.2 o ho (fun y => hn (by
      simp only [List.mem_cons, List.not_mem_nil, or_false] at y ⊢
      omega))).1, fun k _ => (g2.2.2.2 o ho (fun y => hn (by
      simp only [List.mem_cons, List.not_mem_nil, or_false] at y ⊢
      omega))).2 k (fun y => hn (by
      simp only [List.mem_cons, Prod.mk.injEq, List.not_mem_nil, or_false] at y ⊢
      omega))⟩⟩
  have fX := fA.tr fB
  have hF1 := fX.fix hF
  have h01 := hF1.1
  have e2 : fX8_tryNews 20 (64 + 2 * s) (nI NN) M = some (wv, M1) := by
    unfold fX8_tryNews
    rw [kb20 hF, rb20_2 hF, rb20_1 hF, bnd1 e1]
    exact g1
  have nx : ∀ o, ¬ (28 ≤ o ∧ o ≤ 33) → ¬ o ∈ [28, 29, 30, 32, 33] := fun o ho z => by
    simp only [List.mem_cons, List.not_mem_nil, or_false] at z
    omega
  -- the reference, from any memory that is as M1 in what it reads
  have Y : ∀ P : Mm, Fr [28, 29, 30, 32, 33] [] M1 P ∨ (∃ k v, P = sI M1 40 k v) → ∃ M2, fX9_played 80 (nI s) (nI NN) P = some (nI 0, M2) ∧ Fr [89, 90, 103] [(80, 8), (80, 9), (80, 42), (80, 43)] P M2 ∧ (mT M2 = mT P ∧ mW M2 = mW P) ∧ mI M2 80 42 = wv ∧ mI M2 80 43 = nI (sr od1 23 0 1) ∧ FIX M2 ∧ MD q od sd M2 ∧ FIX P := fun P hP => by
    have hFP : FIX P := by
      rcases hP with hP | ⟨k, v, rfl⟩
      · exact hP.fix hF1
      · rw [FIX_sI]; exact hF1
    have h0P := hFP.1
    have rI : ∀ o k, 64 ≤ o → o < 107 → mI P o k = mI M o k := fun o k h1 h2 => by
      rcases hP with hP | ⟨k', v, rfl⟩
      · rw [hP.I (by omega) (nx o (by omega)) List.not_mem_nil, fX.I (by omega) (nx o (by omega)) List.not_mem_nil]
      · rw [mI_sI, if_neg (by omega), fX.I (by omega) (nx o (by omega)) List.not_mem_nil]
    have rJ : ∀ o k, 64 ≤ o → o < 107 → mJ P o k = mJ M o k := fun o k h1 h2 => by
      rcases hP with hP | ⟨k', v, rfl⟩
      · rw [hP.J (by omega) (nx o (by omega)), fX.J (by omega) (nx o (by omega))]
      · rw [mJ_sI, fX.J (by omega) (nx o (by omega))]
    have hMP : MD q od sd P := ⟨fun k hk => by rw [rI _ _ (by omega) (by omega)]; exact hM.1 k hk, by rw [rI _ _ (by omega) (by omega)]; exact hM.2.1, by rw [rI _ _ (by omega) (by omega)]; exact hM.2.2.1, fun a ha i hi => by rw [rI _ _ (by omega) (by omega)]; exact hM.2.2.2.1 a ha i hi, fun c hc => by rw [rJ _ _ (by omega) (by omega)]; exact hM.2.2.2.2 c hc⟩
    have wt := (wT hFP hs).2.1 (by rw [rI _ _ (by omega) (by omega)]; exact m)
    have p1 := b56Y (g := fun x => lN (od x)) (S := nI s) (NN := nI NN) (x4 := nI (q 64)) (x5 := nI (q 65)) 24 1976 0 P hFP (fun x hx => hMP.2.2.2.2 x hx) (by decide)
    obtain ⟨P1, hP1⟩ : ∃ P1, P1 = gJ P 103 0 24 (fun x => lN (od x)) := ⟨_, rfl⟩
    rw [← hP1] at p1
    have hFP1 : FIX P1 := by rw [hP1, FIX_gJ]; exact hFP
    obtain ⟨P2, hP2⟩ : ∃ P2, P2 = sI P1 80 42 (-nI 1) := ⟨_, rfl⟩
    have hFP2 : FIX P2 := by rw [hP2, FIX_sI]; exact hFP1
    have h02 := hFP2.1
    have fP : Fr [89, 90, 103] [(80, 8), (80, 9), (80, 42), (80, 43)] P P2 := by
      rw [hP2, hP1]
      exact (Fr.gJ _ _ _ (by decide)).tr (Fr.oI _ _ (Or.inr (by decide)))
    have hMP2 : MD q od sd P2 := by
      rw [hP2, hP1]
      exact (hMP.fr hFP (Fr.gJ (ds := [103]) (es := []) _ _ _ (by decide)) (by decide) mem0).fr (by rw [FIX_gJ]; exact hFP) (Fr.oI (ds := []) (es := [(80, 42)]) _ _ (Or.inr (by decide))) mem0 (by decide)
    obtain ⟨P3, k1, k2, k3, k4, k5⟩ := g7 (FU - NN - 2) P2 (nI (q 64)) (nI (q 65)) hFP2 hMP2 (by rw [hP2, mI_sI, if_pos ⟨rfl, rfl⟩]) (fun y hy => by rw [hP2, mJ_sI, hP1, mJ_gJ, if_neg (by omega), rJ _ _ (by omega) (by omega)]; exact (w y hy).symm)
    rw [show FU - NN - 2 + NN + 2 = FU by unfold FU; omega] at k1
    have hFP3 := k2.fix hFP2
    have h03 := hFP3.1
    obtain ⟨M2, z1, z2, z3, z4, z5, z6, z7⟩ := pl273 (q := q) (od := od) hFP3 k4 g5 (fun x hx => by rw [k2.J (by omega) (by decide), hP2, mJ_sI, hP1, mJ_gJ, if_pos ⟨rfl, Nat.zero_le _, hx⟩])
    have fPk : Fr [89, 90, 103] [(80, 8), (80, 9), (80, 42), (80, 43)] P2 P3 := k2.wk (by decide) (by decide)
    have fPz : Fr [89, 90, 103] [(80, 8), (80, 9), (80, 42), (80, 43)] P3 M2 := z2.wk (by decide) (by decide)
    have fT := (fP.tr fPk).tr fPz
    have n8 : ∀ o, ¬ (o = 89 ∨ o = 90 ∨ o = 103) → ¬ o ∈ [89, 90, 103] := fun o ho z => by
      simp only [List.mem_cons, List.not_mem_nil, or_false] at z
      omega
    have n9 : ∀ o k, ¬ (o = 80 ∧ (k = 8 ∨ k = 9 ∨ k = 42 ∨ k = 43)) → ¬ (o, k) ∈ [(80, 8), (80, 9), (80, 42), (80, 43)] := fun o k ho z => by
      simp only [List.mem_cons, Prod.mk.injEq, List.not_mem_nil, or_false] at z
      omega
    refine ⟨M2, ?_, fT, ⟨by rw [z3.1, k3.1, hP2, mT_sI, hP1, mT_gJ], by rw [z3.2, k3.2, hP2, mW_sI, hP1, mW_gJ]⟩, by rw [z2.I (by omega) (by decide) (by decide)]; exact k5, z4, fT.fix hFP, ⟨fun k hk => ?_, ?_, ?_, fun a ha i hi => ?_, z7⟩, hFP⟩
    · unfold fX9_played
      rw [kb80 hFP, bnd1 wt]
      dsimp only
      rw [if_pos (show nI 0 = 0 from rfl), if_pos (by rw [l0, le_nn (by decide) (by omega)]; exact Nat.zero_le _), rb80_25 hFP, ab93 hFP hs, rI 93 s (by omega) (by omega), n2, if_pos (by rw [le_nn (by omega) (by omega)]; exact hk), if_pos (by rw [l16, le_nn (by omega) (by omega)]; exact hN), ib80 hFP, ib80 hFP, hMP.f64, hMP.f65, show (0 : Int32) = nI 0 from rfl]
      refine Eq.trans p1 ?_
      rw [show 1976 = 1975 + 1 from rfl, fX9_played_b56, if_pos (by rw [l24, le_nn (by decide) (by decide)]; exact Nat.le_refl _), pb80 hFP1, show (-1 : Int32) = -nI 1 from rfl, ← hP2]
      exact k1.trans z1
    · by_cases e8 : k = 8
      · rw [e8]; exact z5
      · by_cases e9 : k = 9
        · rw [e9]; exact z6
        · rw [fT.I (by omega) (n8 80 (by omega)) (n9 80 k (by omega))]
          exact hMP.1 k hk
    · rw [fT.I (by omega) (n8 80 (by omega)) (n9 80 _ (by omega))]; exact hMP.2.1
    · rw [fT.I (by omega) (n8 80 (by omega)) (n9 80 _ (by omega))]; exact hMP.2.2.1
    · rw [fT.I (by omega) (n8 _ (by omega)) (n9 _ _ (by omega))]; exact hMP.2.2.2.1 a ha i hi
  obtain ⟨M2, y1, y2, y3, y4, y5, y6, y7, -⟩ := Y M1 (Or.inl Fr.rfl)
  have s28 := g4
  have S28 : ∀ P M2, Fr [] [] M1 P ∨ (∃ k v, P = sI M1 40 k v) → Fr [89, 90, 103] [(80, 8), (80, 9), (80, 42), (80, 43)] P M2 → FIX P → Sw 28 M2 := fun P M2 hP hf hFP => by
    have : Sw 28 P := by
      rcases hP with hP | ⟨k, v, rfl⟩
      · exact g4.2.2.2.2.2.2.fr hF1 hP (by decide) (by decide) (by decide) (by decide)
      · exact g4.2.2.2.2.2.2.fr hF1 (Fr.oI (ds := [40]) (es := []) k v (Or.inl (by decide))) (by decide) (by decide) (by decide) (by decide)
    exact this.fr hFP hf (by decide) (by decide) (by decide) (by decide)
  have rel : REL A q od sd b q2 od2 sd2 M2 := h.upd (fX.trans y2) (by unfold scr; decide) (by unfold scf; decide) hI (hS.fr hF (fX.trans y2) (by decide) (by decide) (by decide)) y7 (S28 M1 M2 (Or.inl Fr.rfl) y2 hF1) (Nat.le_refl _)
  refine ⟨wv, q1, od1, M1, M2, e2, y1, g6, y4, y5, hF1, y6, g4, g5, rel, ⟨by rw [y3.1, g3.1, t1.1], by rw [y3.2, g3.2, t1.2]⟩, ⟨⟨by rw [g3.1, t1.1], by rw [g3.2, t1.2]⟩, fX⟩, fun k v => ?_⟩
  obtain ⟨M3, x1, x2, x3, x4, x5, x6, x7, x8⟩ := Y (sI M1 40 k v) (Or.inr ⟨k, v, rfl⟩)
  have h0x := x8.1
  have i81 : mI M3 81 k = mI M 81 k := by rw [x2.I (by omega) (by decide) (by simp), mI_sI, if_neg (by omega), fX.I (by omega) (by decide) List.not_mem_nil]
  refine ⟨M3, x1, x4, x6, ⟨by rw [x3.1, mT_sI, g3.1, t1.1], by rw [x3.2, mW_sI, g3.2, t1.2]⟩, i81, fun hv => ?_⟩
  -- the refusal is counted on both sides: from the state with it counted, only cells aside changed
  have hno := h.no k
  have fno : Fr [28, 29, 30, 32, 33, 89, 90, 103] [(80, 8), (80, 9), (80, 42), (80, 43)] (sI (sI M 40 k (mI M 40 k + nI 1)) 81 k (mI M 81 k + nI 1)) (sI M3 81 k (mI M3 81 k + nI 1)) := by
    have fx2 : Fr [28, 29, 30, 32, 33, 89, 90, 103] [(80, 8), (80, 9), (80, 42), (80, 43)] M M1 := fX.wk (by decide) mem0
    have fx3 : Fr [28, 29, 30, 32, 33, 89, 90, 103] [(80, 8), (80, 9), (80, 42), (80, 43)] (sI M1 40 k v) M3 := x2.wk (by decide) (fun _ z => z)
    refine ⟨⟨Nat.le_trans fx2.1.1 fx3.1.1, Nat.le_trans fx2.1.2 fx3.1.2⟩, fun o ho => ?_, fun o ho hn => ?_, fun o ho hn => ⟨?_, fun j hj => ?_⟩⟩
    · show mK M3 o = mK M o
      rw [fx3.2.1 o (Nat.lt_of_lt_of_le ho fx2.1.1), ← fx2.2.1 o ho]
      rfl
    · show mR M3 o = mR M o
      rw [fx3.2.2.1 o (Nat.lt_of_lt_of_le ho fx2.1.1) hn, ← fx2.2.2.1 o ho hn]
      rfl
    · show mJ M3 o = mJ M o
      rw [(fx3.2.2.2 o (Nat.lt_of_lt_of_le ho fx2.1.1) hn).1, ← (fx2.2.2.2 o ho hn).1]
      rfl
    · rw [mI_sI, mI_sI]
      by_cases e : o = 81 ∧ j = k
      · rw [if_pos e, if_pos e, i81]
      · rw [if_neg e, if_neg e, (fx3.2.2.2 o (Nat.lt_of_lt_of_le ho fx2.1.1) hn).2 j hj, mI_sI, mI_sI]
        by_cases e2 : o = 40 ∧ j = k
        · rw [if_pos e2, if_pos e2, hv]
        · rw [if_neg e2, if_neg e2, (fx2.2.2.2 o ho hn).2 j hj]
  have hFno := hno.1
  exact hno.upd fno (by unfold scr; decide) (by unfold scf; decide) hI (hno.2.2.2.1.fr hFno fno (by decide) (by decide) (by decide)) (x7.fr x6 (Fr.oI (ds := [81]) (es := []) k _ (Or.inl (by decide))) (by decide) mem0) ((S28 (sI M1 40 k v) M3 (Or.inr ⟨k, v, rfl⟩) x2 x8).fr x6 (Fr.oI (ds := [81]) (es := []) k _ (Or.inl (by decide))) (by decide) (by decide) (by decide) (by decide)) (Nat.le_refl _)
