/-! image, restore -/
theorem REL.img {ds : List Nat} {es : List (Nat × Nat)} {A : Mm} {q od q2 od2 : Nat → Nat} {sd sd2 : Int32} {b : Nat} {M M1 : Mm} (h : REL A q od sd b q2 od2 sd2 M) (f : Fr ds es M M1)
    (hd : ∀ o ∈ ds, (34 ≤ o ∧ o ≤ 39) ∨ o = 100 ∨ o = 102) (he : ∀ t ∈ es, (t.1 = 20 ∧ t.2 = 4) ∨ (t.1 = 80 ∧ t.2 = 48)) (hm : Im 1 q od sd M1) (hw : Sw 34 M1) : REL A q od sd 1 q od sd M1 := by
  obtain ⟨a1, a2, a3, a4, a5, a6, a7, a8, a9, a10, a11, ⟨n, t1, t2, t3, t4⟩, a13⟩ := h
  have h0 := a1.1
  have n0 : ∀ o, ¬ ((34 ≤ o ∧ o ≤ 39) ∨ o = 100 ∨ o = 102) → ¬ o ∈ ds := fun o ho x => ho (hd o x)
  have ne : ∀ o k, ¬ ((o = 20 ∧ k = 4) ∨ (o = 80 ∧ k = 48)) → ¬ (o, k) ∈ es := fun o k ho x => ho (he _ x)
  have g : ∀ o k, o < 107 → ¬ ((34 ≤ o ∧ o ≤ 39) ∨ o = 100 ∨ o = 102) → ¬ ((o = 20 ∧ k = 4) ∨ (o = 80 ∧ k = 48)) → mI M1 o k = mI M o k := fun o k b c d => f.I (by omega) (n0 o c) (ne o k d)
  refine ⟨f.fix a1, a2.fr a1 f (fun o ho => by have := hd o ho; omega) (fun o ho => by have := he o ho; omega), a3, a4.fr a1 f (by omega) (fun o ho => by have := hd o ho; omega) (fun o ho => by have := he o ho; omega), a5.fr a1 f (fun o ho => by have := hd o ho; omega) (fun o ho => by have := he o ho; omega), a6.fr a1 f (by omega) (n0 _ (by omega)) (n0 _ (by omega)) (n0 _ (by omega)), hw, hm, fun s hs => (a9 s hs).fr a1 f hs (fun o ho => by have := hd o ho; omega) (fun o ho => by have := he o ho; omega), fun k x y => ?_, ?_, ⟨n, t1, ?_, ?_, fun i x y => ?_⟩, fun k hk => ?_⟩
  · rw [g _ _ (by omega) (by omega) (by omega), g _ _ (by omega) (by omega) (by omega)]; exact a10 k x y
  · rw [g _ _ (by omega) (by omega) (by omega), g _ _ (by omega) (by omega) (by omega)]; exact a11
  · rw [g _ _ (by omega) (by omega) (by omega)]; exact t2
  · rw [g _ _ (by omega) (by omega) (by omega)]; exact t3
  · rw [g _ _ (by omega) (by omega) (by omega), g _ _ (by omega) (by omega) (by omega)]; exact t4 i x y
  · rw [g _ _ (by omega) (by omega) (by omega)]; exact a13 k hk
theorem pz20 {β : Type} {M : Mm} (h : FIX M) (k : Nat) (f : Mm → Option β) : Option.bind (pZ M 8 20 k 1) f = f (sI M 20 k (nI 1)) := bnd1 (by unfold pZ; rw [if_pos ⟨by rw [K20 h], by decide⟩]; rfl) f
theorem pz80 {β : Type} {M : Mm} (h : FIX M) (k : Nat) (f : Mm → Option β) : Option.bind (pZ M 9 80 k 1) f = f (sI M 80 k (nI 1)) := bnd1 (by unfold pZ; rw [if_pos ⟨by rw [K80 h], by decide⟩]; rfl) f
theorem op_image (A : Mm) : Eqv A (fX8_image 20) (fX9_image 80) := by
  rintro M ⟨q, od, sd, b, q2, od2, sd2, h⟩
  have hF := h.1
  have h0 := hF.1
  have hI := h.2.2.1
  have hq := hI.sg
  have hS := h.2.2.2.1
  have hM := h.2.2.2.2.1
  have hw := h.2.2.2.2.2.2.1
  obtain ⟨N, e1, f1, t1, s1⟩ := lik8 (s := 22) (d := 34) (Or.inl rfl) (Or.inr (Or.inr rfl)) (by decide) hF hS ⟨hI.2.2.2.1, hq.1, hq.2⟩ hw.2.2
  have hFN := f1.fix hF
  have f2 : Fr [] [(20, 4)] N (sI N 20 4 (nI 1)) := Fr.oI _ _ (Or.inr (by decide))
  obtain ⟨M1, hM1⟩ : ∃ M1, M1 = sI N 20 4 (nI 1) := ⟨_, rfl⟩
  rw [← hM1] at f2
  have hF1 := f2.fix hFN
  have f3 : Fr [] [(80, 48)] M1 (sI M1 80 48 (nI 1)) := Fr.oI _ _ (Or.inr (by decide))
  obtain ⟨N2, hN2⟩ : ∃ N2, N2 = sI M1 80 48 (nI 1) := ⟨_, rfl⟩
  rw [← hN2] at f3
  have hF2 := f3.fix hF1
  have fX := (f1.trans f2).trans f3
  have hM2 := hM.fr hF fX (by decide) (by decide)
  obtain ⟨M2, e2, f4, t2, s2⟩ := allS (Or.inr rfl) (Or.inr rfl) hF2 hM2
  have hF3 := f4.fix hF2
  have fT := fX.trans f4
  have i20 : mI M2 20 4 = nI 1 := by rw [f4.I (by have := hF2.1; omega) (by decide) List.not_mem_nil, f3.I (by have := hF1.1; omega) (by decide) (by decide), hM1, mI_sI, if_pos ⟨rfl, rfl⟩]
  have i80 : mI M2 80 48 = nI 1 := by rw [f4.I (by have := hF2.1; omega) (by decide) List.not_mem_nil, hN2, mI_sI, if_pos ⟨rfl, rfl⟩]
  have s34 : St 34 q od sd M2 := ((s1.fr hFN f2 (by decide) (by decide) (by decide)).fr hF1 f3 (by decide) (by decide) (by decide)).fr hF2 f4 (by decide) (by decide) mem0
  have hM3 := hM2.fr hF2 f4 (by decide) mem0
  have x7 : mI M1 22 7 = nI (q 62) := by rw [f2.I (by have := hFN.1; omega) (by decide) (by decide), f1.I (by omega) (by decide) List.not_mem_nil]; exact h.x62
  refine ⟨nI (q 62), M1, M2, ?_, ?_, ⟨q, od, sd, 1, q, od, sd, h.img fT (by decide) (by decide) ⟨i20, i80, Or.inr ⟨rfl, hI, s34, s2⟩⟩ s34.2.2.2.2.2.2⟩, Gr.same (by rw [t2.1, hN2, mT_sI, hM1, mT_sI, t1.1]) (by rw [t2.2, hN2, mW_sI, hM1, mW_sI, t1.2])⟩
  · unfold fX8_image
    rw [kb20 hF, rb20_3 hF, rb20_1 hF, bnd1 e1, pz20 hFN, ← hM1, rb20_1 hF1, ib22 hF1, x7]
  · unfold fX9_image
    rw [kb80 hF1, pz80 hF1, ← hN2, rb80_38 hF2, rb80_40 hF2, show (0 : Int32) = nI 0 from rfl, bnd1 e2, ib80 hF3, hM3.f62]
theorem Sh.drop {M M1 : Mm} {q q1 : Nat → Nat} {s n : Nat} (hs : s < 8) (h : Sh s q M) (hq : q 62 ≤ 8) (hn2 : n ≤ 8) (hn : n ≤ q1 62) (c : ∀ k, mI M1 (64 + 2 * s) k = dr (nI n) M s k)
    (r1 : mI M1 91 s = if mI M 91 s = nI 2 ∧ ¬ mI M 94 s < nI n then nI 0 else mI M 91 s) (r2 : mI M1 92 s = mI M 92 s) (r3 : mI M1 93 s = mI M 93 s) (r4 : mI M1 94 s = mI M 94 s)
    (j : ∀ i, mJ M1 (65 + 2 * s) i = mJ M (65 + 2 * s) i) (j2 : ∀ i, mJ M1 95 i = mJ M 95 i) : Sh s q1 M1 := by
  have hm : -nI 1 < nI 0 := mi_lt (by decide) (by decide)
  have hmn : -nI 1 < nI n := by rw [ng_lt2 hm (by omega)]; trivial
  rcases h with ⟨m, x, w⟩ | ⟨m, o, z, ho, hz, x, y, n1, n2, w⟩ | ⟨m, g, hg, x, y, w⟩
  · left
    have d : ∀ k, dr (nI n) M s k = mI M (64 + 2 * s) k := fun k => by
      unfold dr
      rw [x, if_neg (fun z => z.2 hmn)]
    rw [r1, m, c, c, d, d]
    exact ⟨by rw [if_neg (fun z => by have := z.1; rw [eq_nn (by decide) (by decide)] at this; omega)], x, w⟩
  · right; left
    have d : ∀ k, dr (nI n) M s k = mI M (64 + 2 * s) k := fun k => by
      unfold dr
      rw [x, if_neg (fun z => by have := z.1; rw [lt_nn (by omega) (by decide)] at this; omega)]
    rw [r1, m, c, c, d, d, r2, r3]
    exact ⟨by rw [if_neg (fun z => by have := z.1; rw [eq_nn (by decide) (by decide)] at this; omega)], o, z, ho, hz, x, y, n1, n2, fun i hi => by rw [j, j2]; exact w i hi⟩
  · by_cases e : g < n
    · right; right
      have d : ∀ k, dr (nI n) M s k = mI M (64 + 2 * s) k := fun k => by
        unfold dr
        rw [x, if_neg (fun z => z.2 (nI_lt e (by omega)))]
      rw [r1, m, c, c, d, d, r4, y]
      exact ⟨by rw [if_neg (fun z => z.2 (nI_lt e (by omega)))], g, by omega, x, rfl, w⟩
    · left
      have gn : ¬ nI g < nI n := by rw [lt_nn (by omega) (by omega)]; exact e
      have d : ∀ k, dr (nI n) M s k = (if k = 0 then -nI 1 else if k = 1 then nI 0 else mI M (64 + 2 * s) k) := fun k => by
        unfold dr
        rw [x, if_pos ⟨nI_lt (by omega) (by decide), gn⟩]
      rw [r1, m, c, c, d, d, y]
      exact ⟨if_pos ⟨rfl, gn⟩, if_pos rfl, by rw [if_neg (by decide), if_pos rfl]⟩
theorem reY {nn : Nat} (hnn : nn ≤ 8) (m w : Nat → Int32) : ∀ n i (M : Mm), FIX M → mI M 80 6 = nI nn → (∀ s, i ≤ s → s < 8 → mI M 91 s = m s) → (∀ s, s < 8 → mI M 94 s = w s) → i ≤ 8 → 8 - i < n → fX9_restore_b29 n 80 (nI i) M = some (nI nn, gI M 91 i 8 (fun s => if m s = nI 2 ∧ ¬ w s < nI nn then nI 0 else m s)) := by
  intro n
  induction n with
  | zero => intro i M _ _ _ _ h1 h2; omega
  | succ n ih =>
    intro i M hF h6 hm hw h1 h2
    rw [fX9_restore_b29]
    by_cases c : 8 ≤ i
    · have e : i = 8 := by omega
      subst e
      rw [if_pos (by rw [l8, le_nn (by decide) (by decide)]; exact Nat.le_refl _), ib80 hF, h6, gI_end]
    · have ci : i < 8 := by omega
      have mi := hm i (Nat.le_refl _) ci
      have wi := hw i ci
      rw [if_neg (by rw [l8, le_nn (by decide) (by omega)]; exact c), rb80_23 hF, ab91 hF ci, mi, show nI i + (1 : Int32) = nI (i + 1) from add_nn i 1]
      by_cases c2 : m i = nI 2
      · rw [if_pos (show m i = 2 from c2), rb80_26 hF, ab94 hF ci, wi, ib80 hF, h6]
        by_cases c3 : w i < nI nn
        · rw [if_pos c3, ih (i + 1) M hF h6 (fun s h3 h4 => hm s (by omega) h4) hw (by omega) (by omega), gI_skip ci (by rw [if_neg (fun z => z.2 c3)]; exact mi)]
        · rw [if_neg c3, rb80_23 hF, show (0 : Int32) = nI 0 from rfl, tb91 hF ci, ih (i + 1) (sI M 91 i (nI 0)) (by simp only [FIX_sI, FIX_sJ, FIX_gI, FIX_gJ]; exact hF) (by rw [mI_sI, if_neg (by omega)]; exact h6) (fun s h3 h4 => by rw [mI_sI, if_neg (by omega)]; exact hm s (by omega) h4) (fun s h4 => by rw [mI_sI, if_neg (by omega)]; exact hw s h4) (by omega) (by omega), gI_step ci (by rw [if_pos ⟨c2, c3⟩])]
      · rw [if_neg (show ¬ m i = 2 from c2), ih (i + 1) M hF h6 (fun s h3 h4 => hm s (by omega) h4) hw (by omega) (by omega), gI_skip ci (by rw [if_neg (fun z => c2 z.1)]; exact mi)]
theorem op_restore (A : Mm) : Eqv A (fX8_restore 20) (fX9_restore 80) := by
  rintro M ⟨q, od, sd, b, q2, od2, sd2, h⟩
  have hF := h.1
  have h0 := hF.1
  have hI := h.2.2.1
  have hq := hI.sg
  have hS := h.2.2.2.1
  have hM := h.2.2.2.2.1
  have hSh := h.2.2.2.2.2.2.2.2.1
  obtain ⟨i1, i2, i3⟩ := h.2.2.2.2.2.2.2.1
  rcases i3 with rfl | ⟨rfl, hI2, hS2, hK2⟩
  · exact ex_no h 6 (-nI 6) (by simp (disch := first | assumption | omega | (simp only [FIX_sI, FIX_sJ, FIX_gI, FIX_gJ]; assumption)) only [fX8_restore, ↓kb20, ↓ib20, ↓pb20, ↓kb22, ↓ib22, ↓pb22, ↓kb25, ↓ib25, ↓pb25, ↓ab26, ↓tb26, ↓ab27, ↓tb27, ↓ab40, ↓tb40, ↓kb41, ↓ib41, ↓pb41, ↓kb61, ↓ib61, ↓pb61, ↓ab62, ↓tb62, ↓ab63, ↓tb63, ↓rb20_0, ↓rb20_1, ↓rb20_2, ↓rb20_3, ↓rb20_5, ↓rb20_7, ↓rb20_8, ↓rb20_9, ↓rb22_6, ↓rb22_8, ↓rb22_10, ↓rb25_0, ↓rb25_1, ↓rb41_0, ↓rb41_1, ↓rb61_0, ↓fb1, ↓fb2, ↓fb3, ↓fb4, ↓fb5, ↓fb6, ↓fb7, ↓kbH, ↓ibH, ↓pbH, ↓rbH, ↓abH, ↓tbH, ↓sbH, ↓sbB, ↓Option.bind_some, ↓Option.elim_some, ↓Option.elim_none, ↓reduceIte, Nat.reduceEqDiff, Nat.reduceAdd, and_self, and_true, true_and, false_and, and_false, l0, l1, l2, l3, l4, l5, l6, l7, l8, l9, l10, l11, l12, l13, l14, l15, l16, l17, l18, l19, l20, l21, l22, l23, l24, l25, l26, l27, l28, l29, l30, l31, l32, l33, l34, l35, l36, l37, l38, l39, l40, l41, l42, l43, l44, l45, l46, l48, l50, l57, l59, l60, l63, l70, l71, l80, l97, l99, l100, l101, l103, l104, l105, l108, l110, l111, l114, l115, l116, l117, l119, l160, l200, l255, l1280, l12345, le_nn, lt_nn, eq_nn, cl_nn, ng_le, ng_lt, ng_lt2, ng_le2, ng_eq, mi_eq, mi_ne, mi_ne2, mi_mi, add_nn, mul_nn, sub_nn, refX, refY, not_false_eq_true, not_true_eq_false, Nat.not_lt_zero, Nat.zero_le, Nat.reduceLeDiff, Nat.reduceLT, Nat.reduceMul, Nat.reduceSub, true_or, or_true, or_false, false_or, i1]) (by simp (disch := first | assumption | omega | (simp only [FIX_sI, FIX_sJ, FIX_gI, FIX_gJ]; assumption)) only [fX9_restore, ↓kb80, ↓ib80, ↓pb80, ↓ab81, ↓tb81, ↓ab82, ↓tb82, ↓ab83, ↓tb83, ↓ab84, ↓tb84, ↓ab85, ↓tb85, ↓ab86, ↓tb86, ↓ab87, ↓tb87, ↓ab88, ↓tb88, ↓ab89, ↓tb89, ↓ab90, ↓tb90, ↓ab91, ↓tb91, ↓ab92, ↓tb92, ↓ab93, ↓tb93, ↓ab94, ↓tb94, ↓ab95, ↓tb95, ↓ab96, ↓tb96, ↓ab97, ↓tb97, ↓ab98, ↓tb98, ↓ab99, ↓tb99, ↓ab100, ↓tb100, ↓ab101, ↓tb101, ↓ab102, ↓tb102, ↓ab103, ↓tb103, ↓ab104, ↓tb104, ↓ab105, ↓tb105, ↓ab106, ↓tb106, ↓rb80_13, ↓rb80_14, ↓rb80_15, ↓rb80_16, ↓rb80_17, ↓rb80_18, ↓rb80_19, ↓rb80_20, ↓rb80_21, ↓rb80_22, ↓rb80_23, ↓rb80_24, ↓rb80_25, ↓rb80_26, ↓rb80_27, ↓rb80_28, ↓rb80_30, ↓rb80_31, ↓rb80_37, ↓rb80_38, ↓rb80_39, ↓rb80_40, ↓rb80_41, ↓rb80_44, ↓rb80_45, ↓rb80_46, ↓nb1, ↓nb2, ↓nb3, ↓nb4, ↓nb5, ↓nb6, ↓nb7, ↓zbH, ↓zbB, ↓Option.bind_some, ↓Option.elim_some, ↓Option.elim_none, ↓reduceIte, Nat.reduceEqDiff, Nat.reduceAdd, and_self, and_true, true_and, false_and, and_false, l0, l1, l2, l3, l4, l5, l6, l7, l8, l9, l10, l11, l12, l13, l14, l15, l16, l17, l18, l19, l20, l21, l22, l23, l24, l25, l26, l27, l28, l29, l30, l31, l32, l33, l34, l35, l36, l37, l38, l39, l40, l41, l42, l43, l44, l45, l46, l48, l50, l57, l59, l60, l63, l70, l71, l80, l97, l99, l100, l101, l103, l104, l105, l108, l110, l111, l114, l115, l116, l117, l119, l160, l200, l255, l1280, l12345, le_nn, lt_nn, eq_nn, cl_nn, ng_le, ng_lt, ng_lt2, ng_le2, ng_eq, mi_eq, mi_ne, mi_ne2, mi_mi, add_nn, mul_nn, sub_nn, refX, refY, not_false_eq_true, not_true_eq_false, Nat.not_lt_zero, Nat.zero_le, Nat.reduceLeDiff, Nat.reduceLT, Nat.reduceMul, Nat.reduceSub, true_or, or_true, or_false, false_or, mT_sI, mW_sI, mK_sI, mI_sI, mJ_sI, mR_sI, mT_sJ, mW_sJ, mK_sJ, mI_sJ, mJ_sJ, mR_sJ, mT_sR, mW_sR, mK_sR, mI_sR, mJ_sR, mR_sR, mT_gI, mW_gI, mK_gI, mI_gI, mJ_gI, mR_gI, mT_gJ, mW_gJ, mK_gJ, mI_gJ, mJ_gJ, mR_gJ, mT_wR, mW_wR, mK_wR, mI_wR, mJ_wR, mR_wR, i2])
  have hq2 := hI2.sg
  obtain ⟨N, e1, f1, t1, s1⟩ := lik8 (s := 34) (d := 22) (Or.inr (Or.inr rfl)) (Or.inl rfl) (by decide) hF hS2 ⟨hI2.2.2.2.1, hq2.1, hq2.2⟩ hS.2.2.2.2.2.2.2.2
  have hFN := f1.fix hF
  have h0N := hFN.1
  obtain ⟨M1, a1, f2, ⟨t21, t22⟩, g1⟩ := drX (nI (q2 62)) FU 0 N hFN (by decide) (by decide)
  have hF1 := f2.fix hFN
  have h01 := hF1.1
  have hK := hK2.fr hF (f1.trans f2) (by decide) (by decide) mem0
  obtain ⟨N2, e2, f3, t3, s2⟩ := allR (Or.inr rfl) (Or.inr rfl) hF1 hK
  have hF2 := f3.fix hF1
  have h02 := hF2.1
  have er := reY hq2.1 (fun s => mI N2 91 s) (fun s => mI N2 94 s) FU 0 N2 hF2 s2.f62 (fun s _ _ => rfl) (fun s _ => rfl) (by decide) (by decide)
  obtain ⟨M2, hM2⟩ : ∃ M2, M2 = gI N2 91 0 8 (fun s => if mI N2 91 s = nI 2 ∧ ¬ mI N2 94 s < nI (q2 62) then nI 0 else mI N2 91 s) := ⟨_, rfl⟩
  have f4 : Fr [91] [] N2 M2 := by rw [hM2]; exact Fr.gI _ _ _ List.mem_cons_self
  have fT := ((f1.trans f2).trans f3).trans f4
  have f34 := f3.trans f4
  have s11 := s1.fr hFN f2 (by decide) (by decide) mem0
  have n1 : ∀ s, s < 8 → ¬ 65 + 2 * s ∈ HS ∧ ¬ 65 + 2 * s ∈ [82, 83, 84, 85, 86, 87, 88, 89] ++ [91] ∧ ¬ 64 + 2 * s ∈ [82, 83, 84, 85, 86, 87, 88, 89] ++ [91] := by decide
  have n2 : ∀ s, s < 8 → ∀ k, ¬ (64 + 2 * s, k) ∈ e80s ++ [] := fun s hs k z => by
    simp only [e80s, List.append_nil, List.mem_cons, Prod.mk.injEq, List.not_mem_nil, or_false] at z
    omega
  have n3 : ∀ o, 91 ≤ o → ∀ k, ¬ (o, k) ∈ e80s := fun o ho k z => by
    simp only [e80s, List.mem_cons, Prod.mk.injEq, List.not_mem_nil, or_false] at z
    omega
  have p9 : ∀ o k, o = 91 ∨ o = 92 ∨ o = 93 ∨ o = 94 → mI N2 o k = mI N o k := fun o k ho => by
    rw [f3.I (by omega) (by rcases ho with rfl | rfl | rfl | rfl <;> decide) (n3 o (by omega) k), f2.I (by omega) (by rcases ho with rfl | rfl | rfl | rfl <;> decide) List.not_mem_nil]
  have hShM : ∀ s, s < 8 → Sh s q2 M2 := fun s hs => by
    have hN := (hSh s hs).fr hF f1 hs (by decide) mem0
    obtain ⟨w1, w2, w3⟩ := n1 s hs
    refine hN.drop hs hq.1 hq2.1 (Nat.le_refl _) (fun k => ?_) ?_ ?_ ?_ ?_ (fun i => ?_) (fun i => ?_)
    · rw [f34.I (by omega) w3 (n2 s hs k), g1 s hs k, if_pos (Nat.zero_le _)]
    · rw [hM2, mI_gI, if_pos ⟨rfl, Nat.zero_le _, hs⟩, p9 91 s (by omega), p9 94 s (by omega)]
    · rw [f4.I (by omega) (by decide) List.not_mem_nil, p9 92 s (by omega)]
    · rw [f4.I (by omega) (by decide) List.not_mem_nil, p9 93 s (by omega)]
    · rw [f4.I (by omega) (by decide) List.not_mem_nil, p9 94 s (by omega)]
    · rw [f34.J (by omega) w2, f2.J (by omega) w1]
    · rw [f34.J (by omega) (by decide), f2.J (by omega) (by decide)]
  have x7 : mI M1 22 7 = nI (q2 62) := s11.f62
  have hw := h.2.2.2.2.2.1.fr hF fT (by decide) (by decide) (by decide) (by decide)
  refine ⟨nI (q2 62), M1, M2, ?_, ?_, ⟨q2, od2, sd2, 1, q2, od2, sd2, h.upd2 fT (by unfold scr; decide) (by unfold scf; decide) hI2 (s11.fr hF1 f34 (by decide) (by decide) (by decide)) (s2.fr hF2 f4 (by decide) mem0) hw hShM⟩, Gr.same (by rw [hM2, mT_gI, t3.1, t21, t1.1]) (by rw [hM2, mW_gI, t3.2, t22, t1.2])⟩
  · have ed : fX8_dropSignsFrom 20 (nI (q2 62)) N = some M1 := by
      unfold fX8_dropSignsFrom
      rw [kb20 hFN]
      exact a1
    unfold fX8_restore
    rw [kb20 hF, ib20 hF, i1, if_neg (by decide), rb20_1 hF, rb20_3 hF, bnd1 e1, rb20_1 hFN, ib22 hFN, s1.f62, bnd1 ed, rb20_1 hF1, ib22 hF1, x7]
  · have i48 : mI M1 80 48 = nI 1 := by rw [f2.I (by omega) (by decide) List.not_mem_nil, f1.I (by omega) (by decide) List.not_mem_nil]; exact i2
    unfold fX9_restore
    rw [kb80 hF1, ib80 hF1, i48, if_neg (by decide), rb80_38 hF1, rb80_40 hF1, show (1 : Int32) = nI 1 from rfl, bnd1 e2, show (0 : Int32) = nI 0 from rfl, er, hM2]
