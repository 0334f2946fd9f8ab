/-! looks -/
theorem sI_undo {M : Mm} {a k : Nat} {v w : Int32} (h : mI M a k = w) : sI (sI M a k v) a k w = M := by
  have : u2 (mI (sI M a k v)) a k w = mI M := funext fun x => funext fun j => by
    show (if x = a ∧ j = k then w else mI (sI M a k v) x j) = mI M x j
    by_cases e : x = a ∧ j = k
    · rw [if_pos e, e.1, e.2, h]
    · rw [if_neg e, mI_sI, if_neg e]
  exact Ieta this
theorem op_looks (A : Mm) (x1 : Int32) : Eqv A (fX8_looks 20 x1) (fX9_looks 80 x1) := by
  rintro M ⟨q, od, sd, b, q2, od2, sd2, h⟩
  have hF := h.1
  have hI := h.2.2.1
  have hq := hI.sg
  have hS := h.2.2.2.1
  have hM := h.2.2.2.2.1
  have hL := hI.1
  have h16 : q 64 ≤ 16 := hI.2.2.2.2.2.2.2.1
  have h66b := hI.2.2.2.2.2.2.2.2.2.1
  have h66 : q 66 < 100 := by omega
  rcases bn_cases (q 62) x1 with hb | ⟨i, hi, hi3, rfl⟩
  · exact ex_no h 1 (-nI 1) (by simp (disch := first | assumption | omega | (simp only [FIX_sI, FIX_sJ, FIX_gI, FIX_gJ]; assumption)) only [fX8_looks, ↓kb20, ↓ib20, ↓pb20, ↓kb22, ↓ib22, ↓pb22, ↓kb25, ↓ib25, ↓pb25, ↓ab26, ↓tb26, ↓ab27, ↓tb27, ↓ab40, ↓tb40, ↓kb41, ↓ib41, ↓pb41, ↓kb61, ↓ib61, ↓pb61, ↓ab62, ↓tb62, ↓ab63, ↓tb63, ↓rb20_0, ↓rb20_1, ↓rb20_2, ↓rb20_3, ↓rb20_5, ↓rb20_7, ↓rb20_8, ↓rb20_9, ↓rb22_6, ↓rb22_8, ↓rb22_10, ↓rb25_0, ↓rb25_1, ↓rb41_0, ↓rb41_1, ↓rb61_0, ↓fb1, ↓fb2, ↓fb3, ↓fb4, ↓fb5, ↓fb6, ↓fb7, ↓kbH, ↓ibH, ↓pbH, ↓rbH, ↓abH, ↓tbH, ↓sbH, ↓sbB, ↓Option.bind_some, ↓Option.elim_some, ↓Option.elim_none, ↓reduceIte, Nat.reduceEqDiff, Nat.reduceAdd, and_self, and_true, true_and, false_and, and_false, gAt_no (Or.inl rfl) hF hS hq hb, Option.bind_some, l0, l1, l2, l3, l4, l5, l6, l7, l8, l9, l10, l11, l12, l13, l14, l15, l16, l17, l18, l19, l20, l21, l22, l23, l24, l25, l26, l27, l28, l29, l30, l31, l32, l33, l34, l35, l36, l37, l38, l39, l40, l41, l42, l43, l44, l45, l46, l48, l50, l57, l59, l60, l63, l70, l71, l80, l97, l99, l100, l101, l103, l104, l105, l108, l110, l111, l114, l115, l116, l117, l119, l160, l200, l255, l1280, l12345, le_nn, lt_nn, eq_nn, cl_nn, ng_le, ng_lt, ng_lt2, ng_le2, ng_eq, mi_eq, mi_ne, mi_ne2, mi_mi, add_nn, mul_nn, sub_nn, refX, refY, not_false_eq_true, not_true_eq_false, Nat.not_lt_zero, Nat.zero_le, Nat.reduceLeDiff, Nat.reduceLT, Nat.reduceMul, Nat.reduceSub, true_or, or_true, or_false, false_or]) (by simp (disch := first | assumption | omega | (simp only [FIX_sI, FIX_sJ, FIX_gI, FIX_gJ]; assumption)) only [fX9_looks, ↓kb80, ↓ib80, ↓pb80, ↓ab81, ↓tb81, ↓ab82, ↓tb82, ↓ab83, ↓tb83, ↓ab84, ↓tb84, ↓ab85, ↓tb85, ↓ab86, ↓tb86, ↓ab87, ↓tb87, ↓ab88, ↓tb88, ↓ab89, ↓tb89, ↓ab90, ↓tb90, ↓ab91, ↓tb91, ↓ab92, ↓tb92, ↓ab93, ↓tb93, ↓ab94, ↓tb94, ↓ab95, ↓tb95, ↓ab96, ↓tb96, ↓ab97, ↓tb97, ↓ab98, ↓tb98, ↓ab99, ↓tb99, ↓ab100, ↓tb100, ↓ab101, ↓tb101, ↓ab102, ↓tb102, ↓ab103, ↓tb103, ↓ab104, ↓tb104, ↓ab105, ↓tb105, ↓ab106, ↓tb106, ↓rb80_13, ↓rb80_14, ↓rb80_15, ↓rb80_16, ↓rb80_17, ↓rb80_18, ↓rb80_19, ↓rb80_20, ↓rb80_21, ↓rb80_22, ↓rb80_23, ↓rb80_24, ↓rb80_25, ↓rb80_26, ↓rb80_27, ↓rb80_28, ↓rb80_30, ↓rb80_31, ↓rb80_37, ↓rb80_38, ↓rb80_39, ↓rb80_40, ↓rb80_41, ↓rb80_44, ↓rb80_45, ↓rb80_46, ↓nb1, ↓nb2, ↓nb3, ↓nb4, ↓nb5, ↓nb6, ↓nb7, ↓zbH, ↓zbB, ↓Option.bind_some, ↓Option.elim_some, ↓Option.elim_none, ↓reduceIte, Nat.reduceEqDiff, Nat.reduceAdd, and_self, and_true, true_and, false_and, and_false, isG_no (M := sI M 40 1 (mI M 40 1 + nI 1)) (by simp only [FIX_sI, FIX_sJ, FIX_gI, FIX_gJ]; exact hF) (h.after _ _) hq hb, Option.bind_some, l0, l1, l2, l3, l4, l5, l6, l7, l8, l9, l10, l11, l12, l13, l14, l15, l16, l17, l18, l19, l20, l21, l22, l23, l24, l25, l26, l27, l28, l29, l30, l31, l32, l33, l34, l35, l36, l37, l38, l39, l40, l41, l42, l43, l44, l45, l46, l48, l50, l57, l59, l60, l63, l70, l71, l80, l97, l99, l100, l101, l103, l104, l105, l108, l110, l111, l114, l115, l116, l117, l119, l160, l200, l255, l1280, l12345, le_nn, lt_nn, eq_nn, cl_nn, ng_le, ng_lt, ng_lt2, ng_le2, ng_eq, mi_eq, mi_ne, mi_ne2, mi_mi, add_nn, mul_nn, sub_nn, refX, refY, not_false_eq_true, not_true_eq_false, Nat.not_lt_zero, Nat.zero_le, Nat.reduceLeDiff, Nat.reduceLT, Nat.reduceMul, Nat.reduceSub, true_or, or_true, or_false, false_or, mT_sI, mW_sI, mK_sI, mI_sI, mJ_sI, mR_sI, mT_sJ, mW_sJ, mK_sJ, mI_sJ, mJ_sJ, mR_sJ, mT_sR, mW_sR, mK_sR, mI_sR, mJ_sR, mR_sR, mT_gI, mW_gI, mK_gI, mI_gI, mJ_gI, mR_gI, mT_gJ, mW_gJ, mK_gJ, mI_gJ, mJ_gJ, mR_gJ, mT_wR, mW_wR, mK_wR, mI_wR, mJ_wR, mR_wR])
  obtain ⟨r, er, g⟩ := gAt (Or.inl rfl) hF hS hq hi
  have z9 : ∀ k, fX9_isSign 80 (nI i) (sI M 40 k (mI M 40 k + nI 1)) = some (nI 1, sI M 40 k (mI M 40 k + nI 1)) := fun k => isG (by simp only [FIX_sI, FIX_sJ, FIX_gI, FIX_gJ]; exact hF) (h.after _ _) hq hi
  by_cases c : q 66 = 0
  · exact ex_no h 6 (-nI 6) (by simp (disch := first | assumption | omega | (simp only [FIX_sI, FIX_sJ, FIX_gI, FIX_gJ]; assumption)) only [fX8_looks, ↓kb20, ↓ib20, ↓pb20, ↓kb22, ↓ib22, ↓pb22, ↓kb25, ↓ib25, ↓pb25, ↓ab26, ↓tb26, ↓ab27, ↓tb27, ↓ab40, ↓tb40, ↓kb41, ↓ib41, ↓pb41, ↓kb61, ↓ib61, ↓pb61, ↓ab62, ↓tb62, ↓ab63, ↓tb63, ↓rb20_0, ↓rb20_1, ↓rb20_2, ↓rb20_3, ↓rb20_5, ↓rb20_7, ↓rb20_8, ↓rb20_9, ↓rb22_6, ↓rb22_8, ↓rb22_10, ↓rb25_0, ↓rb25_1, ↓rb41_0, ↓rb41_1, ↓rb61_0, ↓fb1, ↓fb2, ↓fb3, ↓fb4, ↓fb5, ↓fb6, ↓fb7, ↓kbH, ↓ibH, ↓pbH, ↓rbH, ↓abH, ↓tbH, ↓sbH, ↓sbB, ↓Option.bind_some, ↓Option.elim_some, ↓Option.elim_none, ↓reduceIte, Nat.reduceEqDiff, Nat.reduceAdd, and_self, and_true, true_and, false_and, and_false, er, Option.bind_some, l0, l1, l2, l3, l4, l5, l6, l7, l8, l9, l10, l11, l12, l13, l14, l15, l16, l17, l18, l19, l20, l21, l22, l23, l24, l25, l26, l27, l28, l29, l30, l31, l32, l33, l34, l35, l36, l37, l38, l39, l40, l41, l42, l43, l44, l45, l46, l48, l50, l57, l59, l60, l63, l70, l71, l80, l97, l99, l100, l101, l103, l104, l105, l108, l110, l111, l114, l115, l116, l117, l119, l160, l200, l255, l1280, l12345, le_nn, lt_nn, eq_nn, cl_nn, ng_le, ng_lt, ng_lt2, ng_le2, ng_eq, mi_eq, mi_ne, mi_ne2, mi_mi, add_nn, mul_nn, sub_nn, refX, refY, not_false_eq_true, not_true_eq_false, Nat.not_lt_zero, Nat.zero_le, Nat.reduceLeDiff, Nat.reduceLT, Nat.reduceMul, Nat.reduceSub, true_or, or_true, or_false, false_or, h.x66, tr_eq, c]) (by simp (disch := first | assumption | omega | (simp only [FIX_sI, FIX_sJ, FIX_gI, FIX_gJ]; assumption)) only [fX9_looks, ↓kb80, ↓ib80, ↓pb80, ↓ab81, ↓tb81, ↓ab82, ↓tb82, ↓ab83, ↓tb83, ↓ab84, ↓tb84, ↓ab85, ↓tb85, ↓ab86, ↓tb86, ↓ab87, ↓tb87, ↓ab88, ↓tb88, ↓ab89, ↓tb89, ↓ab90, ↓tb90, ↓ab91, ↓tb91, ↓ab92, ↓tb92, ↓ab93, ↓tb93, ↓ab94, ↓tb94, ↓ab95, ↓tb95, ↓ab96, ↓tb96, ↓ab97, ↓tb97, ↓ab98, ↓tb98, ↓ab99, ↓tb99, ↓ab100, ↓tb100, ↓ab101, ↓tb101, ↓ab102, ↓tb102, ↓ab103, ↓tb103, ↓ab104, ↓tb104, ↓ab105, ↓tb105, ↓ab106, ↓tb106, ↓rb80_13, ↓rb80_14, ↓rb80_15, ↓rb80_16, ↓rb80_17, ↓rb80_18, ↓rb80_19, ↓rb80_20, ↓rb80_21, ↓rb80_22, ↓rb80_23, ↓rb80_24, ↓rb80_25, ↓rb80_26, ↓rb80_27, ↓rb80_28, ↓rb80_30, ↓rb80_31, ↓rb80_37, ↓rb80_38, ↓rb80_39, ↓rb80_40, ↓rb80_41, ↓rb80_44, ↓rb80_45, ↓rb80_46, ↓nb1, ↓nb2, ↓nb3, ↓nb4, ↓nb5, ↓nb6, ↓nb7, ↓zbH, ↓zbB, ↓Option.bind_some, ↓Option.elim_some, ↓Option.elim_none, ↓reduceIte, Nat.reduceEqDiff, Nat.reduceAdd, and_self, and_true, true_and, false_and, and_false, z9, Option.bind_some, mT_sI, mW_sI, mK_sI, mI_sI, mJ_sI, mR_sI, mT_sJ, mW_sJ, mK_sJ, mI_sJ, mJ_sJ, mR_sJ, mT_sR, mW_sR, mK_sR, mI_sR, mJ_sR, mR_sR, mT_gI, mW_gI, mK_gI, mI_gI, mJ_gI, mR_gI, mT_gJ, mW_gJ, mK_gJ, mI_gJ, mJ_gJ, mR_gJ, mT_wR, mW_wR, mK_wR, mI_wR, mJ_wR, mR_wR, l0, l1, l2, l3, l4, l5, l6, l7, l8, l9, l10, l11, l12, l13, l14, l15, l16, l17, l18, l19, l20, l21, l22, l23, l24, l25, l26, l27, l28, l29, l30, l31, l32, l33, l34, l35, l36, l37, l38, l39, l40, l41, l42, l43, l44, l45, l46, l48, l50, l57, l59, l60, l63, l70, l71, l80, l97, l99, l100, l101, l103, l104, l105, l108, l110, l111, l114, l115, l116, l117, l119, l160, l200, l255, l1280, l12345, le_nn, lt_nn, eq_nn, cl_nn, ng_le, ng_lt, ng_lt2, ng_le2, ng_eq, mi_eq, mi_ne, mi_ne2, mi_mi, add_nn, mul_nn, sub_nn, refX, refY, not_false_eq_true, not_true_eq_false, Nat.not_lt_zero, Nat.zero_le, Nat.reduceLeDiff, Nat.reduceLT, Nat.reduceMul, Nat.reduceSub, true_or, or_true, or_false, false_or, h.y66, tr_eq, c])
  have hT : 1 ≤ q 66 := by omega
  have ct : q 66 - 1 < 24 := by omega
  obtain ⟨is, his⟩ : ∃ is : Bool, is = decide (¬ nI (tn q i (q 66 - 1)) ≤ dw (nx sd)) := ⟨_, rfl⟩
  have X : fX8_looks 20 (nI i) M = fX8_looks_b75 20 r (nx sd) (bI is) M := by
    have m1 : ¬ mI M 22 13 = -1 := by rw [h.x66, l1, tr_eq h66]; exact c
    have et := ten8 (Or.inl rfl) hF hS hI g hi ct
    unfold fX8_looks
    rw [kb20 hF, rb20_1 hF, bnd1 er]
    dsimp only
    rw [Option.bind_some, Option.elim_some, rb20_1 hF, ib22 hF, if_neg m1, rb20_1 hF, ib22 hF, h.x67, bnd1 (sdb8 _ _)]
    dsimp only
    rw [bnd1 (dro8 _ _)]
    dsimp only
    rw [rb20_1 hF, rb20_1 hF, ib22 hF, h.x66, tru1 hT, bnd1 et]
    dsimp only
    by_cases z : nI (tn q i (q 66 - 1)) ≤ dw (nx sd)
    · rw [if_pos z, show is = false by rw [his]; exact decide_eq_false (fun y => y z)]
      rfl
    · rw [if_neg z, show is = true by rw [his]; exact decide_eq_true z]
      rfl
  have Y : ∀ M1, FIX M1 → MD q od sd M1 → fX9_looks 80 (nI i) M1 = fX9_looks_b57 80 (nI i) sd (bI is) (sI M1 80 11 (nx sd)) := fun M1 hF1 hM1 => by
    have m1 : ¬ mI M1 80 10 = -1 := by rw [hM1.2.1, l1, tr_eq h66]; exact c
    have zz := isG hF1 hM1 hq hi
    have hpM := hM1.putS (nx sd)
    have hF2 : FIX (sI M1 80 11 (nx sd)) := by rw [FIX_sI]; exact hF1
    have ed := dra9 hF1
    rw [hM1.2.2.1] at ed
    have et := ten9 hF2 hpM hI hi ct
    unfold fX9_looks
    rw [kb80 hF1, bnd1 zz]
    dsimp only
    rw [if_neg (by decide), ib80 hF1, if_neg m1, ib80 hF1, hM1.2.2.1, bnd1 ed]
    dsimp only
    rw [ib80 hF2, hpM.2.1, tru1 hT, bnd1 et]
    dsimp only
    by_cases z : nI (tn q i (q 66 - 1)) ≤ dw (nx sd)
    · rw [if_pos z, show is = false by rw [his]; exact decide_eq_false (fun y => y z)]
      rfl
    · rw [if_neg z, show is = true by rw [his]; exact decide_eq_true z]
      rfl
  have no : ∀ k, 1 ≤ k → k < 8 → fX8_looks_b75 20 r (nx sd) (bI is) M = some (-nI k, sI M 40 k (mI M 40 k + nI 1)) → (∀ M1, FIX M1 → MD q od sd M1 → fX9_looks_b57 80 (nI i) sd (bI is) (sI M1 80 11 (nx sd)) = fX9_looks_b87 80 (nI i) sd (bI is) (-nI k) (sI M1 80 11 (nx sd))) → ∃ r M1 M2, fX8_looks 20 (nI i) M = some (r, M1) ∧ fX9_looks 80 (nI i) M1 = some (r, M2) ∧ Rel A M2 ∧ Gr M M2 := fun k k1 k8 hx hy => by
    refine ex_no h k (-nI k) (X.trans hx) ?_
    have hF1 : FIX (sI M 40 k (mI M 40 k + nI 1)) := by rw [FIX_sI]; exact hF
    have hM1 := h.after k (mI M 40 k + nI 1)
    have hF2 : FIX (sI (sI M 40 k (mI M 40 k + nI 1)) 80 11 (nx sd)) := by rw [FIX_sI]; exact hF1
    have e81 : mI (sI M 40 k (mI M 40 k + nI 1)) 81 k = mI M 81 k := by rw [mI_sI, if_neg (by omega)]
    rw [Y _ hF1 hM1, hy _ hF1 hM1]
    unfold fX9_looks_b87
    rw [if_neg (show ¬ -nI k = 0 by rw [l0, mi_ne2 (by decide) (by omega) (by omega)]; exact id), pb80 hF2, sI_undo hM1.2.2.1, bnd1 (refY hF1 k1 k8)]
    dsimp only
    rw [e81]
  have c8 := cb8 (Or.inl rfl) hF hS hI g hi is
  by_cases cc : cb q od i is = false
  · refine no 6 (by decide) (by decide) ?_ (fun M1 hF1 hM1 => ?_)
    · unfold fX8_looks_b75
      rw [rb20_1 hF, bnd1 c8]
      dsimp only
      rw [if_pos (by rw [bI_0]; exact cc), show (-6 : Int32) = -nI 6 from rfl, bnd1 (refX hF (by decide) (by decide))]
    · have hF2 : FIX (sI M1 80 11 (nx sd)) := by rw [FIX_sI]; exact hF1
      unfold fX9_looks_b57
      rw [bnd1 (cb9 hF2 (hM1.putS (nx sd)) hI hi is)]
      dsimp only
      rw [if_pos (by rw [bI_0]; exact cc)]
      rfl
  by_cases c7 : 16 ≤ q 64
  · refine no 7 (by decide) (by decide) ?_ (fun M1 hF1 hM1 => ?_)
    · unfold fX8_looks_b75
      rw [rb20_1 hF, bnd1 c8]
      dsimp only
      rw [if_neg (by rw [bI_0]; exact cc), rb20_1 hF, ib22 hF, h.x64, if_neg (by rw [l16, lt_nn (by omega) (by omega)]; omega), show (-7 : Int32) = -nI 7 from rfl, bnd1 (refX hF (by decide) (by decide))]
    · have hF2 : FIX (sI M1 80 11 (nx sd)) := by rw [FIX_sI]; exact hF1
      have hp := hM1.putS (nx sd)
      unfold fX9_looks_b57
      rw [bnd1 (cb9 hF2 hp hI hi is)]
      dsimp only
      rw [if_neg (by rw [bI_0]; exact cc), ib80 hF2, hp.f64, if_pos (by rw [l16, eq_nn (by omega) (by omega)]; omega)]
      rfl
  have hp := hS.putS (by decide) hq (nx sd)
  obtain ⟨N, hN⟩ : ∃ N, N = sI M 22 14 (nx sd) := ⟨_, rfl⟩
  rw [← hN] at hp
  have hFN : FIX N := by rw [hN, FIX_sI]; exact hF
  have f0 : Fr [] [(22, 14)] M N := by rw [hN]; exact Fr.oI _ _ (Or.inr (by decide))
  have gN := g.fr f0 mem0 (by decide)
  obtain ⟨M1, e1, f1, t1, s1⟩ := fel8 (Or.inl rfl) hFN hp hI gN hi is
  have fX := f0.trans f1
  have hF1 := fX.fix hF
  have hM1 := (hM.fr hF fX (by decide) (by decide))
  have hpM := hM1.putS (nx sd)
  have eY := Y M1 hF1 hM1
  obtain ⟨N1, hN1⟩ : ∃ N1, N1 = sI M1 80 11 (nx sd) := ⟨_, rfl⟩
  rw [← hN1] at hpM eY
  have hFN1 : FIX N1 := by rw [hN1, FIX_sI]; exact hF1
  have f2 : Fr [] [(80, 11)] M1 N1 := by rw [hN1]; exact Fr.oI _ _ (Or.inr (by decide))
  obtain ⟨M2, e2, f3, t2, s2⟩ := fel9 hFN1 hpM hI hi is
  have fY := f2.trans f3
  refine ex_upd (r := bI is) (M1 := M1) (M2 := M2) ?_ ?_ (h.upd (fX.trans fY) (by unfold scr; decide) (by unfold scf; decide) (hI.fe (by omega) hi is) (s1.fr hF1 fY (by decide) (by decide) (by decide)) s2 (h.2.2.2.2.2.1.fr hF (fX.trans fY) (by decide) (by decide) (by decide) (by decide)) (Nat.le_refl _)) (Gr.same (by rw [t2.1, hN1, mT_sI, t1.1, hN, mT_sI]) (by rw [t2.2, hN1, mW_sI, t1.2, hN, mW_sI]))
  · rw [X]
    unfold fX8_looks_b75
    rw [rb20_1 hF, bnd1 c8]
    dsimp only
    rw [if_neg (by rw [bI_0]; exact cc), rb20_1 hF, ib22 hF, h.x64, if_pos (by rw [l16, lt_nn (by omega) (by omega)]; omega), rb20_1 hF, pb22 hF, ← hN, rb20_1 hFN, bnd1 e1]
    cases is
    · rw [if_pos (show bI false = 0 from rfl)]; rfl
    · rw [if_neg (by decide)]; rfl
  · rw [eY]
    unfold fX9_looks_b57
    rw [bnd1 (cb9 hFN1 hpM hI hi is)]
    dsimp only
    rw [if_neg (by rw [bI_0]; exact cc), ib80 hFN1, hpM.f64, if_neg (by rw [l16, eq_nn (by omega) (by omega)]; omega)]
    unfold fX9_looks_b87
    rw [if_pos rfl, bnd1 e2]
    cases is
    · rw [if_pos (show bI false = 0 from rfl)]; rfl
    · rw [if_neg (by decide)]; rfl
