/-! town, both sides -/
def DA : List Nat := [22, 23, 24, 26, 28, 29, 30, 31, 32, 33]
def DB : List Nat := [64, 66, 68, 70, 72, 74, 76, 78, 82, 83, 84, 85, 86, 87, 88, 89, 91, 98, 99, 101]
def EB : List (Nat × Nat) := [(80, 0), (80, 1), (80, 2), (80, 3), (80, 4), (80, 5), (80, 6), (80, 7), (80, 8), (80, 9), (80, 10), (80, 11), (80, 12), (80, 29), (80, 32), (80, 33), (80, 34), (80, 35), (80, 36)]
def DC : List Nat := [82, 83, 84, 85, 86, 87, 88, 89, 98, 99, 101]
def EC : List (Nat × Nat) := [(40, 6), (81, 6), (80, 0), (80, 1), (80, 2), (80, 3), (80, 4), (80, 5), (80, 6), (80, 7), (80, 8), (80, 9), (80, 10), (80, 11), (80, 12), (80, 29), (80, 32), (80, 33), (80, 34), (80, 35), (80, 36)]
/-- the class drops its signs where the row told a length -/
theorem drT {M : Mm} (hF : FIX M) (t : Nat) : ∃ M1, (t = 0 → M1 = M) ∧ (¬ t = 0 → fX8_dropSignsFrom 20 (nI 0) M = some M1) ∧ Fr HS [] M M1 ∧ (mT M1 = mT M ∧ mW M1 = mW M) ∧ ∀ s, s < 8 → ∀ k, mI M1 (64 + 2 * s) k = if t = 0 then mI M (64 + 2 * s) k else dr (nI 0) M s k := by
  by_cases z : t = 0
  · exact ⟨M, fun _ => rfl, fun y => absurd z y, Fr.rfl, ⟨rfl, rfl⟩, fun s hs k => by rw [if_pos z]⟩
  · obtain ⟨M1, a1, f1, t1, g1⟩ := drX (nI 0) FU 0 M hF (by decide) (by decide)
    refine ⟨M1, fun y => absurd y z, fun _ => ?_, f1, t1, fun s hs k => by rw [g1 s hs k, if_pos (Nat.zero_le _), if_neg z]⟩
    unfold fX8_dropSignsFrom
    rw [kb20 hF]
    exact a1
theorem op_town (A : Mm) (hA : SB A) (x1 : Int32) : Eqv A (fX8_town 20 x1) (fX9_town 80 x1) := by
  rintro M ⟨q, od, sd, b, q2, od2, sd2, h⟩
  have hF := h.1
  have h0 := hF.1
  have hI := h.2.2.1
  have hq := hI.sg
  have hS := h.2.2.2.1
  have hM := h.2.2.2.2.1
  have hSh := h.2.2.2.2.2.2.2.2.1
  have hB := hA.ro h.2.1
  rcases sh_cases x1 with hb | ⟨s, hs, rfl⟩
  · exact ex_no h 1 (-nI 1) (by simp (disch := first | assumption | omega | (simp only [FIX_sI, FIX_sJ, FIX_gI, FIX_gJ]; assumption)) only [fX8_town, ↓kb20, ↓ib20, ↓pb20, ↓kb22, ↓ib22, ↓pb22, ↓kb25, ↓ib25, ↓pb25, ↓ab26, ↓tb26, ↓ab27, ↓tb27, ↓ab40, ↓tb40, ↓kb41, ↓ib41, ↓pb41, ↓kb61, ↓ib61, ↓pb61, ↓ab62, ↓tb62, ↓ab63, ↓tb63, ↓rb20_0, ↓rb20_1, ↓rb20_2, ↓rb20_3, ↓rb20_5, ↓rb20_7, ↓rb20_8, ↓rb20_9, ↓rb22_6, ↓rb22_8, ↓rb22_10, ↓rb25_0, ↓rb25_1, ↓rb41_0, ↓rb41_1, ↓rb61_0, ↓fb1, ↓fb2, ↓fb3, ↓fb4, ↓fb5, ↓fb6, ↓fb7, ↓kbH, ↓ibH, ↓pbH, ↓rbH, ↓abH, ↓tbH, ↓sbH, ↓sbB, ↓Option.bind_some, ↓Option.elim_some, ↓Option.elim_none, ↓reduceIte, Nat.reduceEqDiff, Nat.reduceAdd, and_self, and_true, true_and, false_and, and_false, fX8_rowTrouble, l0, l1, l2, l3, l4, l5, l6, l7, l8, l9, l10, l11, l12, l13, l14, l15, l16, l17, l18, l19, l20, l21, l22, l23, l24, l25, l26, l27, l28, l29, l30, l31, l32, l33, l34, l35, l36, l37, l38, l39, l40, l41, l42, l43, l44, l45, l46, l48, l50, l57, l59, l60, l63, l70, l71, l80, l97, l99, l100, l101, l103, l104, l105, l108, l110, l111, l114, l115, l116, l117, l119, l160, l200, l255, l1280, l12345, le_nn, lt_nn, eq_nn, cl_nn, ng_le, ng_lt, ng_lt2, ng_le2, ng_eq, mi_eq, mi_ne, mi_ne2, mi_mi, add_nn, mul_nn, sub_nn, refX, refY, not_false_eq_true, not_true_eq_false, Nat.not_lt_zero, Nat.zero_le, Nat.reduceLeDiff, Nat.reduceLT, Nat.reduceMul, Nat.reduceSub, true_or, or_true, or_false, false_or]) (by simp (disch := first | assumption | omega | (simp only [FIX_sI, FIX_sJ, FIX_gI, FIX_gJ]; assumption)) only [fX9_town, ↓kb80, ↓ib80, ↓pb80, ↓ab81, ↓tb81, ↓ab82, ↓tb82, ↓ab83, ↓tb83, ↓ab84, ↓tb84, ↓ab85, ↓tb85, ↓ab86, ↓tb86, ↓ab87, ↓tb87, ↓ab88, ↓tb88, ↓ab89, ↓tb89, ↓ab90, ↓tb90, ↓ab91, ↓tb91, ↓ab92, ↓tb92, ↓ab93, ↓tb93, ↓ab94, ↓tb94, ↓ab95, ↓tb95, ↓ab96, ↓tb96, ↓ab97, ↓tb97, ↓ab98, ↓tb98, ↓ab99, ↓tb99, ↓ab100, ↓tb100, ↓ab101, ↓tb101, ↓ab102, ↓tb102, ↓ab103, ↓tb103, ↓ab104, ↓tb104, ↓ab105, ↓tb105, ↓ab106, ↓tb106, ↓rb80_13, ↓rb80_14, ↓rb80_15, ↓rb80_16, ↓rb80_17, ↓rb80_18, ↓rb80_19, ↓rb80_20, ↓rb80_21, ↓rb80_22, ↓rb80_23, ↓rb80_24, ↓rb80_25, ↓rb80_26, ↓rb80_27, ↓rb80_28, ↓rb80_30, ↓rb80_31, ↓rb80_37, ↓rb80_38, ↓rb80_39, ↓rb80_40, ↓rb80_41, ↓rb80_44, ↓rb80_45, ↓rb80_46, ↓nb1, ↓nb2, ↓nb3, ↓nb4, ↓nb5, ↓nb6, ↓nb7, ↓zbH, ↓zbB, ↓Option.bind_some, ↓Option.elim_some, ↓Option.elim_none, ↓reduceIte, Nat.reduceEqDiff, Nat.reduceAdd, and_self, and_true, true_and, false_and, and_false, ↓bnd1 (wT_bad (M := sI M 40 1 (mI M 40 1 + nI 1)) (by simp only [FIX_sI, FIX_sJ, FIX_gI, FIX_gJ]; exact hF) hb), l0, l1, l2, l3, l4, l5, l6, l7, l8, l9, l10, l11, l12, l13, l14, l15, l16, l17, l18, l19, l20, l21, l22, l23, l24, l25, l26, l27, l28, l29, l30, l31, l32, l33, l34, l35, l36, l37, l38, l39, l40, l41, l42, l43, l44, l45, l46, l48, l50, l57, l59, l60, l63, l70, l71, l80, l97, l99, l100, l101, l103, l104, l105, l108, l110, l111, l114, l115, l116, l117, l119, l160, l200, l255, l1280, l12345, le_nn, lt_nn, eq_nn, cl_nn, ng_le, ng_lt, ng_lt2, ng_le2, ng_eq, mi_eq, mi_ne, mi_ne2, mi_mi, add_nn, mul_nn, sub_nn, refX, refY, not_false_eq_true, not_true_eq_false, Nat.not_lt_zero, Nat.zero_le, Nat.reduceLeDiff, Nat.reduceLT, Nat.reduceMul, Nat.reduceSub, true_or, or_true, or_false, false_or, mT_sI, mW_sI, mK_sI, mI_sI, mJ_sI, mR_sI, mT_sJ, mW_sJ, mK_sJ, mI_sJ, mJ_sJ, mR_sJ, mT_sR, mW_sR, mK_sR, mI_sR, mJ_sR, mR_sR, mT_gI, mW_gI, mK_gI, mI_gI, mJ_gI, mR_gI, mT_gJ, mW_gJ, mK_gJ, mI_gJ, mJ_gJ, mR_gJ, mT_wR, mW_wR, mK_wR, mI_wR, mJ_wR, mR_wR])
  have wT' : ∀ k, (mI M 91 s = nI 0 → fX9_wants 80 (nI s) (sI M 40 k (mI M 40 k + nI 1)) = some (-nI 3, sI M 40 k (mI M 40 k + nI 1))) ∧ (mI M 91 s = nI 1 → fX9_wants 80 (nI s) (sI M 40 k (mI M 40 k + nI 1)) = some (nI 0, sI M 40 k (mI M 40 k + nI 1))) ∧ (mI M 91 s = nI 2 → fX9_wants 80 (nI s) (sI M 40 k (mI M 40 k + nI 1)) = some (-nI 2, sI M 40 k (mI M 40 k + nI 1))) := fun k => by
    have := wT (M := sI M 40 k (mI M 40 k + nI 1)) (by simp only [FIX_sI, FIX_sJ, FIX_gI, FIX_gJ]; exact hF) hs
    rw [mI_sI, if_neg (by omega)] at this
    exact this
  rcases hSh s hs with ⟨m, x, w⟩ | ⟨m, o, n, ho, hn, x, y, n1, n2, w⟩ | ⟨m, g, hg, x, y, w⟩
  · exact ex_no h 3 (-nI 3) (by simp (disch := first | assumption | omega | (simp only [FIX_sI, FIX_sJ, FIX_gI, FIX_gJ]; assumption)) only [fX8_town, ↓kb20, ↓ib20, ↓pb20, ↓kb22, ↓ib22, ↓pb22, ↓kb25, ↓ib25, ↓pb25, ↓ab26, ↓tb26, ↓ab27, ↓tb27, ↓ab40, ↓tb40, ↓kb41, ↓ib41, ↓pb41, ↓kb61, ↓ib61, ↓pb61, ↓ab62, ↓tb62, ↓ab63, ↓tb63, ↓rb20_0, ↓rb20_1, ↓rb20_2, ↓rb20_3, ↓rb20_5, ↓rb20_7, ↓rb20_8, ↓rb20_9, ↓rb22_6, ↓rb22_8, ↓rb22_10, ↓rb25_0, ↓rb25_1, ↓rb41_0, ↓rb41_1, ↓rb61_0, ↓fb1, ↓fb2, ↓fb3, ↓fb4, ↓fb5, ↓fb6, ↓fb7, ↓kbH, ↓ibH, ↓pbH, ↓rbH, ↓abH, ↓tbH, ↓sbH, ↓sbB, ↓Option.bind_some, ↓Option.elim_some, ↓Option.elim_none, ↓reduceIte, Nat.reduceEqDiff, Nat.reduceAdd, and_self, and_true, true_and, false_and, and_false, ↓bnd1 (rT0 hF hs x), l0, l1, l2, l3, l4, l5, l6, l7, l8, l9, l10, l11, l12, l13, l14, l15, l16, l17, l18, l19, l20, l21, l22, l23, l24, l25, l26, l27, l28, l29, l30, l31, l32, l33, l34, l35, l36, l37, l38, l39, l40, l41, l42, l43, l44, l45, l46, l48, l50, l57, l59, l60, l63, l70, l71, l80, l97, l99, l100, l101, l103, l104, l105, l108, l110, l111, l114, l115, l116, l117, l119, l160, l200, l255, l1280, l12345, le_nn, lt_nn, eq_nn, cl_nn, ng_le, ng_lt, ng_lt2, ng_le2, ng_eq, mi_eq, mi_ne, mi_ne2, mi_mi, add_nn, mul_nn, sub_nn, refX, refY, not_false_eq_true, not_true_eq_false, Nat.not_lt_zero, Nat.zero_le, Nat.reduceLeDiff, Nat.reduceLT, Nat.reduceMul, Nat.reduceSub, true_or, or_true, or_false, false_or]) (by simp (disch := first | assumption | omega | (simp only [FIX_sI, FIX_sJ, FIX_gI, FIX_gJ]; assumption)) only [fX9_town, ↓kb80, ↓ib80, ↓pb80, ↓ab81, ↓tb81, ↓ab82, ↓tb82, ↓ab83, ↓tb83, ↓ab84, ↓tb84, ↓ab85, ↓tb85, ↓ab86, ↓tb86, ↓ab87, ↓tb87, ↓ab88, ↓tb88, ↓ab89, ↓tb89, ↓ab90, ↓tb90, ↓ab91, ↓tb91, ↓ab92, ↓tb92, ↓ab93, ↓tb93, ↓ab94, ↓tb94, ↓ab95, ↓tb95, ↓ab96, ↓tb96, ↓ab97, ↓tb97, ↓ab98, ↓tb98, ↓ab99, ↓tb99, ↓ab100, ↓tb100, ↓ab101, ↓tb101, ↓ab102, ↓tb102, ↓ab103, ↓tb103, ↓ab104, ↓tb104, ↓ab105, ↓tb105, ↓ab106, ↓tb106, ↓rb80_13, ↓rb80_14, ↓rb80_15, ↓rb80_16, ↓rb80_17, ↓rb80_18, ↓rb80_19, ↓rb80_20, ↓rb80_21, ↓rb80_22, ↓rb80_23, ↓rb80_24, ↓rb80_25, ↓rb80_26, ↓rb80_27, ↓rb80_28, ↓rb80_30, ↓rb80_31, ↓rb80_37, ↓rb80_38, ↓rb80_39, ↓rb80_40, ↓rb80_41, ↓rb80_44, ↓rb80_45, ↓rb80_46, ↓nb1, ↓nb2, ↓nb3, ↓nb4, ↓nb5, ↓nb6, ↓nb7, ↓zbH, ↓zbB, ↓Option.bind_some, ↓Option.elim_some, ↓Option.elim_none, ↓reduceIte, Nat.reduceEqDiff, Nat.reduceAdd, and_self, and_true, true_and, false_and, and_false, ↓bnd1 ((wT' 3).1 m), l0, l1, l2, l3, l4, l5, l6, l7, l8, l9, l10, l11, l12, l13, l14, l15, l16, l17, l18, l19, l20, l21, l22, l23, l24, l25, l26, l27, l28, l29, l30, l31, l32, l33, l34, l35, l36, l37, l38, l39, l40, l41, l42, l43, l44, l45, l46, l48, l50, l57, l59, l60, l63, l70, l71, l80, l97, l99, l100, l101, l103, l104, l105, l108, l110, l111, l114, l115, l116, l117, l119, l160, l200, l255, l1280, l12345, le_nn, lt_nn, eq_nn, cl_nn, ng_le, ng_lt, ng_lt2, ng_le2, ng_eq, mi_eq, mi_ne, mi_ne2, mi_mi, add_nn, mul_nn, sub_nn, refX, refY, not_false_eq_true, not_true_eq_false, Nat.not_lt_zero, Nat.zero_le, Nat.reduceLeDiff, Nat.reduceLT, Nat.reduceMul, Nat.reduceSub, true_or, or_true, or_false, false_or, mT_sI, mW_sI, mK_sI, mI_sI, mJ_sI, mR_sI, mT_sJ, mW_sJ, mK_sJ, mI_sJ, mJ_sJ, mR_sJ, mT_sR, mW_sR, mK_sR, mI_sR, mJ_sR, mR_sR, mT_gI, mW_gI, mK_gI, mI_gI, mJ_gI, mR_gI, mT_gJ, mW_gJ, mK_gJ, mI_gJ, mJ_gJ, mR_gJ, mT_wR, mW_wR, mK_wR, mI_wR, mJ_wR, mR_wR])
  rotate_left
  · exact ex_no h 2 (-nI 2) (by simp (disch := first | assumption | omega | (simp only [FIX_sI, FIX_sJ, FIX_gI, FIX_gJ]; assumption)) only [fX8_town, ↓kb20, ↓ib20, ↓pb20, ↓kb22, ↓ib22, ↓pb22, ↓kb25, ↓ib25, ↓pb25, ↓ab26, ↓tb26, ↓ab27, ↓tb27, ↓ab40, ↓tb40, ↓kb41, ↓ib41, ↓pb41, ↓kb61, ↓ib61, ↓pb61, ↓ab62, ↓tb62, ↓ab63, ↓tb63, ↓rb20_0, ↓rb20_1, ↓rb20_2, ↓rb20_3, ↓rb20_5, ↓rb20_7, ↓rb20_8, ↓rb20_9, ↓rb22_6, ↓rb22_8, ↓rb22_10, ↓rb25_0, ↓rb25_1, ↓rb41_0, ↓rb41_1, ↓rb61_0, ↓fb1, ↓fb2, ↓fb3, ↓fb4, ↓fb5, ↓fb6, ↓fb7, ↓kbH, ↓ibH, ↓pbH, ↓rbH, ↓abH, ↓tbH, ↓sbH, ↓sbB, ↓Option.bind_some, ↓Option.elim_some, ↓Option.elim_none, ↓reduceIte, Nat.reduceEqDiff, Nat.reduceAdd, and_self, and_true, true_and, false_and, and_false, ↓bnd1 (rT2 hF hs (Nat.lt_of_lt_of_le hg hq.1) x), l0, l1, l2, l3, l4, l5, l6, l7, l8, l9, l10, l11, l12, l13, l14, l15, l16, l17, l18, l19, l20, l21, l22, l23, l24, l25, l26, l27, l28, l29, l30, l31, l32, l33, l34, l35, l36, l37, l38, l39, l40, l41, l42, l43, l44, l45, l46, l48, l50, l57, l59, l60, l63, l70, l71, l80, l97, l99, l100, l101, l103, l104, l105, l108, l110, l111, l114, l115, l116, l117, l119, l160, l200, l255, l1280, l12345, le_nn, lt_nn, eq_nn, cl_nn, ng_le, ng_lt, ng_lt2, ng_le2, ng_eq, mi_eq, mi_ne, mi_ne2, mi_mi, add_nn, mul_nn, sub_nn, refX, refY, not_false_eq_true, not_true_eq_false, Nat.not_lt_zero, Nat.zero_le, Nat.reduceLeDiff, Nat.reduceLT, Nat.reduceMul, Nat.reduceSub, true_or, or_true, or_false, false_or]) (by simp (disch := first | assumption | omega | (simp only [FIX_sI, FIX_sJ, FIX_gI, FIX_gJ]; assumption)) only [fX9_town, ↓kb80, ↓ib80, ↓pb80, ↓ab81, ↓tb81, ↓ab82, ↓tb82, ↓ab83, ↓tb83, ↓ab84, ↓tb84, ↓ab85, ↓tb85, ↓ab86, ↓tb86, ↓ab87, ↓tb87, ↓ab88, ↓tb88, ↓ab89, ↓tb89, ↓ab90, ↓tb90, ↓ab91, ↓tb91, ↓ab92, ↓tb92, ↓ab93, ↓tb93, ↓ab94, ↓tb94, ↓ab95, ↓tb95, ↓ab96, ↓tb96, ↓ab97, ↓tb97, ↓ab98, ↓tb98, ↓ab99, ↓tb99, ↓ab100, ↓tb100, ↓ab101, ↓tb101, ↓ab102, ↓tb102, ↓ab103, ↓tb103, ↓ab104, ↓tb104, ↓ab105, ↓tb105, ↓ab106, ↓tb106, ↓rb80_13, ↓rb80_14, ↓rb80_15, ↓rb80_16, ↓rb80_17, ↓rb80_18, ↓rb80_19, ↓rb80_20, ↓rb80_21, ↓rb80_22, ↓rb80_23, ↓rb80_24, ↓rb80_25, ↓rb80_26, ↓rb80_27, ↓rb80_28, ↓rb80_30, ↓rb80_31, ↓rb80_37, ↓rb80_38, ↓rb80_39, ↓rb80_40, ↓rb80_41, ↓rb80_44, ↓rb80_45, ↓rb80_46, ↓nb1, ↓nb2, ↓nb3, ↓nb4, ↓nb5, ↓nb6, ↓nb7, ↓zbH, ↓zbB, ↓Option.bind_some, ↓Option.elim_some, ↓Option.elim_none, ↓reduceIte, Nat.reduceEqDiff, Nat.reduceAdd, and_self, and_true, true_and, false_and, and_false, ↓bnd1 ((wT' 2).2.2 m), l0, l1, l2, l3, l4, l5, l6, l7, l8, l9, l10, l11, l12, l13, l14, l15, l16, l17, l18, l19, l20, l21, l22, l23, l24, l25, l26, l27, l28, l29, l30, l31, l32, l33, l34, l35, l36, l37, l38, l39, l40, l41, l42, l43, l44, l45, l46, l48, l50, l57, l59, l60, l63, l70, l71, l80, l97, l99, l100, l101, l103, l104, l105, l108, l110, l111, l114, l115, l116, l117, l119, l160, l200, l255, l1280, l12345, le_nn, lt_nn, eq_nn, cl_nn, ng_le, ng_lt, ng_lt2, ng_le2, ng_eq, mi_eq, mi_ne, mi_ne2, mi_mi, add_nn, mul_nn, sub_nn, refX, refY, not_false_eq_true, not_true_eq_false, Nat.not_lt_zero, Nat.zero_le, Nat.reduceLeDiff, Nat.reduceLT, Nat.reduceMul, Nat.reduceSub, true_or, or_true, or_false, false_or, mT_sI, mW_sI, mK_sI, mI_sI, mJ_sI, mR_sI, mT_sJ, mW_sJ, mK_sJ, mI_sJ, mJ_sJ, mR_sJ, mT_sR, mW_sR, mK_sR, mI_sR, mJ_sR, mR_sR, mT_gI, mW_gI, mK_gI, mI_gI, mJ_gI, mR_gI, mT_gJ, mW_gJ, mK_gJ, mI_gJ, mJ_gJ, mR_gJ, mT_wR, mW_wR, mK_wR, mI_wR, mJ_wR, mR_wR])
  have r1 := rT1 hF hs ho x
  have s22 : sl 22 := Or.inl rfl
  have s28 : sl 28 := Or.inr (Or.inl rfl)
  have hw28 := h.2.2.2.2.2.1
  obtain ⟨M1, e1, f1, t1, s1⟩ := lik8 (s := 22) (d := 28) s22 s28 (by decide) hF hS ⟨hI.2.2.2.1, hq.1, hq.2⟩ hw28.2.2
  have hF1 := f1.fix hF
  obtain ⟨R, hR⟩ : ∃ R : Nat → Int32, R = fun y => (mJ M (65 + 2 * s) y).toInt32 := ⟨_, rfl⟩
  obtain ⟨M2, e2, c2, t2⟩ := mkR hF hB hs hn n1 (R := R) (fun y _ => by rw [hR]) hI f1 t1 s1
  have c2r := c2.2.2.1
  have rl : mT M1 = mT M := t1.1
  have E : ∀ (x : Int32) (M3 : Mm), fX2_readItems_b4 (1838 + 161 + 1) (mT M) (nI 0) (nI 0) M2 = some (x, M3) → fX8_town 20 (nI s) M = Option.bind (fI M3 2 (mT M) 3) fun v13_ => Option.bind (pI M3 8 20 6 v13_) fun M14_ => Option.bind (fI M14_ 8 20 6) fun v15_ => if v15_ = ((-1 : Int32)) then (Option.bind (fR M14_ 8 20 2) fun o16_ => Option.bind (fX5_knowNothing o16_ M14_) fun M17_ => Option.bind (fR M17_ 8 20 1) fun o18_ => Option.bind (fR M17_ 8 20 2) fun o19_ => Option.bind (fX5_becomeLike o18_ o19_ M17_) fun M20_ => Option.bind (fI M20_ 2 (mT M) 4) fun v21_ => if v21_ = 0 then some (x, M20_) else Option.bind (fX8_dropSignsFrom 20 ((0 : Int32)) M20_) fun M22_ => some (x, M22_)) else Option.bind (fX8_refused 20 ((-6 : Int32)) M14_) fun q23_ => some (q23_.1, q23_.2) := fun x M3 z => by
    have ri : fX2_readItems (mT M) M2 = some (x, M3) := by
      unfold fX2_readItems
      rw [kbR c2r]
      exact z
    unfold fX8_town
    rw [kb20 hF, sbH hF hs]
    dsimp only [Option.bind_some]
    rw [bnd1 r1]
    dsimp only [Option.elim_some]
    rw [if_pos (show nI 0 = 0 from rfl), rb20_2 hF, rb20_1 hF, bnd1 e1]
    unfold nO
    rw [Option.bind_some, rl]
    dsimp only
    rw [rb20_2 (hF1.sN 3 0 5), bnd1 e2, bnd1 ri]
  have hW := h.2.2.2.2.2.2.2.2.2.2.2.2
  have tb : mT M + 1 + 161 ≤ mT M + 400 := by omega
  rcases lpJ 1838 161 0 0 0 q od M2 c2 (by omega) (Nat.le_refl _) with ⟨c1, p1, tt, q1, od1, M3, a1, a2, a3, a4, a5⟩ | ⟨xx, f, M3, a1, a2, a3, a4⟩
  rotate_left
  -- a fault
  · have E1 := E _ _ a1
    obtain ⟨b1, b2, ⟨b3, b4, b5⟩, ⟨b6, b7⟩, b8⟩ := a2
    have h03 := b1.1
    have g4 : Fr [] [(20, 6)] M3 (sI M3 20 6 (nI f)) := Fr.oI _ _ (Or.inr (by decide))
    have g5 : Fr [] [(40, 6)] (sI M3 20 6 (nI f)) (sI (sI M3 20 6 (nI f)) 40 6 (mI (sI M3 20 6 (nI f)) 40 6 + nI 1)) := Fr.oI _ _ (Or.inr (by decide))
    obtain ⟨M5, hM5⟩ : ∃ M5, M5 = sI (sI M3 20 6 (nI f)) 40 6 (mI (sI M3 20 6 (nI f)) 40 6 + nI 1) := ⟨_, rfl⟩
    rw [← hM5] at g5
    have hF4 := g4.fix b1
    have hF5 := g5.fix hF4
    have g35 : Fr [] [(20, 6), (40, 6)] M3 M5 := (g4.wk mem0 (by decide)).tr (g5.wk mem0 (by decide))
    have gX : Fr D8 [(20, 6), (40, 6)] M M5 := (b5.wk (fun _ z => z) mem0).tr (g35.wk mem0 (fun _ z => z))
    have X : fX8_town 20 (nI s) M = some (-nI 6, M5) := by
      have nf : ¬ nI f = (-1 : Int32) := by
        rw [show (-1 : Int32) = -nI 1 from by decide, mi_ne (by omega) (by decide) (by decide)]
        exact id
      rw [E1, ibR b2, b6, pb20 b1, ib20 hF4, mI_at, if_neg nf, fb6 hF4, ← hM5]
    have hM_5 := hM.fr hF gX (by unfold D8; decide) (by decide)
    have nD : ∀ o, 60 ≤ o → ¬ o ∈ D8 := fun o ho z => by simp only [D8, List.mem_cons, List.not_mem_nil, or_false] at z; omega
    have nE : ∀ o k, o ≠ 20 → o ≠ 40 → ¬ (o, k) ∈ [(20, 6), (40, 6)] := fun o k h1 h2 z => by simp only [List.mem_cons, Prod.mk.injEq, List.not_mem_nil, or_false] at z; omega
    obtain ⟨N2, y1, y2, y3, y4, y5, y6⟩ := yBeg hF5 hs hn (R := R) (by rw [gX.I (by omega) (nD _ (by omega)) (nE _ _ (by omega) (by omega))]; exact m) (by rw [gX.I (by omega) (nD _ (by omega)) (nE _ _ (by omega) (by omega))]; exact n2) (fun y hy => by rw [gX.J (by omega) (nD _ (by omega)), ← w y hy, hR]) (fun k hk => by rw [gX.I (by omega) (nD _ (by omega)) (nE _ _ (by omega) (by omega))]; exact hW k hk) hM_5
    have hFN2 := y2.1.2.1
    obtain ⟨y, N3, z1, z2, z3, z4⟩ := a4 1838 N2 y2
    have hFN3 := z3.fix hFN2
    have mk3 := y4.fr hFN2 z3 (by decide) (by unfold YD; decide) (by unfold YD; decide) (by unfold YE; decide)
    obtain ⟨N4, v1, v2, v3, v4⟩ := b142x hFN3 mk3 z2 y
    have hFN4 := v2.fix hFN3
    have u1 : Fr [] [(80, 12), (81, 6)] N4 (sI (sI N4 80 12 (nI f)) 81 6 (mI N4 81 6 + nI 1)) := (Fr.oI _ _ (Or.inr (by decide))).tr (Fr.oI _ _ (Or.inr (by decide)))
    obtain ⟨N5, hN5⟩ : ∃ N5, N5 = sI (sI N4 80 12 (nI f)) 81 6 (mI N4 81 6 + nI 1) := ⟨_, rfl⟩
    rw [← hN5] at u1 v1
    have Y : fX9_town 80 (nI s) M5 = some (-nI 6, N5) := by
      rw [y1]
      exact z1.trans v1
    have k54 : Fr DC EB M5 N4 := ((y5.wk (by unfold DC; decide) (by unfold EB; decide)).tr (z3.wk (by unfold YD DC; decide) (by unfold YE EB; decide))).tr (v2.wk (by unfold DC; decide) (by unfold e80s EB; decide))
    have k5 : Fr DC EC M5 N5 := (k54.wk (fun _ z => z) (by unfold EB EC; decide)).tr (u1.wk mem0 (by unfold EC; decide))
    have fin : Fr (D8 ++ DC) ([(20, 6), (40, 6)] ++ EC) M N5 := gX.trans k5
    have h05 := hF5.1
    have h0N4 := hFN4.1
    have i20 : mI N5 20 6 = nI f := by rw [k5.I (by omega) (by unfold DC; decide) (by unfold EC; decide), hM5, mI_ne (by decide), mI_at]
    have i80 : mI N5 80 12 = nI f := by rw [hN5, mI_ne (by decide), mI_at]
    have i40 : ∀ k, mI N5 40 k = if k = 6 then mI M 40 6 + nI 1 else mI M 40 k := fun k => by
      have p : mI N5 40 k = mI M5 40 k := by
        rw [u1.I (by omega) (by decide) (by intro z; simp only [List.mem_cons, Prod.mk.injEq, List.not_mem_nil, or_false] at z; omega), k54.I (by omega) (by unfold DC; decide) (by intro z; simp only [EB, List.mem_cons, Prod.mk.injEq, List.not_mem_nil, or_false] at z; omega)]
      have p3 : ∀ k, mI M3 40 k = mI M 40 k := fun k => b5.I (by omega) (by unfold D8; decide) List.not_mem_nil
      rw [p, hM5, mI_sI, mI_ne (by omega), mI_ne (by omega), p3, p3]
      by_cases z : k = 6
      · rw [if_pos ⟨rfl, z⟩, if_pos z]
      · rw [if_neg (fun y => z y.2), if_neg z]
    have i81 : ∀ k, mI N5 81 k = if k = 6 then mI M 81 6 + nI 1 else mI M 81 k := fun k => by
      have p4 : ∀ k, mI N4 81 k = mI M 81 k := fun k => by
        rw [k54.I (by omega) (by unfold DC; decide) (by intro z; simp only [EB, List.mem_cons, Prod.mk.injEq, List.not_mem_nil, or_false] at z; omega), gX.I (by omega) (nD _ (by omega)) (nE _ _ (by omega) (by omega))]
      rw [hN5, mI_sI, mI_ne (by omega), p4, p4]
      by_cases z : k = 6
      · rw [if_pos ⟨rfl, z⟩, if_pos z]
      · rw [if_neg (fun y => z y.2), if_neg z]
    have hRf := h.2.2.2.2.2.2.2.2.2.1
    refine ex_upd (r := -nI 6) (M1 := M5) (M2 := N5) X Y (h.upd3 fin (by unfold D8 DC scr; decide) (by unfold EC scf; decide) hI (hS.fr hF fin (by decide) (by unfold D8 DC; decide) (by unfold EC; decide)) (v4.fr hFN4 u1 mem0 (by decide)) ?_ (fun s2 hs2 => (hSh s2 hs2).fr hF fin hs2 (by unfold D8 DC; decide) (by unfold EC; decide)) (fun k hk1 hk2 => ?_) (by rw [i20, i80])) ⟨?_, ?_⟩
    · exact b8.fr b1 (g35.trans k5) (by decide) (by unfold DC; decide) (by unfold DC; decide) (by unfold DC; decide)
    · rw [i40, i81, hRf k hk1 hk2, hRf 6 (by decide) (by decide)]
    · rw [hN5, mT_sI, mT_sI, v3.1, z4.1, y6.1, hM5, mT_sI, mT_sI]
      omega
    · rw [hN5, mW_sI, mW_sI, v3.2, z4.2, y6.2, hM5, mW_sI, mW_sI]
      omega
  -- kept
  have E1 := E _ _ a1
  obtain ⟨b1, b2, b3, ⟨b4, b5, b6⟩, ⟨b7, b8, b9⟩, b10, b11, b12⟩ := a2
  have h03 := b1.1
  have hq1 := b11.sg
  have hL1 := b11.1
  obtain ⟨M4, hM4⟩ : ∃ M4, M4 = sI M3 20 6 (-nI 1) := ⟨_, rfl⟩
  have g4 : Fr [] [(20, 6)] M3 M4 := by rw [hM4]; exact Fr.oI _ _ (Or.inr (by decide))
  have hF4 := g4.fix b1
  have h04 := hF4.1
  have s4 := b10.fr b1 g4 (by decide) mem0 (by decide)
  obtain ⟨M5, hM5⟩ : ∃ M5, M5 = sI (sI (gJ M4 (28 + 4) 0 24 (fun c => lN (evn (q1 56) c))) 28 12 (nI 0)) 28 11 (nI 0) := ⟨_, rfl⟩
  have e5 := knX0 s28 hL1.2 hF4 s4.f56
  rw [← hM5] at e5
  have g5a : Fr [32] [] M4 (gJ M4 (28 + 4) 0 24 (fun c => lN (evn (q1 56) c))) := Fr.gJ _ _ _ (by decide)
  have g5b : Fr [] [(28, 12), (28, 11)] (gJ M4 (28 + 4) 0 24 (fun c => lN (evn (q1 56) c))) M5 := by rw [hM5]; exact (Fr.oI _ _ (Or.inr (by decide))).tr (Fr.oI _ _ (Or.inr (by decide)))
  have g5 := g5a.trans g5b
  have hF5 := g5.fix hF4
  have h05 := hF5.1
  have s5 : St 28 (z45 q1) (evn (q1 56)) sd M5 := by
    have h5 := St.od (od1 := evn (q1 56)) hF4 g5a s4 (by decide) (by decide) (fun c hc => by rw [mJ_gJ, if_pos ⟨rfl, Nat.zero_le _, hc⟩])
    have h6 := (h5.put (by decide) hq1 (12, 64) (by decide) (by decide) 0).put (by decide) (by simp only [u1, Nat.reduceEqDiff, ↓reduceIte]; exact hq1) (11, 65) (by decide) (by decide) 0
    rw [hM5]
    exact h6
  have z1 : z45 q1 62 = q1 62 := rfl
  have fA5 : Fr DA [(20, 6)] M M5 := ((b6.wk (by unfold D8 DA; decide) mem0).tr (g4.wk mem0 (fun _ z => z))).tr (g5.mv (by unfold DA; decide) (by unfold DA; decide))
  have w22 : Sw 22 M5 := hS.2.2.2.2.2.2.fr hF (b6.trans (g4.trans g5)) (by decide) (by unfold D8; decide) (by unfold D8; decide) (by unfold D8; decide)
  obtain ⟨M6, e6, f6, t6, s6⟩ := lik8 (s := 28) (d := 22) s28 s22 (by decide) hF5 s5 ⟨b11.2.2.2.1, hq1.1, hq1.2⟩ w22.2.2
  have hF6 := f6.fix hF5
  have h06 := hF6.1
  have fA : Fr DA [(20, 6)] M M6 := fA5.tr (f6.wk (by unfold DA; decide) mem0)
  obtain ⟨M7, d1, d2, f7, t7, d3⟩ := drT hF6 tt
  have hF7 := f7.fix hF6
  have h07 := hF7.1
  have nr : ∀ l : List Nat, (∀ o ∈ l, o < 107) → ¬ mT M ∈ l := fun l hl z => by have := hl _ z; omega
  have r6 : mI M6 (mT M) 4 = nI tt := by
    rw [f6.I (by have := g4.1.1; have := g5.1.1; omega) (nr _ (by decide)) List.not_mem_nil, g5.I (by have := g4.1.1; omega) (nr _ (by decide)) (by
      intro z
      simp only [List.nil_append, List.mem_cons, Prod.mk.injEq, List.not_mem_nil, or_false] at z
      omega), g4.I b5 List.not_mem_nil (by
      intro z
      simp only [List.mem_cons, Prod.mk.injEq, List.not_mem_nil, or_false] at z
      omega)]
    exact b9.1
  have k6 : mK M6 (mT M) = (3, 0) := by
    rw [f6.2.1 _ (by have := g4.1.1; have := g5.1.1; omega), g5.2.1 _ (by have := g4.1.1; omega), g4.2.1 _ b5]
    exact b3.2.1.1
  have tlt : tt < 2147483648 := by have := b9.2; omega
  have X : fX8_town 20 (nI s) M = some (nI c1, M7) := by
    have nO1 : -nI 1 = (-1 : Int32) := by decide
    rw [E1, ibR b3, b8, pb20 b1, ← hM4, ib20 hF4, show mI M4 20 6 = -nI 1 by rw [hM4]; exact mI_at _ _ _ _, if_pos nO1, rb20_2 hF4, bnd1 e5, rb20_1 hF5, rb20_2 hF5, bnd1 e6, bnd1 (show fI M6 2 (mT M) 4 = some (nI tt) by unfold fI; rw [k6, r6]; rfl)]
    by_cases z : tt = 0
    · rw [if_pos (show nI tt = 0 by rw [z]; rfl), d1 z]
    · rw [if_neg (by rw [l0, eq_nn tlt (by decide)]; exact z), show (0 : Int32) = nI 0 from rfl, bnd1 (d2 z)]
  have f67 : Fr DB [] M6 M7 := f7.wk (by unfold HS DB; decide) mem0
  have gX : Fr (DA ++ HS) ([(20, 6)] ++ []) M M7 := fA.trans f7
  have hM7 := hM.fr hF gX (by unfold DA HS; decide) (by decide)
  have nD : ∀ o, 91 ≤ o → ¬ o ∈ DA ++ HS := fun o ho z => by
    rw [List.mem_append] at z
    simp only [DA, HS, List.mem_cons, List.not_mem_nil, or_false] at z
    omega
  have nE : ∀ o k, o ≠ 20 → ¬ (o, k) ∈ [(20, 6)] ++ ([] : List (Nat × Nat)) := fun o k h1 z => by simp only [List.append_nil, List.mem_cons, Prod.mk.injEq, List.not_mem_nil, or_false] at z; omega
  obtain ⟨N2, y1, y2, y3, y4, y5, y6⟩ := yBeg hF7 hs hn (R := R) (by rw [gX.I (by omega) (nD _ (by omega)) (nE _ _ (by omega))]; exact m) (by rw [gX.I (by omega) (nD _ (by omega)) (nE _ _ (by omega))]; exact n2) (fun y hy => by rw [gX.J (by omega) (nD _ (by omega)), ← w y hy, hR]) (fun k hk => by rw [gX.I (by omega) (nD _ (by omega)) (nE _ _ (by omega))]; exact hW k hk) hM7
  have hFN2 := y2.1.2.1
  have h0N2 := hFN2.1
  obtain ⟨N3, z2, z3, z4, z5⟩ := a5 1838 N2 y2
  have hFN3 := z4.fix hFN2
  have h0N3 := hFN3.1
  have m3 := z3.2.2.2
  obtain ⟨N4, v1, v2, v3, v4⟩ := b142o hFN3 hL1.2 m3.f56 z3.2.2.1 tlt (nI c1)
  have hFN4 := v2.fix hFN3
  have h0N4 := hFN4.1
  obtain ⟨N5, hN5⟩ : ∃ N5, N5 = sI (sI (gJ N4 89 0 24 (fun c => lN (evn (q1 56) c))) 80 8 (nI 0)) 80 9 (nI 0) := ⟨_, rfl⟩
  rw [← hN5] at v1
  have u1a : Fr [89] [] N4 (gJ N4 89 0 24 (fun c => lN (evn (q1 56) c))) := Fr.gJ _ _ _ (by decide)
  have u1b : Fr [] [(80, 8), (80, 9)] (gJ N4 89 0 24 (fun c => lN (evn (q1 56) c))) N5 := by rw [hN5]; exact (Fr.oI _ _ (Or.inr (by decide))).tr (Fr.oI _ _ (Or.inr (by decide)))
  have u1 := u1a.trans u1b
  have Y : fX9_town 80 (nI s) M7 = some (nI c1, N5) := by
    rw [y1]
    exact z2.trans v1
  have m5 : MD (z45 q1) (evn (q1 56)) sd N5 := by
    have h5 := MD.od (od1 := evn (q1 56)) hFN4 u1a (m3.fr hFN3 v2 (by decide) mem0) (by decide) (fun c hc => by rw [mJ_gJ, if_pos ⟨rfl, Nat.zero_le _, hc⟩])
    have h6 := (h5.put (show 8 < 10 by decide) 0).put (show 9 < 10 by decide) 0
    rw [hN5]
    exact h6
  have k25 : Fr DB EB N2 N5 := ((z4.wk (by unfold YD DB; decide) (by unfold YE EB; decide)).tr (v2.wk (by unfold DB; decide) mem0)).tr (u1.wk (by unfold DB; decide) (by unfold EB; decide))
  have k75 : Fr DB EB M7 N5 := (y5.wk (by unfold DB; decide) (by unfold EB; decide)).tr k25
  have k65 : Fr DB EB M6 N5 := (f67.wk (fun _ z => z) mem0).tr k75
  have fin := fA.trans k65
  have s9 := s6.fr hF6 k65 (by decide) (by unfold DB; decide) (by unfold EB; decide)
  have w28 : Sw 28 N5 := s5.2.2.2.2.2.2.fr hF5 (f6.trans k65) (by decide) (by unfold DB; decide) (by unfold DB; decide) (by unfold DB; decide)
  have i20 : mI N5 20 6 = -nI 1 := by
    rw [k65.I (by omega) (by unfold DB; decide) (by unfold EB; decide), f6.I (by omega) (by decide) List.not_mem_nil, g5.I (by omega) (by decide) (by decide), hM4]
    exact mI_at _ _ _ _
  have i80 : mI N5 80 12 = -nI 1 := by
    rw [u1.I (by omega) (by decide) (by decide), v2.I (by omega) (by decide) List.not_mem_nil, z4.I (by omega) (by unfold YD; decide) (by unfold YE; decide)]
    exact y3
  have hRf := h.2.2.2.2.2.2.2.2.2.1
  have nDB : ∀ o, (o = 40 ∨ o = 81) ∨ (92 ≤ o ∧ o ≤ 95) → ¬ o ∈ DA ++ DB := fun o ho z => by
    rw [List.mem_append] at z
    simp only [DA, DB, List.mem_cons, List.not_mem_nil, or_false] at z
    omega
  have nEB : ∀ o k, o ≠ 20 → o ≠ 80 → ¬ (o, k) ∈ [(20, 6)] ++ EB := fun o k h1 h2 z => by
    rw [List.mem_append] at z
    simp only [EB, List.mem_cons, Prod.mk.injEq, List.not_mem_nil, or_false] at z
    omega
  have nEB2 : ∀ o k, o ≠ 80 → ¬ (o, k) ∈ EB := fun o k h1 z => by
    simp only [EB, List.mem_cons, Prod.mk.injEq, List.not_mem_nil, or_false] at z
    omega
  refine ex_upd (r := nI c1) (M1 := M7) (M2 := N5) X Y (h.upd3 fin (by unfold DA DB scr; decide) (by unfold EB scf; decide) (b11.kn (fun c hc => if_neg (by omega)) (sm_evn _ _)) s9 m5 w28 (fun s2 hs2 => ?_) (fun k hk1 hk2 => ?_) (by rw [i20, i80])) ⟨?_, ?_⟩
  · have n65 : ∀ s, s < 8 → ¬ 64 + 2 * s ∈ DA ∧ ¬ 65 + 2 * s ∈ DA ++ DB := by unfold DA DB; decide
    obtain ⟨p1, p2⟩ := n65 s2 hs2
    have n64 : ∀ s, s < 8 → ¬ 64 + 2 * s ∈ [99, 101] ∧ ¬ 64 + 2 * s ∈ YD ∧ ¬ 64 + 2 * s ∈ [91] ∧ ¬ 64 + 2 * s ∈ [89] ++ ([] : List Nat) := by unfold YD; decide
    obtain ⟨o1, o2, o3, o4⟩ := n64 s2 hs2
    have c75 : ∀ k, mI N5 (64 + 2 * s2) k = mI M7 (64 + 2 * s2) k := fun k => by
      rw [u1.I (by omega) o4 (by
        intro z
        simp only [List.nil_append, List.mem_cons, Prod.mk.injEq, List.not_mem_nil, or_false] at z
        omega), v2.I (by omega) o3 List.not_mem_nil, z4.I (by omega) o2 (by
        intro z
        simp only [YE, List.mem_cons, Prod.mk.injEq, List.not_mem_nil, or_false] at z
        omega), y5.I (by omega) o1 (by
        intro z
        simp only [List.mem_cons, Prod.mk.injEq, List.not_mem_nil, or_false] at z
        omega)]
    have c6 : ∀ k, mI M6 (64 + 2 * s2) k = mI M (64 + 2 * s2) k := fun k => fA.I (by omega) p1 (by
      intro z
      simp only [List.mem_cons, Prod.mk.injEq, List.not_mem_nil, or_false] at z
      omega)
    have r94 : ∀ o, 92 ≤ o → o ≤ 94 → mI N5 o s2 = mI M o s2 := fun o h1 h2 => fin.I (by omega) (nDB o (by omega)) (nEB o _ (by omega) (by omega))
    have r91 : mI N5 91 s2 = if tt = 0 then mI M 91 s2 else if mI M 91 s2 = nI 2 then nI 0 else mI M 91 s2 := by
      have q3 : mI N3 91 s2 = mI M 91 s2 := by
        rw [z4.I (by omega) (by unfold YD; decide) (by
          intro z
          simp only [YE, List.mem_cons, Prod.mk.injEq, List.not_mem_nil, or_false] at z
          omega), y5.I (by omega) (by decide) (by
          intro z
          simp only [List.mem_cons, Prod.mk.injEq, List.not_mem_nil, or_false] at z
          omega), gX.I (by omega) (nD _ (by omega)) (nE _ _ (by omega))]
      rw [u1.I (by omega) (by decide) (by
        intro z
        simp only [List.nil_append, List.mem_cons, Prod.mk.injEq, List.not_mem_nil, or_false] at z
        omega), v4 s2 hs2, q3]
    have jj : ∀ i, mJ N5 (65 + 2 * s2) i = mJ M (65 + 2 * s2) i := fun i => fin.J (by omega) p2 i
    have jk : ∀ i, mJ N5 95 i = mJ M 95 i := fun i => fin.J (by omega) (nDB 95 (by omega)) i
    by_cases zt : tt = 0
    · refine ((hSh s2 hs2).same (M1 := N5) (fun k => by rw [c75, d3 s2 hs2, if_pos zt, c6]) (fun o h1 h2 => ?_) jj jk).mono (a3 zt).2
      by_cases z91 : o = 91
      · rw [z91, r91, if_pos zt]
      · exact r94 o (by omega) h2
    · refine (hSh s2 hs2).drop (n := 0) hs2 hq.1 (by decide) (Nat.zero_le _) (fun k => ?_) ?_ (r94 92 (by omega) (by omega)) (r94 93 (by omega) (by omega)) (r94 94 (by omega) (by omega)) jj jk
      · rw [c75, d3 s2 hs2, if_neg zt]
        unfold dr
        rw [c6, c6]
      · rw [r91, if_neg zt]
        rcases hSh s2 hs2 with ⟨m, -⟩ | ⟨m, -⟩ | ⟨m, g, hg, x, y, -⟩
        · rw [m, if_neg (by decide), if_neg (fun z => absurd z.1 (by decide))]
        · rw [m, if_neg (by decide), if_neg (fun z => absurd z.1 (by decide))]
        · rw [m, if_pos rfl, y, if_pos ⟨rfl, by rw [lt_nn (by omega) (by decide)]; omega⟩]
  · have i40 : ∀ o, o = 40 ∨ o = 81 → mI N5 o k = mI M o k := fun o ho => fin.I (by omega) (nDB o (Or.inl ho)) (nEB o _ (by omega) (by omega))
    rw [i40 40 (by omega), i40 81 (by omega), hRf k hk1 hk2]
  · have := a4.1
    have e4 : mT M5 = mT M3 := by rw [hM5, mT_sI, mT_sI, mT_gJ, hM4, mT_sI]
    rw [hN5, mT_sI, mT_sI, mT_gJ, v3.1, z5.1, y6.1, t7.1, t6.1, e4]
    omega
  · have := a4.2
    have e4 : mW M5 = mW M3 := by rw [hM5, mW_sI, mW_sI, mW_gJ, hM4, mW_sI]
    rw [hN5, mW_sI, mW_sI, mW_gJ, v3.2, z5.2, y6.2, t7.2, t6.2, e4]
    omega
