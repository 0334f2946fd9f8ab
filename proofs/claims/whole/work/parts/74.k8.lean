/-! goes -/
def nx (x : Int32) : Int32 := x * 1103515245 + 12345
def dwb (x : Int32) : Int32 := (x.toUInt32 >>> ((16 : Int32).toUInt32 &&& Int32.toUInt32 31)).toInt32
def dw (x : Int32) : Int32 := dwb x - dwb x / 10 * 10
theorem sdb8 (x : Int32) (M : Mm) : fX8_seedBehind x M = some (nx x, M) := rfl
theorem dro8 (x : Int32) (M : Mm) : fX8_drawOf x M = some (dw x, M) := by
  have : mdI (dwb x) 10 = some (dw x) := by unfold mdI; rw [if_neg (by decide)]; rfl
  show Option.bind (mdI (dwb x) 10) (fun z1_ => some (z1_, M)) = _
  rw [this]
  rfl
theorem dra9 {M : Mm} (hF : FIX M) : fX9_draw 80 10 M = some (dw (nx (mI M 80 11)), sI M 80 11 (nx (mI M 80 11))) := by
  have hF2 : FIX (sI M 80 11 (nx (mI M 80 11))) := by rw [FIX_sI]; exact hF
  have : mdI (dwb (nx (mI M 80 11))) 10 = some (dw (nx (mI M 80 11))) := by unfold mdI; rw [if_neg (by decide)]; rfl
  unfold fX9_draw
  rw [kb80 hF, ib80 hF]
  show Option.bind (pI M 9 80 11 (nx (mI M 80 11))) _ = _
  rw [pb80 hF, ib80 hF2, mI_sI, if_pos ⟨rfl, rfl⟩]
  show Option.bind (mdI (dwb (nx (mI M 80 11))) 10) _ = _
  rw [bnd1 this]
/-- where a step in truth of d cells ends -/
def gtr (q : Nat → Nat) (bk : Bool) (d : Nat) : Nat := if bk then q 66 - 1 - d else gof (q 56) (q 66 - 1) d
theorem gof_le {L c d : Nat} (h : 1 ≤ L) : gof L c d < L := by unfold gof; split <;> omega
theorem gtr_lt {q od : Nat → Nat} (hI : Inv q od) (h1 : 1 ≤ q 66) (bk : Bool) (d : Nat) : gtr q bk d < q 56 := by
  have := hI.1
  have := hI.2.2.2.2.2.2.2.2.2.1
  unfold gtr
  split
  · omega
  · exact gof_le (by omega)
def dI2 (bk : Bool) (d : Nat) : Int32 := if bk then -nI d else nI d
theorem tru1 {n : Nat} (h : 1 ≤ n) : nI n - nI 1 = nI (n - 1) := sub_nn h
theorem goe8 {M : Mm} (hF : FIX M) {q od : Nat → Nat} {sd : Int32} (h : St 22 q od sd M) (hI : Inv q od) (hT : 1 ≤ q 66) {d : Nat} (hd : d ≤ 2) (bk : Bool) :
    ∃ M1, fX8_goes_b104 20 (bI bk) (nI d) M = some (nI d, M1) ∧ Fr [26, 27] [(22, 13), (22, 11), (22, 12)] M M1 ∧ (mT M1 = mT M ∧ mW M1 = mW M) ∧ St 22 (stq (u1 q 66 (gtr q bk d + 1))) (sto q bk od) sd M1 := by
  have hL := hI.1
  have hq := hI.sg
  have h66 := hI.2.2.2.2.2.2.2.2.2.1
  have hlt := gtr_lt hI hT bk d
  have hp := h.putT (by decide) hq (gtr q bk d + 1)
  rw [tru1 (Nat.le_add_left 1 _), Nat.add_sub_cancel] at hp
  have hF1 : FIX (sI M 22 13 (nI (gtr q bk d))) := by rw [FIX_sI]; exact hF
  have hI1 : Inv (u1 q 66 (gtr q bk d + 1)) od := hI.p1 66 _ (Or.inr (Or.inr (Or.inr ⟨rfl, by omega⟩)))
  obtain ⟨M1, e1, f1, t1, s1⟩ := hear8 (Or.inl rfl) hF1 hp hI1 bk
  have f0 : Fr [26, 27] [(22, 13), (22, 11), (22, 12)] M (sI M 22 13 (nI (gtr q bk d))) := Fr.oI _ _ (Or.inr (by decide))
  have er : fX5_reach 22 (nI (q 66 - 1)) (dI2 bk d) M = some (nI (gtr q bk d), M) := by
    unfold dI2 gtr
    cases bk
    · simp only [Bool.false_eq_true, ↓reduceIte]
      exact rea8 (Or.inl rfl) hF h.f56 hL (by omega) hd
    · simp only [↓reduceIte]
      exact reb8 (Or.inl rfl) hF h.f56 hL (by omega) hd
  have eb : fX8_goes_b130 20 (bI bk) (nI d) 22 22 (nI (q 66 - 1)) (dI2 bk d) M = some (nI d, M1) := by
    unfold fX8_goes_b130
    rw [bnd1 er]
    dsimp only
    rw [pb22 hF, rb20_1 hF1, bnd1 e1]
  refine ⟨M1, ?_, f0.tr (f1.wk (by decide) (by decide)), ⟨t1.1, t1.2⟩, s1⟩
  unfold fX8_goes_b104
  rw [rb20_1 hF, rb20_1 hF, rb20_1 hF, ib22 hF, h.2.1, tru1 hT]
  cases bk
  · rw [if_pos (show bI false = 0 from rfl)]
    exact eb
  · rw [if_neg (by decide)]
    exact eb
theorem goe9 {M : Mm} (hF : FIX M) {q od : Nat → Nat} {sd : Int32} (h : MD q od sd M) (hI : Inv q od) (hT : 1 ≤ q 66) {d : Nat} (hd : d ≤ 2) (bk : Bool) :
    ∃ M1, fX9_goes_b68 80 (bI bk) (nI d) M = some (nI d, M1) ∧ Fr [89, 90] [(80, 10), (80, 8), (80, 9)] M M1 ∧ (mT M1 = mT M ∧ mW M1 = mW M) ∧ MD (stq (u1 q 66 (gtr q bk d + 1))) (sto q bk od) sd M1 := by
  have hL := hI.1
  have h66 := hI.2.2.2.2.2.2.2.2.2.1
  have hlt := gtr_lt hI hT bk d
  have hp := h.putT (gtr q bk d + 1)
  rw [tru1 (Nat.le_add_left 1 _), Nat.add_sub_cancel] at hp
  have hF1 : FIX (sI M 80 10 (nI (gtr q bk d))) := by rw [FIX_sI]; exact hF
  have hI1 : Inv (u1 q 66 (gtr q bk d + 1)) od := hI.p1 66 _ (Or.inr (Or.inr (Or.inr ⟨rfl, by omega⟩)))
  obtain ⟨M1, e1, f1, t1, s1⟩ := hear9 hF1 hp hI1 bk
  have f0 : Fr [89, 90] [(80, 10), (80, 8), (80, 9)] M (sI M 80 10 (nI (gtr q bk d))) := Fr.oI _ _ (Or.inr (by decide))
  have er : fX9_goneTo 80 (nI (q 66 - 1)) (nI d) (bI bk) M = some (nI (gtr q bk d), M) := gnY hF bk h.f56 hL (by omega) hd
  refine ⟨M1, ?_, f0.tr (f1.wk (by decide) (by decide)), ⟨t1.1, t1.2⟩, s1⟩
  unfold fX9_goes_b68
  rw [ib80 hF, h.2.1, tru1 hT, bnd1 er]
  dsimp only
  rw [pb80 hF, bnd1 e1]
def dof (st tw : Nat) (z : Int32) : Nat := if nI st ≤ z then (if nI (st + tw) ≤ z then 1 else 2) else 0
theorem op_goes (A : Mm) (bk : Bool) : Eqv A (fX8_goes 20 (bI bk)) (fX9_goes 80 (bI bk)) := by
  rintro M ⟨q, od, sd, b, q2, od2, sd2, h⟩
  have hF := h.1
  have hI := h.2.2.1
  have hq := hI.sg
  have hS := h.2.2.2.1
  have hM := h.2.2.2.2.1
  have hL := hI.1
  have h5 := hI.2.1
  have h16 : q 64 ≤ 16 := hI.2.2.2.2.2.2.2.1
  have h66 : q 66 < 100 := by have := hI.1.2; have := hI.2.2.2.2.2.2.2.2.2.1; omega
  by_cases c : q 66 = 0
  · exact ex_no h 6 (-nI 6) (by simp (disch := first | assumption | omega | (simp only [FIX_sI, FIX_sJ, FIX_gI, FIX_gJ]; assumption)) only [fX8_goes, ↓kb20, ↓ib20, ↓pb20, ↓kb22, ↓ib22, ↓pb22, ↓kb25, ↓ib25, ↓pb25, ↓ab26, ↓tb26, ↓ab27, ↓tb27, ↓ab40, ↓tb40, ↓kb41, ↓ib41, ↓pb41, ↓kb61, ↓ib61, ↓pb61, ↓ab62, ↓tb62, ↓ab63, ↓tb63, ↓rb20_0, ↓rb20_1, ↓rb20_2, ↓rb20_3, ↓rb20_5, ↓rb20_7, ↓rb20_8, ↓rb20_9, ↓rb22_6, ↓rb22_8, ↓rb22_10, ↓rb25_0, ↓rb25_1, ↓rb41_0, ↓rb41_1, ↓rb61_0, ↓fb1, ↓fb2, ↓fb3, ↓fb4, ↓fb5, ↓fb6, ↓fb7, ↓kbH, ↓ibH, ↓pbH, ↓rbH, ↓abH, ↓tbH, ↓sbH, ↓sbB, ↓Option.bind_some, ↓Option.elim_some, ↓Option.elim_none, ↓reduceIte, Nat.reduceEqDiff, Nat.reduceAdd, and_self, and_true, true_and, false_and, and_false, l0, l1, l2, l3, l4, l5, l6, l7, l8, l9, l10, l11, l12, l13, l14, l15, l16, l17, l18, l19, l20, l21, l22, l23, l24, l25, l26, l27, l28, l29, l30, l31, l32, l33, l34, l35, l36, l37, l38, l39, l40, l41, l42, l43, l44, l45, l46, l48, l50, l57, l59, l60, l63, l70, l71, l80, l97, l99, l100, l101, l103, l104, l105, l108, l110, l111, l114, l115, l116, l117, l119, l160, l200, l255, l1280, l12345, le_nn, lt_nn, eq_nn, cl_nn, ng_le, ng_lt, ng_lt2, ng_le2, ng_eq, mi_eq, mi_ne, mi_ne2, mi_mi, add_nn, mul_nn, sub_nn, refX, refY, not_false_eq_true, not_true_eq_false, Nat.not_lt_zero, Nat.zero_le, Nat.reduceLeDiff, Nat.reduceLT, Nat.reduceMul, Nat.reduceSub, true_or, or_true, or_false, false_or, h.x66, tr_eq, c]) (by simp (disch := first | assumption | omega | (simp only [FIX_sI, FIX_sJ, FIX_gI, FIX_gJ]; assumption)) only [fX9_goes, ↓kb80, ↓ib80, ↓pb80, ↓ab81, ↓tb81, ↓ab82, ↓tb82, ↓ab83, ↓tb83, ↓ab84, ↓tb84, ↓ab85, ↓tb85, ↓ab86, ↓tb86, ↓ab87, ↓tb87, ↓ab88, ↓tb88, ↓ab89, ↓tb89, ↓ab90, ↓tb90, ↓ab91, ↓tb91, ↓ab92, ↓tb92, ↓ab93, ↓tb93, ↓ab94, ↓tb94, ↓ab95, ↓tb95, ↓ab96, ↓tb96, ↓ab97, ↓tb97, ↓ab98, ↓tb98, ↓ab99, ↓tb99, ↓ab100, ↓tb100, ↓ab101, ↓tb101, ↓ab102, ↓tb102, ↓ab103, ↓tb103, ↓ab104, ↓tb104, ↓ab105, ↓tb105, ↓ab106, ↓tb106, ↓rb80_13, ↓rb80_14, ↓rb80_15, ↓rb80_16, ↓rb80_17, ↓rb80_18, ↓rb80_19, ↓rb80_20, ↓rb80_21, ↓rb80_22, ↓rb80_23, ↓rb80_24, ↓rb80_25, ↓rb80_26, ↓rb80_27, ↓rb80_28, ↓rb80_30, ↓rb80_31, ↓rb80_37, ↓rb80_38, ↓rb80_39, ↓rb80_40, ↓rb80_41, ↓rb80_44, ↓rb80_45, ↓rb80_46, ↓nb1, ↓nb2, ↓nb3, ↓nb4, ↓nb5, ↓nb6, ↓nb7, ↓zbH, ↓zbB, ↓Option.bind_some, ↓Option.elim_some, ↓Option.elim_none, ↓reduceIte, Nat.reduceEqDiff, Nat.reduceAdd, and_self, and_true, true_and, false_and, and_false, mT_sI, mW_sI, mK_sI, mI_sI, mJ_sI, mR_sI, mT_sJ, mW_sJ, mK_sJ, mI_sJ, mJ_sJ, mR_sJ, mT_sR, mW_sR, mK_sR, mI_sR, mJ_sR, mR_sR, mT_gI, mW_gI, mK_gI, mI_gI, mJ_gI, mR_gI, mT_gJ, mW_gJ, mK_gJ, mI_gJ, mJ_gJ, mR_gJ, mT_wR, mW_wR, mK_wR, mI_wR, mJ_wR, mR_wR, l0, l1, l2, l3, l4, l5, l6, l7, l8, l9, l10, l11, l12, l13, l14, l15, l16, l17, l18, l19, l20, l21, l22, l23, l24, l25, l26, l27, l28, l29, l30, l31, l32, l33, l34, l35, l36, l37, l38, l39, l40, l41, l42, l43, l44, l45, l46, l48, l50, l57, l59, l60, l63, l70, l71, l80, l97, l99, l100, l101, l103, l104, l105, l108, l110, l111, l114, l115, l116, l117, l119, l160, l200, l255, l1280, l12345, le_nn, lt_nn, eq_nn, cl_nn, ng_le, ng_lt, ng_lt2, ng_le2, ng_eq, mi_eq, mi_ne, mi_ne2, mi_mi, add_nn, mul_nn, sub_nn, refX, refY, not_false_eq_true, not_true_eq_false, Nat.not_lt_zero, Nat.zero_le, Nat.reduceLeDiff, Nat.reduceLT, Nat.reduceMul, Nat.reduceSub, true_or, or_true, or_false, false_or, h.y66, tr_eq, c])
  by_cases c7 : 16 ≤ q 64
  · have c2 : q 64 = 16 := by omega
    exact ex_no h 7 (-nI 7) (by simp (disch := first | assumption | omega | (simp only [FIX_sI, FIX_sJ, FIX_gI, FIX_gJ]; assumption)) only [fX8_goes, ↓kb20, ↓ib20, ↓pb20, ↓kb22, ↓ib22, ↓pb22, ↓kb25, ↓ib25, ↓pb25, ↓ab26, ↓tb26, ↓ab27, ↓tb27, ↓ab40, ↓tb40, ↓kb41, ↓ib41, ↓pb41, ↓kb61, ↓ib61, ↓pb61, ↓ab62, ↓tb62, ↓ab63, ↓tb63, ↓rb20_0, ↓rb20_1, ↓rb20_2, ↓rb20_3, ↓rb20_5, ↓rb20_7, ↓rb20_8, ↓rb20_9, ↓rb22_6, ↓rb22_8, ↓rb22_10, ↓rb25_0, ↓rb25_1, ↓rb41_0, ↓rb41_1, ↓rb61_0, ↓fb1, ↓fb2, ↓fb3, ↓fb4, ↓fb5, ↓fb6, ↓fb7, ↓kbH, ↓ibH, ↓pbH, ↓rbH, ↓abH, ↓tbH, ↓sbH, ↓sbB, ↓Option.bind_some, ↓Option.elim_some, ↓Option.elim_none, ↓reduceIte, Nat.reduceEqDiff, Nat.reduceAdd, and_self, and_true, true_and, false_and, and_false, l0, l1, l2, l3, l4, l5, l6, l7, l8, l9, l10, l11, l12, l13, l14, l15, l16, l17, l18, l19, l20, l21, l22, l23, l24, l25, l26, l27, l28, l29, l30, l31, l32, l33, l34, l35, l36, l37, l38, l39, l40, l41, l42, l43, l44, l45, l46, l48, l50, l57, l59, l60, l63, l70, l71, l80, l97, l99, l100, l101, l103, l104, l105, l108, l110, l111, l114, l115, l116, l117, l119, l160, l200, l255, l1280, l12345, le_nn, lt_nn, eq_nn, cl_nn, ng_le, ng_lt, ng_lt2, ng_le2, ng_eq, mi_eq, mi_ne, mi_ne2, mi_mi, add_nn, mul_nn, sub_nn, refX, refY, not_false_eq_true, not_true_eq_false, Nat.not_lt_zero, Nat.zero_le, Nat.reduceLeDiff, Nat.reduceLT, Nat.reduceMul, Nat.reduceSub, true_or, or_true, or_false, false_or, h.x66, tr_eq, c, h.x64, c2]) (by simp (disch := first | assumption | omega | (simp only [FIX_sI, FIX_sJ, FIX_gI, FIX_gJ]; assumption)) only [fX9_goes, ↓kb80, ↓ib80, ↓pb80, ↓ab81, ↓tb81, ↓ab82, ↓tb82, ↓ab83, ↓tb83, ↓ab84, ↓tb84, ↓ab85, ↓tb85, ↓ab86, ↓tb86, ↓ab87, ↓tb87, ↓ab88, ↓tb88, ↓ab89, ↓tb89, ↓ab90, ↓tb90, ↓ab91, ↓tb91, ↓ab92, ↓tb92, ↓ab93, ↓tb93, ↓ab94, ↓tb94, ↓ab95, ↓tb95, ↓ab96, ↓tb96, ↓ab97, ↓tb97, ↓ab98, ↓tb98, ↓ab99, ↓tb99, ↓ab100, ↓tb100, ↓ab101, ↓tb101, ↓ab102, ↓tb102, ↓ab103, ↓tb103, ↓ab104, ↓tb104, ↓ab105, ↓tb105, ↓ab106, ↓tb106, ↓rb80_13, ↓rb80_14, ↓rb80_15, ↓rb80_16, ↓rb80_17, ↓rb80_18, ↓rb80_19, ↓rb80_20, ↓rb80_21, ↓rb80_22, ↓rb80_23, ↓rb80_24, ↓rb80_25, ↓rb80_26, ↓rb80_27, ↓rb80_28, ↓rb80_30, ↓rb80_31, ↓rb80_37, ↓rb80_38, ↓rb80_39, ↓rb80_40, ↓rb80_41, ↓rb80_44, ↓rb80_45, ↓rb80_46, ↓nb1, ↓nb2, ↓nb3, ↓nb4, ↓nb5, ↓nb6, ↓nb7, ↓zbH, ↓zbB, ↓Option.bind_some, ↓Option.elim_some, ↓Option.elim_none, ↓reduceIte, Nat.reduceEqDiff, Nat.reduceAdd, and_self, and_true, true_and, false_and, and_false, mT_sI, mW_sI, mK_sI, mI_sI, mJ_sI, mR_sI, mT_sJ, mW_sJ, mK_sJ, mI_sJ, mJ_sJ, mR_sJ, mT_sR, mW_sR, mK_sR, mI_sR, mJ_sR, mR_sR, mT_gI, mW_gI, mK_gI, mI_gI, mJ_gI, mR_gI, mT_gJ, mW_gJ, mK_gJ, mI_gJ, mJ_gJ, mR_gJ, mT_wR, mW_wR, mK_wR, mI_wR, mJ_wR, mR_wR, l0, l1, l2, l3, l4, l5, l6, l7, l8, l9, l10, l11, l12, l13, l14, l15, l16, l17, l18, l19, l20, l21, l22, l23, l24, l25, l26, l27, l28, l29, l30, l31, l32, l33, l34, l35, l36, l37, l38, l39, l40, l41, l42, l43, l44, l45, l46, l48, l50, l57, l59, l60, l63, l70, l71, l80, l97, l99, l100, l101, l103, l104, l105, l108, l110, l111, l114, l115, l116, l117, l119, l160, l200, l255, l1280, l12345, le_nn, lt_nn, eq_nn, cl_nn, ng_le, ng_lt, ng_lt2, ng_le2, ng_eq, mi_eq, mi_ne, mi_ne2, mi_mi, add_nn, mul_nn, sub_nn, refX, refY, not_false_eq_true, not_true_eq_false, Nat.not_lt_zero, Nat.zero_le, Nat.reduceLeDiff, Nat.reduceLT, Nat.reduceMul, Nat.reduceSub, true_or, or_true, or_false, false_or, h.y66, tr_eq, c, h.y64, c2])
  have c1 : q 64 < 16 := by omega
  have c3 : ¬ q 64 = 16 := by omega
  have hp := hS.putS (by decide) hq (nx sd)
  obtain ⟨N, hN⟩ : ∃ N, N = sI M 22 14 (nx sd) := ⟨_, rfl⟩
  rw [← hN] at hp
  have hFN : FIX N := by rw [hN, FIX_sI]; exact hF
  have d2 : dof (q 57) (q 58) (dw (nx sd)) ≤ 2 := by
    unfold dof
    repeat' split
    all_goals omega
  obtain ⟨M1, e1, f1, t1, s1⟩ := goe8 hFN hp hI (by omega) d2 bk
  have f0 : Fr [] [(22, 14)] M N := by rw [hN]; exact Fr.oI _ _ (Or.inr (by decide))
  have fX := f0.trans f1
  have hF1 := fX.fix hF
  have hM1 := (hM.fr hF fX (by decide) (by decide))
  have hpM := hM1.putS (nx sd)
  obtain ⟨N1, hN1⟩ : ∃ N1, N1 = sI M1 80 11 (nx sd) := ⟨_, rfl⟩
  rw [← hN1] at hpM
  have hFN1 : FIX N1 := by rw [hN1, FIX_sI]; exact hF1
  have f2 : Fr [] [(80, 11)] M1 N1 := by rw [hN1]; exact Fr.oI _ _ (Or.inr (by decide))
  obtain ⟨M2, e2, f3, t2, s2⟩ := goe9 hFN1 hpM hI (by omega) d2 bk
  have fY := f2.trans f3
  have hlt := gtr_lt hI (by omega) bk (dof (q 57) (q 58) (dw (nx sd)))
  have hI1 : Inv (u1 q 66 (gtr q bk (dof (q 57) (q 58) (dw (nx sd))) + 1)) od := hI.p1 66 _ (Or.inr (Or.inr (Or.inr ⟨rfl, by omega⟩)))
  refine ex_upd (r := nI (dof (q 57) (q 58) (dw (nx sd)))) (M1 := M1) (M2 := M2) ?_ ?_ (h.upd (fX.trans fY) (by unfold scr; decide) (by unfold scf; decide) (hI1.st (show q 64 ≤ 15 by omega) bk) (s1.fr hF1 fY (by decide) (by decide) (by decide)) s2 (h.2.2.2.2.2.1.fr hF (fX.trans fY) (by decide) (by decide) (by decide) (by decide)) (Nat.le_refl _)) (Gr.same (by rw [t2.1, hN1, mT_sI, t1.1, hN, mT_sI]) (by rw [t2.2, hN1, mW_sI, t1.2, hN, mW_sI]))
  · have k1 : mI N 22 14 = nx sd := by rw [hN, mI_sI, if_pos ⟨rfl, rfl⟩]
    have k2 : mI N 22 1 = nI (q 57) := hp.f57
    have k3 : mI N 22 2 = nI (q 58) := hp.f58
    have m1 : ¬ mI M 22 13 = -1 := by rw [h.x66, l1, tr_eq h66]; exact c
    unfold fX8_goes
    rw [kb20 hF, rb20_1 hF, ib22 hF, if_neg m1, rb20_1 hF, ib22 hF, h.x64, if_pos (by rw [l16, lt_nn (by omega) (by omega)]; exact c1), rb20_1 hF, rb20_1 hF, ib22 hF, h.x67, bnd1 (sdb8 _ _)]
    dsimp only
    rw [pb22 hF, ← hN, rb20_1 hFN, ib22 hFN, k1, bnd1 (dro8 _ _)]
    dsimp only
    rw [rb20_1 hFN, ib22 hFN, k2]
    by_cases z1 : nI (q 57) ≤ dw (nx sd)
    · rw [if_pos z1, rb20_1 hFN, ib22 hFN, rb20_1 hFN, ib22 hFN, k2, k3, add_nn]
      by_cases z2 : nI (q 57 + q 58) ≤ dw (nx sd)
      · rw [show dof (q 57) (q 58) (dw (nx sd)) = 1 by unfold dof; rw [if_pos z1, if_pos z2]] at e1 ⊢
        rw [if_pos z2]
        exact e1
      · rw [show dof (q 57) (q 58) (dw (nx sd)) = 2 by unfold dof; rw [if_pos z1, if_neg z2]] at e1 ⊢
        rw [if_neg z2]
        exact e1
    · rw [show dof (q 57) (q 58) (dw (nx sd)) = 0 by unfold dof; rw [if_neg z1]] at e1 ⊢
      rw [if_neg z1]
      exact e1
  · have k2 : mI N1 80 1 = nI (q 57) := hpM.f57
    have k3 : mI N1 80 2 = nI (q 58) := hpM.f58
    have m1 : ¬ mI M1 80 10 = -1 := by rw [hM1.2.1, l1, tr_eq h66]; exact c
    have ed := dra9 hF1
    rw [hM1.2.2.1, ← hN1] at ed
    unfold fX9_goes
    rw [kb80 hF1, ib80 hF1, if_neg m1, ib80 hF1, hM1.f64, if_neg (by rw [l16, eq_nn (by omega) (by omega)]; exact c3), bnd1 ed]
    dsimp only
    rw [ib80 hFN1, k2]
    by_cases z1 : nI (q 57) ≤ dw (nx sd)
    · rw [if_pos z1, ib80 hFN1, ib80 hFN1, k2, k3, add_nn]
      by_cases z2 : nI (q 57 + q 58) ≤ dw (nx sd)
      · rw [show dof (q 57) (q 58) (dw (nx sd)) = 1 by unfold dof; rw [if_pos z1, if_pos z2]] at e2 ⊢
        rw [if_pos z2]
        exact e2
      · rw [show dof (q 57) (q 58) (dw (nx sd)) = 2 by unfold dof; rw [if_pos z1, if_neg z2]] at e2 ⊢
        rw [if_neg z2]
        exact e2
    · rw [show dof (q 57) (q 58) (dw (nx sd)) = 0 by unfold dof; rw [if_neg z1]] at e2 ⊢
      rw [if_neg z1]
      exact e2
