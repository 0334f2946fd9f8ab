/-! clear -/
def qcl (q : Nat → Nat) (t : Nat) : Nat → Nat := fun x => if x = 63 then q 63 - 1 else if (32 + t ≤ x ∧ x < 32 + (q 63 - 1)) ∨ (40 + t ≤ x ∧ x < 40 + (q 63 - 1)) ∨ (48 + t ≤ x ∧ x < 48 + (q 63 - 1)) then q (x + 1) else q x
theorem qcl_63 {q : Nat → Nat} {t : Nat} : qcl q t 63 = q 63 - 1 := if_pos rfl
theorem qcl_o {q : Nat → Nat} {t x : Nat} (h : q 63 ≤ 8) (hx : x < 32 ∨ 56 ≤ x) (h63 : x ≠ 63) : qcl q t x = q x := by
  unfold qcl
  rw [if_neg h63, if_neg (by omega)]
theorem qcl_i {q : Nat → Nat} {t i : Nat} (h : q 63 ≤ 8) (h1 : t ≤ i) (h2 : i + 1 < q 63) : qcl q t (32 + i) = q (32 + (i + 1)) ∧ qcl q t (40 + i) = q (40 + (i + 1)) ∧ qcl q t (48 + i) = q (48 + (i + 1)) := by
  unfold qcl
  refine ⟨?_, ?_, ?_⟩
  all_goals rw [if_neg (by omega), if_pos (by omega)]
  all_goals rfl
theorem qcl_n {q : Nat → Nat} {t i : Nat} (h : q 63 ≤ 8) (hi : i < 8) (h1 : i < t ∨ q 63 ≤ i + 1) : qcl q t (32 + i) = q (32 + i) ∧ qcl q t (40 + i) = q (40 + i) ∧ qcl q t (48 + i) = q (48 + i) := by
  unfold qcl
  refine ⟨?_, ?_, ?_⟩
  all_goals rw [if_neg (by omega), if_neg (by omega)]
theorem rmX {T : Nat} (hT : T ≤ 8) {V : Nat → Option Nat} : ∀ m n i (N : Mm), FIX N → mI N 22 9 = nI T → (∀ k, k < 8 → i < k → mR N 24 k = V k) → (∀ k, k < 8 → ∀ a, V k = some a → (mK N a).1 = 7) → m + i + 1 = T →
    fX5_removeThing_b6 (n + m + 1) 22 (nI i) N = some (sI (gR N 24 i (T - 1) (fun k => V (k + 1))) 22 9 (nI (T - 1))) := by
  intro m
  induction m with
  | zero =>
    intro n i N hF h9 _ _ hi
    rw [fX5_removeThing_b6, ib22 hF, h9, l1, add_nn, if_pos (by rw [le_nn (by omega) (by omega)]; omega)]
    unfold fX5_removeThing_b44
    rw [ib22 hF, h9, l1, sub_nn (by omega), pb22 hF, show i = T - 1 by omega, gR_end]
  | succ m ih =>
    intro n i N hF h9 hV hK hi
    have hc := nI_clamp (show i < 2 ^ 31 by omega)
    have hc2 := nI_clamp (show i + 1 < 2 ^ 31 by omega)
    have ea : aR N 24 24 (nI (i + 1)) = some (V (i + 1)) := by
      unfold aR
      rw [if_pos (by rw [K24 hF, hc2]; exact ⟨rfl, nI_pos (by omega), by show i + 1 < 8; omega⟩), hc2, hV (i + 1) (by omega) (by omega)]
    have et : tR N 24 6 24 (nI i) (V (i + 1)) = some (sR N 24 i (V (i + 1))) := by
      unfold tR
      rw [if_pos (by rw [K24 hF, hc]; exact ⟨rfl, nI_pos (by omega), by show i < 8; omega, hK (i + 1) (by omega)⟩), hc]
    rw [show n + (m + 1) + 1 = (n + m + 1) + 1 by omega, fX5_removeThing_b6, ib22 hF, h9, l1, add_nn, if_neg (by rw [le_nn (by omega) (by omega)]; omega), if_neg (by rw [l8, le_nn (by omega) (by omega)]; omega), rb22_8 hF, rb22_8 hF, bnd1 ea, bnd1 et, ih n (i + 1) (sR N 24 i (V (i + 1))) (hF.sR _ _ (by decide)) h9 (fun k h8 hk => by rw [mR_sR, if_neg (by omega)]; exact hV k h8 (by omega)) hK (by omega), gR_step (g := fun k => V (k + 1)) (by omega) rfl]
theorem rmY {T : Nat} (hT : T < 8) {A B C : Nat → Int32} : ∀ m n i (N : Mm), FIX N → mI N 80 7 = nI T → (∀ k, k < 8 → i < k → mI N 86 k = A k ∧ mI N 87 k = B k ∧ mI N 88 k = C k) → m + i = T →
    ∃ N1, fX9_clear_b30 (n + m + 1) 80 (nI i) N = some (nI T, N1) ∧ Fr [86, 87, 88] [] N N1 ∧ (mT N1 = mT N ∧ mW N1 = mW N) ∧ ∀ k, mI N1 86 k = (if i ≤ k ∧ k < T then A (k + 1) else mI N 86 k) ∧ mI N1 87 k = (if i ≤ k ∧ k < T then B (k + 1) else mI N 87 k) ∧ mI N1 88 k = (if i ≤ k ∧ k < T then C (k + 1) else mI N 88 k) := by
  intro m
  induction m with
  | zero =>
    intro n i N hF h7 _ hi
    refine ⟨N, ?_, Fr.rfl, ⟨rfl, rfl⟩, fun k => ⟨by rw [if_neg (by omega)], by rw [if_neg (by omega)], by rw [if_neg (by omega)]⟩⟩
    rw [fX9_clear_b30, ib80 hF, h7, if_pos (by rw [le_nn (by omega) (by omega)]; omega), ib80 hF, h7]
  | succ m ih =>
    intro n i N hF h7 hV hi
    obtain ⟨v1, v2, v3⟩ := hV (i + 1) (by omega) (by omega)
    obtain ⟨N2, hN2⟩ : ∃ N2, N2 = sI (sI (sI N 86 i (A (i + 1))) 87 i (B (i + 1))) 88 i (C (i + 1)) := ⟨_, rfl⟩
    have hFa : FIX (sI N 86 i (A (i + 1))) := by rw [FIX_sI]; exact hF
    have hFb : FIX (sI (sI N 86 i (A (i + 1))) 87 i (B (i + 1))) := by rw [FIX_sI]; exact hFa
    have hFc : FIX N2 := by rw [hN2, FIX_sI]; exact hFb
    have f1 : Fr [86, 87, 88] [] N N2 := by
      rw [hN2]
      exact ((Fr.oI _ _ (Or.inl (by decide))).tr (Fr.oI _ _ (Or.inl (by decide)))).tr (Fr.oI _ _ (Or.inl (by decide)))
    have g86 : ∀ k, mI N2 86 k = if k = i then A (i + 1) else mI N 86 k := fun k => by
      rw [hN2, mI_sI, if_neg (by omega), mI_sI, if_neg (by omega), mI_sI]
      by_cases e : k = i
      · rw [if_pos ⟨rfl, e⟩, if_pos e]
      · rw [if_neg (fun z => e z.2), if_neg e]
    have g87 : ∀ k, mI N2 87 k = if k = i then B (i + 1) else mI N 87 k := fun k => by
      rw [hN2, mI_sI, if_neg (by omega), mI_sI]
      by_cases e : k = i
      · rw [if_pos ⟨rfl, e⟩, if_pos e]
      · rw [if_neg (fun z => e z.2), if_neg e, mI_sI, if_neg (by omega)]
    have g88 : ∀ k, mI N2 88 k = if k = i then C (i + 1) else mI N 88 k := fun k => by
      rw [hN2, mI_sI]
      by_cases e : k = i
      · rw [if_pos ⟨rfl, e⟩, if_pos e]
      · rw [if_neg (fun z => e z.2), if_neg e, mI_sI, if_neg (by omega), mI_sI, if_neg (by omega)]
    obtain ⟨N1, k1, k2, k3, k4⟩ := ih n (i + 1) N2 hFc (by rw [f1.I (by have := hF.1; omega) (by decide) List.not_mem_nil]; exact h7) (fun k h8 hk => by rw [g86, g87, g88, if_neg (by omega), if_neg (by omega), if_neg (by omega)]; exact hV k h8 (by omega)) (by omega)
    refine ⟨N1, ?_, f1.tr k2, ⟨by rw [k3.1, hN2, mT_sI, mT_sI, mT_sI], by rw [k3.2, hN2, mW_sI, mW_sI, mW_sI]⟩, fun k => ?_⟩
    · rw [show n + (m + 1) + 1 = (n + m + 1) + 1 by omega, fX9_clear_b30, ib80 hF, h7, if_neg (by rw [le_nn (by omega) (by omega)]; omega), l1, add_nn]
      rw [rb80_18 hF, rb80_18 hF, ab86 hF (show i + 1 < 8 by omega), v1, tb86 hF (show i < 8 by omega)]
      rw [rb80_19 hFa, rb80_19 hFa, ab87 hFa (show i + 1 < 8 by omega), mI_sI, if_neg (by omega), v2, tb87 hFa (show i < 8 by omega)]
      rw [rb80_20 hFb, rb80_20 hFb, ab88 hFb (show i + 1 < 8 by omega), mI_sI, if_neg (by omega), mI_sI, if_neg (by omega), v3, tb88 hFb (show i < 8 by omega), ← hN2]
      exact k1
    · obtain ⟨w1, w2, w3⟩ := k4 k
      rw [w1, w2, w3, g86, g87, g88]
      by_cases e : k = i
      · subst e
        refine ⟨?_, ?_, ?_⟩
        all_goals rw [if_neg (show ¬ (k + 1 ≤ k ∧ k < T) by omega), if_pos rfl, if_pos (show k ≤ k ∧ k < T by omega)]
      · rw [if_neg e, if_neg e, if_neg e]
        by_cases e2 : i + 1 ≤ k ∧ k < T
        · rw [if_pos e2, if_pos e2, if_pos e2, if_pos (by omega), if_pos (by omega), if_pos (by omega)]
          exact ⟨rfl, rfl, rfl⟩
        · rw [if_neg e2, if_neg e2, if_neg e2, if_neg (by omega), if_neg (by omega), if_neg (by omega)]
          exact ⟨rfl, rfl, rfl⟩
theorem Inv.cl {q od : Nat → Nat} (h : Inv q od) {t : Nat} (ht : t < q 63) : Inv (qcl q t) od := by
  obtain ⟨a1, a2, a3, a4, a5, a6, a7, a8, a9, a10, a11, a12, a13, a14, a15⟩ := h
  have e : ∀ x, (x < 32 ∨ 56 ≤ x) → x ≠ 63 → qcl q t x = q x := fun x hx h6 => qcl_o a7 hx h6
  refine ⟨by rw [e 56 (by omega) (by decide)]; exact a1, by rw [e 57 (by omega) (by decide), e 58 (by omega) (by decide)]; exact a2, by rw [e 59 (by omega) (by decide)]; exact a3, by rw [e 60 (by omega) (by decide)]; exact a4, by rw [e 61 (by omega) (by decide)]; exact a5, by rw [e 62 (by omega) (by decide)]; exact a6, by rw [qcl_63]; omega, by rw [e 64 (by omega) (by decide)]; exact a8, by rw [e 65 (by omega) (by decide), e 64 (by omega) (by decide)]; exact a9, by rw [e 66 (by omega) (by decide), e 56 (by omega) (by decide)]; exact a10, fun i hi => ?_, fun i hi => ?_, fun i hi => ?_, fun c hc => a14 c (by rw [e 56 (by omega) (by decide)] at hc; exact hc), by rw [e 64 (by omega) (by decide)]; exact a15⟩
  · rw [e 62 (by omega) (by decide)] at hi
    rw [e i (by omega) (by omega), e (8 + i) (by omega) (by omega), e (16 + i) (by omega) (by omega), e 56 (by omega) (by decide)]
    exact a11 i hi
  · rw [qcl_63] at hi
    rw [e 56 (by omega) (by decide)]
    by_cases z : t ≤ i
    · obtain ⟨x, y, w⟩ := qcl_i (q := q) (t := t) (i := i) a7 z (by omega)
      rw [x, y, w]
      exact a12 (i + 1) (by omega)
    · obtain ⟨x, y, w⟩ := qcl_n (q := q) (t := t) (i := i) a7 (by omega) (by omega)
      rw [x, y, w]
      exact a12 i (by omega)
  · unfold qcl
    split
    · omega
    · split
      · by_cases z : i + 1 < 56
        · exact a13 (i + 1) z
        · omega
      · exact a13 i hi
theorem op_clear (A : Mm) (x1 : Int32) : Eqv A (fX8_clear 20 x1) (fX9_clear 80 x1) := by
  rintro M ⟨q, od, sd, b, q2, od2, sd2, h⟩
  have hF := h.1
  have h0 := hF.1
  have hI := h.2.2.1
  have hq := hI.sg
  have hS := h.2.2.2.1
  have hM := h.2.2.2.2.1
  have hw := hS.2.2.2.2.2.2
  rcases bn_cases (q 63) x1 with hb | ⟨t, ht, ht3, rfl⟩
  · refine ex_no h 1 (-nI 1) (by simp (disch := first | assumption | omega | (simp only [FIX_sI, FIX_sJ, FIX_gI, FIX_gJ]; assumption)) only [fX8_clear, ↓kb20, ↓ib20, ↓pb20, ↓kb22, ↓ib22, ↓pb22, ↓kb25, ↓ib25, ↓pb25, ↓ab26, ↓tb26, ↓ab27, ↓tb27, ↓ab40, ↓tb40, ↓kb41, ↓ib41, ↓pb41, ↓kb61, ↓ib61, ↓pb61, ↓ab62, ↓tb62, ↓ab63, ↓tb63, ↓rb20_0, ↓rb20_1, ↓rb20_2, ↓rb20_3, ↓rb20_5, ↓rb20_7, ↓rb20_8, ↓rb20_9, ↓rb22_6, ↓rb22_8, ↓rb22_10, ↓rb25_0, ↓rb25_1, ↓rb41_0, ↓rb41_1, ↓rb61_0, ↓fb1, ↓fb2, ↓fb3, ↓fb4, ↓fb5, ↓fb6, ↓fb7, ↓kbH, ↓ibH, ↓pbH, ↓rbH, ↓abH, ↓tbH, ↓sbH, ↓sbB, ↓Option.bind_some, ↓Option.elim_some, ↓Option.elim_none, ↓reduceIte, Nat.reduceEqDiff, Nat.reduceAdd, and_self, and_true, true_and, false_and, and_false, tAt_no (Or.inl rfl) hF hS hq hb, Option.bind_some, l0, l1, l2, l3, l4, l5, l6, l7, l8, l9, l10, l11, l12, l13, l14, l15, l16, l17, l18, l19, l20, l21, l22, l23, l24, l25, l26, l27, l28, l29, l30, l31, l32, l33, l34, l35, l36, l37, l38, l39, l40, l41, l42, l43, l44, l45, l46, l48, l50, l57, l59, l60, l63, l70, l71, l80, l97, l99, l100, l101, l103, l104, l105, l108, l110, l111, l114, l115, l116, l117, l119, l160, l200, l255, l1280, l12345, le_nn, lt_nn, eq_nn, cl_nn, ng_le, ng_lt, ng_lt2, ng_le2, ng_eq, mi_eq, mi_ne, mi_ne2, mi_mi, add_nn, mul_nn, sub_nn, refX, refY, not_false_eq_true, not_true_eq_false, Nat.not_lt_zero, Nat.zero_le, Nat.reduceLeDiff, Nat.reduceLT, Nat.reduceMul, Nat.reduceSub, true_or, or_true, or_false, false_or]) ?_
    rcases hb with hb | ⟨j, hj, hj2, rfl⟩
    · simp (disch := first | assumption | omega | (simp only [FIX_sI, FIX_sJ, FIX_gI, FIX_gJ]; assumption)) only [fX9_clear, ↓kb80, ↓ib80, ↓pb80, ↓ab81, ↓tb81, ↓ab82, ↓tb82, ↓ab83, ↓tb83, ↓ab84, ↓tb84, ↓ab85, ↓tb85, ↓ab86, ↓tb86, ↓ab87, ↓tb87, ↓ab88, ↓tb88, ↓ab89, ↓tb89, ↓ab90, ↓tb90, ↓ab91, ↓tb91, ↓ab92, ↓tb92, ↓ab93, ↓tb93, ↓ab94, ↓tb94, ↓ab95, ↓tb95, ↓ab96, ↓tb96, ↓ab97, ↓tb97, ↓ab98, ↓tb98, ↓ab99, ↓tb99, ↓ab100, ↓tb100, ↓ab101, ↓tb101, ↓ab102, ↓tb102, ↓ab103, ↓tb103, ↓ab104, ↓tb104, ↓ab105, ↓tb105, ↓ab106, ↓tb106, ↓rb80_13, ↓rb80_14, ↓rb80_15, ↓rb80_16, ↓rb80_17, ↓rb80_18, ↓rb80_19, ↓rb80_20, ↓rb80_21, ↓rb80_22, ↓rb80_23, ↓rb80_24, ↓rb80_25, ↓rb80_26, ↓rb80_27, ↓rb80_28, ↓rb80_30, ↓rb80_31, ↓rb80_37, ↓rb80_38, ↓rb80_39, ↓rb80_40, ↓rb80_41, ↓rb80_44, ↓rb80_45, ↓rb80_46, ↓nb1, ↓nb2, ↓nb3, ↓nb4, ↓nb5, ↓nb6, ↓nb7, ↓zbH, ↓zbB, ↓Option.bind_some, ↓Option.elim_some, ↓Option.elim_none, ↓reduceIte, Nat.reduceEqDiff, Nat.reduceAdd, and_self, and_true, true_and, false_and, and_false, l0, l1, l2, l3, l4, l5, l6, l7, l8, l9, l10, l11, l12, l13, l14, l15, l16, l17, l18, l19, l20, l21, l22, l23, l24, l25, l26, l27, l28, l29, l30, l31, l32, l33, l34, l35, l36, l37, l38, l39, l40, l41, l42, l43, l44, l45, l46, l48, l50, l57, l59, l60, l63, l70, l71, l80, l97, l99, l100, l101, l103, l104, l105, l108, l110, l111, l114, l115, l116, l117, l119, l160, l200, l255, l1280, l12345, le_nn, lt_nn, eq_nn, cl_nn, ng_le, ng_lt, ng_lt2, ng_le2, ng_eq, mi_eq, mi_ne, mi_ne2, mi_mi, add_nn, mul_nn, sub_nn, refX, refY, not_false_eq_true, not_true_eq_false, Nat.not_lt_zero, Nat.zero_le, Nat.reduceLeDiff, Nat.reduceLT, Nat.reduceMul, Nat.reduceSub, true_or, or_true, or_false, false_or, mT_sI, mW_sI, mK_sI, mI_sI, mJ_sI, mR_sI, mT_sJ, mW_sJ, mK_sJ, mI_sJ, mJ_sJ, mR_sJ, mT_sR, mW_sR, mK_sR, mI_sR, mJ_sR, mR_sR, mT_gI, mW_gI, mK_gI, mI_gI, mJ_gI, mR_gI, mT_gJ, mW_gJ, mK_gJ, mI_gJ, mJ_gJ, mR_gJ, mT_wR, mW_wR, mK_wR, mI_wR, mJ_wR, mR_wR]
    · simp (disch := first | assumption | omega | (simp only [FIX_sI, FIX_sJ, FIX_gI, FIX_gJ]; assumption)) only [fX9_clear, ↓kb80, ↓ib80, ↓pb80, ↓ab81, ↓tb81, ↓ab82, ↓tb82, ↓ab83, ↓tb83, ↓ab84, ↓tb84, ↓ab85, ↓tb85, ↓ab86, ↓tb86, ↓ab87, ↓tb87, ↓ab88, ↓tb88, ↓ab89, ↓tb89, ↓ab90, ↓tb90, ↓ab91, ↓tb91, ↓ab92, ↓tb92, ↓ab93, ↓tb93, ↓ab94, ↓tb94, ↓ab95, ↓tb95, ↓ab96, ↓tb96, ↓ab97, ↓tb97, ↓ab98, ↓tb98, ↓ab99, ↓tb99, ↓ab100, ↓tb100, ↓ab101, ↓tb101, ↓ab102, ↓tb102, ↓ab103, ↓tb103, ↓ab104, ↓tb104, ↓ab105, ↓tb105, ↓ab106, ↓tb106, ↓rb80_13, ↓rb80_14, ↓rb80_15, ↓rb80_16, ↓rb80_17, ↓rb80_18, ↓rb80_19, ↓rb80_20, ↓rb80_21, ↓rb80_22, ↓rb80_23, ↓rb80_24, ↓rb80_25, ↓rb80_26, ↓rb80_27, ↓rb80_28, ↓rb80_30, ↓rb80_31, ↓rb80_37, ↓rb80_38, ↓rb80_39, ↓rb80_40, ↓rb80_41, ↓rb80_44, ↓rb80_45, ↓rb80_46, ↓nb1, ↓nb2, ↓nb3, ↓nb4, ↓nb5, ↓nb6, ↓nb7, ↓zbH, ↓zbB, ↓Option.bind_some, ↓Option.elim_some, ↓Option.elim_none, ↓reduceIte, Nat.reduceEqDiff, Nat.reduceAdd, and_self, and_true, true_and, false_and, and_false, l0, l1, l2, l3, l4, l5, l6, l7, l8, l9, l10, l11, l12, l13, l14, l15, l16, l17, l18, l19, l20, l21, l22, l23, l24, l25, l26, l27, l28, l29, l30, l31, l32, l33, l34, l35, l36, l37, l38, l39, l40, l41, l42, l43, l44, l45, l46, l48, l50, l57, l59, l60, l63, l70, l71, l80, l97, l99, l100, l101, l103, l104, l105, l108, l110, l111, l114, l115, l116, l117, l119, l160, l200, l255, l1280, l12345, le_nn, lt_nn, eq_nn, cl_nn, ng_le, ng_lt, ng_lt2, ng_le2, ng_eq, mi_eq, mi_ne, mi_ne2, mi_mi, add_nn, mul_nn, sub_nn, refX, refY, not_false_eq_true, not_true_eq_false, Nat.not_lt_zero, Nat.zero_le, Nat.reduceLeDiff, Nat.reduceLT, Nat.reduceMul, Nat.reduceSub, true_or, or_true, or_false, false_or, mT_sI, mW_sI, mK_sI, mI_sI, mJ_sI, mR_sI, mT_sJ, mW_sJ, mK_sJ, mI_sJ, mJ_sJ, mR_sJ, mT_sR, mW_sR, mK_sR, mI_sR, mJ_sR, mR_sR, mT_gI, mW_gI, mK_gI, mI_gI, mJ_gI, mR_gI, mT_gJ, mW_gJ, mK_gJ, mI_gJ, mJ_gJ, mR_gJ, mT_wR, mW_wR, mK_wR, mI_wR, mJ_wR, mR_wR, h.y63, show ¬ j < q 63 by omega]
  obtain ⟨r, er, -⟩ := tAt (Or.inl rfl) hF hS hq ht
  have eX := rmX (T := q 63) hq.2 (V := mR M 24) (q 63 - t - 1) (1999 - (q 63 - t - 1)) t M hF hS.f63 (fun k _ _ => rfl) (fun k hk a ha => by rw [(hw.2.1 k hk a ha).2.2]) (by omega)
  rw [show 1999 - (q 63 - t - 1) + (q 63 - t - 1) + 1 = FU by unfold FU; omega] at eX
  obtain ⟨M1, hM1⟩ : ∃ M1, M1 = sI (gR M 24 t (q 63 - 1) (fun k => mR M 24 (k + 1))) 22 9 (nI (q 63 - 1)) := ⟨_, rfl⟩
  rw [← hM1] at eX
  have f1 : Fr [24] [(22, 9)] M M1 := by rw [hM1]; exact (Fr.gR _ _ _ (by decide) (by decide)).tr (Fr.oI _ _ (Or.inr (by decide)))
  have hF1 := f1.fix hF
  have t1 : mT M1 = mT M ∧ mW M1 = mW M := by rw [hM1]; exact ⟨by rw [mT_sI, mT_gR], by rw [mW_sI, mW_gR]⟩
  have r1 : ∀ k, mR M1 24 k = if t ≤ k ∧ k < q 63 - 1 then mR M 24 (k + 1) else mR M 24 k := fun k => by
    rw [hM1, mR_sI, mR_gR]
    by_cases e : t ≤ k ∧ k < q 63 - 1
    · rw [if_pos ⟨rfl, e⟩, if_pos e]
    · rw [if_neg (fun z => e z.2), if_neg e]
  have n24 : ∀ o, o ≠ 24 → ¬ o ∈ [24] := fun o ho z => ho (List.mem_singleton.mp z)
  have nk : ∀ o k, ¬ (o = 22 ∧ k = 9) → ¬ (o, k) ∈ [(22, 9)] := fun o k ho z => by
    have := List.mem_singleton.mp z
    rw [Prod.mk.injEq] at this
    exact ho this
  have a107 : ∀ o ∈ [24], o < 107 := by decide
  have b107 : ∀ o ∈ [(22, 9)], o.1 < 107 := by decide
  have x9 : mI M1 22 9 = nI (q 63 - 1) := by rw [hM1, mI_sI, if_pos ⟨rfl, rfl⟩]
  have eo : ∀ x, (x < 32 ∨ 56 ≤ x) → x ≠ 63 → qcl q t x = q x := fun x hx h6 => qcl_o hq.2 hx h6
  have hSg : ∀ r i, i < q 62 → Sg M r i q → Sg M1 r i (qcl q t) := fun r i hi g => by
    obtain ⟨g1, g2, g3, g4, g5, g6, g7, g8⟩ := g.fr f1 a107 b107
    exact ⟨g1, g2, g3, g4, by rw [eo i (by omega) (by omega)]; exact g5, by rw [eo (8 + i) (by omega) (by omega)]; exact g6, by rw [eo (16 + i) (by omega) (by omega)]; exact g7, by rw [eo (24 + i) (by omega) (by omega)]; exact g8⟩
  have s1 : St 22 (qcl q t) od sd M1 := by
    refine ⟨fun x hx => ?_, ?_, ?_, fun i hi => ?_, fun i hi => ?_, fun c hc => ?_, fun i hi r hr => ?_, fun i hi r hr => ?_, fun c hc => ?_⟩
    · have hall : ∀ x ∈ SCL, (x = (9, 63)) ∨ (x.1 ≠ 9 ∧ x.2 ≠ 63 ∧ 56 ≤ x.2) := by decide
      rcases hall x hx with rfl | ⟨y1, y2, y3⟩
      · rw [qcl_63]; exact x9
      · rw [eo _ (Or.inr y3) y2, f1.I (by omega) (n24 22 (by decide)) (nk 22 _ (fun z => y1 z.2))]
        exact hS.1 x hx
    · rw [eo 66 (by omega) (by decide), f1.I (by omega) (n24 22 (by decide)) (nk 22 _ (by omega))]; exact hS.2.1
    · rw [f1.I (by omega) (n24 22 (by decide)) (nk 22 _ (by omega))]; exact hS.2.2.1
    · rw [eo 62 (by omega) (by decide)] at hi
      obtain ⟨r, hr, g⟩ := hS.2.2.2.1 i hi
      exact ⟨r, by rw [f1.R (by omega) (Or.inl (n24 23 (by decide)))]; exact hr, hSg r i hi g⟩
    · rw [qcl_63] at hi
      by_cases z : t ≤ i
      · obtain ⟨r, hr, g⟩ := hS.2.2.2.2.1 (i + 1) (by omega)
        obtain ⟨g1, g2, g3, g4, g5, g6⟩ := g.fr f1 a107 b107
        obtain ⟨x, y, w⟩ := qcl_i (q := q) (t := t) (i := i) hq.2 z (by omega)
        exact ⟨r, by rw [r1, if_pos ⟨z, hi⟩]; exact hr, g1, g2, g3, by rw [x]; exact g4, by rw [y]; exact g5, by rw [w]; exact g6⟩
      · obtain ⟨r, hr, g⟩ := hS.2.2.2.2.1 i (by omega)
        obtain ⟨g1, g2, g3, g4, g5, g6⟩ := g.fr f1 a107 b107
        obtain ⟨x, y, w⟩ := qcl_n (q := q) (t := t) (i := i) hq.2 (by omega) (by omega)
        exact ⟨r, by rw [r1, if_neg (fun y => z y.1)]; exact hr, g1, g2, g3, by rw [x]; exact g4, by rw [y]; exact g5, by rw [w]; exact g6⟩
    · rw [f1.J (by omega) (n24 26 (by decide))]; exact hS.2.2.2.2.2.1 c hc
    · rw [f1.R (by omega) (Or.inl (n24 23 (by decide)))] at hr
      obtain ⟨a, b, c⟩ := hw.1 i hi r hr
      exact ⟨a, Nat.lt_of_lt_of_le b f1.1.1, by rw [f1.2.1 r b]; exact c⟩
    · have hr2 : ∃ j, j < 8 ∧ mR M 24 j = some r := by
        rw [r1] at hr
        by_cases z : t ≤ i ∧ i < q 63 - 1
        · rw [if_pos z] at hr
          exact ⟨i + 1, by omega, hr⟩
        · rw [if_neg z] at hr
          exact ⟨i, hi, hr⟩
      obtain ⟨j, hj, hr3⟩ := hr2
      obtain ⟨a, b, c⟩ := hw.2.1 j hj r hr3
      exact ⟨a, Nat.lt_of_lt_of_le b f1.1.1, by rw [f1.2.1 r b]; exact c⟩
    · rw [f1.J (by omega) (n24 27 (by decide))]; exact hw.2.2 c hc
  have hM1' := hM.fr hF f1 (by decide) (by decide)
  obtain ⟨N, hN⟩ : ∃ N, N = sI M1 80 7 (nI (q 63 - 1)) := ⟨_, rfl⟩
  have f2 : Fr [] [(80, 7)] M1 N := by rw [hN]; exact Fr.oI _ _ (Or.inr (by decide))
  have hFN := f2.fix hF1
  have iN : ∀ o k, ¬ (o = 80 ∧ k = 7) → mI N o k = mI M1 o k := fun o k ho => by rw [hN, mI_sI, if_neg ho]
  obtain ⟨M2, k1, k2, k3, k4⟩ := rmY (T := q 63 - 1) (by omega) (A := mI N 86) (B := mI N 87) (C := mI N 88) (q 63 - 1 - t) (1999 - (q 63 - 1 - t)) t N hFN (by rw [hN, mI_sI, if_pos ⟨rfl, rfl⟩]) (fun k _ _ => ⟨rfl, rfl, rfl⟩) (by omega)
  rw [show 1999 - (q 63 - 1 - t) + (q 63 - 1 - t) + 1 = FU by unfold FU; omega] at k1
  have f3 := f2.trans k2
  have h0N := hFN.1
  have n8 : ∀ o, ¬ (86 ≤ o ∧ o ≤ 88) → ¬ o ∈ [86, 87, 88] := fun o ho z => by
    simp only [List.mem_cons, List.not_mem_nil, or_false] at z
    omega
  have s2 : MD (qcl q t) od sd M2 := by
    refine ⟨fun k hk => ?_, ?_, ?_, fun a ha i hi => ?_, fun c hc => ?_⟩
    · rw [k2.I (by omega) (n8 80 (by omega)) List.not_mem_nil]
      by_cases z : k = 7
      · subst z
        rw [hN, mI_sI, if_pos ⟨rfl, rfl⟩]
        exact (congrArg nI qcl_63).symm
      · rw [iN _ _ (fun y => z y.2), eo (56 + k) (by omega) (by omega)]
        exact hM1'.1 k hk
    · rw [k2.I (by omega) (n8 80 (by omega)) List.not_mem_nil, iN _ _ (by omega), eo 66 (by omega) (by decide)]; exact hM1'.2.1
    · rw [k2.I (by omega) (n8 80 (by omega)) List.not_mem_nil, iN _ _ (by omega)]; exact hM1'.2.2.1
    · obtain ⟨w1, w2, w3⟩ := k4 i
      obtain ⟨m1, m2, m3, m4, m5, m6, m7⟩ := hM1'.a hi
      have ha2 : a = 0 ∨ a = 1 ∨ a = 2 ∨ a = 3 ∨ a = 4 ∨ a = 5 ∨ a = 6 := by omega
      by_cases z : t ≤ i ∧ i < q 63 - 1
      · obtain ⟨x, y, w⟩ := qcl_i (q := q) (t := t) (i := i) hq.2 z.1 (by omega)
        obtain ⟨p1, p2, p3, p4, p5, p6, p7⟩ := hM1'.a (show i + 1 < 8 by omega)
        rw [if_pos z, iN _ _ (by omega)] at w1 w2 w3
        rcases ha2 with rfl | rfl | rfl | rfl | rfl | rfl | rfl
        · rw [k2.I (by omega) (n8 _ (by omega)) List.not_mem_nil, iN _ _ (by omega), eo _ (by omega) (by omega)]; exact hM1'.2.2.2.1 0 (by decide) i hi
        · rw [k2.I (by omega) (n8 _ (by omega)) List.not_mem_nil, iN _ _ (by omega), eo _ (by omega) (by omega)]; exact hM1'.2.2.2.1 1 (by decide) i hi
        · rw [k2.I (by omega) (n8 _ (by omega)) List.not_mem_nil, iN _ _ (by omega), eo _ (by omega) (by omega)]; exact hM1'.2.2.2.1 2 (by decide) i hi
        · rw [k2.I (by omega) (n8 _ (by omega)) List.not_mem_nil, iN _ _ (by omega), eo _ (by omega) (by omega)]; exact hM1'.2.2.2.1 3 (by decide) i hi
        · exact w1.trans (p5.trans (congrArg nI x.symm))
        · exact w2.trans (p6.trans (congrArg nI y.symm))
        · exact w3.trans (p7.trans (congrArg nI w.symm))
      · obtain ⟨x, y, w⟩ := qcl_n (q := q) (t := t) (i := i) hq.2 hi (by omega)
        rw [if_neg z, iN _ _ (by omega)] at w1 w2 w3
        rcases ha2 with rfl | rfl | rfl | rfl | rfl | rfl | rfl
        · rw [k2.I (by omega) (n8 _ (by omega)) List.not_mem_nil, iN _ _ (by omega), eo _ (by omega) (by omega)]; exact hM1'.2.2.2.1 0 (by decide) i hi
        · rw [k2.I (by omega) (n8 _ (by omega)) List.not_mem_nil, iN _ _ (by omega), eo _ (by omega) (by omega)]; exact hM1'.2.2.2.1 1 (by decide) i hi
        · rw [k2.I (by omega) (n8 _ (by omega)) List.not_mem_nil, iN _ _ (by omega), eo _ (by omega) (by omega)]; exact hM1'.2.2.2.1 2 (by decide) i hi
        · rw [k2.I (by omega) (n8 _ (by omega)) List.not_mem_nil, iN _ _ (by omega), eo _ (by omega) (by omega)]; exact hM1'.2.2.2.1 3 (by decide) i hi
        · exact w1.trans (m5.trans (congrArg nI x.symm))
        · exact w2.trans (m6.trans (congrArg nI y.symm))
        · exact w3.trans (m7.trans (congrArg nI w.symm))
    · rw [k2.J (by omega) (n8 89 (by omega)), f2.J (by have := hF1.1; omega) List.not_mem_nil]; exact hM1'.2.2.2.2 c hc
  refine ex_upd (r := nI (q 63 - 1)) (M1 := M1) (M2 := M2) ?_ ?_ (h.upd (f1.trans f3) (by unfold scr; decide) (by unfold scf; decide) (hI.cl ht) (s1.fr hF1 f3 (by decide) (by decide) (by decide)) s2 (h.2.2.2.2.2.1.fr hF (f1.trans f3) (by decide) (by decide) (by decide) (by decide)) (by rw [eo 62 (by omega) (by decide)]; exact Nat.le_refl _)) (Gr.same (by rw [k3.1, hN, mT_sI, t1.1]) (by rw [k3.2, hN, mW_sI, t1.2]))
  · have er2 : fX5_removeThing 22 (nI t) M = some M1 := by
      unfold fX5_removeThing
      rw [kb22 hF, show mxI (nI t) 0 = nI t by unfold mxI; rw [if_neg (nI_pos (by omega))]]
      exact eX
    simp (disch := first | assumption | omega | (simp only [FIX_sI, FIX_sJ, FIX_gI, FIX_gJ]; assumption)) only [fX8_clear, ↓kb20, ↓ib20, ↓pb20, ↓kb22, ↓ib22, ↓pb22, ↓kb25, ↓ib25, ↓pb25, ↓ab26, ↓tb26, ↓ab27, ↓tb27, ↓ab40, ↓tb40, ↓kb41, ↓ib41, ↓pb41, ↓kb61, ↓ib61, ↓pb61, ↓ab62, ↓tb62, ↓ab63, ↓tb63, ↓rb20_0, ↓rb20_1, ↓rb20_2, ↓rb20_3, ↓rb20_5, ↓rb20_7, ↓rb20_8, ↓rb20_9, ↓rb22_6, ↓rb22_8, ↓rb22_10, ↓rb25_0, ↓rb25_1, ↓rb41_0, ↓rb41_1, ↓rb61_0, ↓fb1, ↓fb2, ↓fb3, ↓fb4, ↓fb5, ↓fb6, ↓fb7, ↓kbH, ↓ibH, ↓pbH, ↓rbH, ↓abH, ↓tbH, ↓sbH, ↓sbB, ↓Option.bind_some, ↓Option.elim_some, ↓Option.elim_none, ↓reduceIte, Nat.reduceEqDiff, Nat.reduceAdd, and_self, and_true, true_and, false_and, and_false, er, Option.bind_some, ↓bnd1 er2, l0, l1, l2, l3, l4, l5, l6, l7, l8, l9, l10, l11, l12, l13, l14, l15, l16, l17, l18, l19, l20, l21, l22, l23, l24, l25, l26, l27, l28, l29, l30, l31, l32, l33, l34, l35, l36, l37, l38, l39, l40, l41, l42, l43, l44, l45, l46, l48, l50, l57, l59, l60, l63, l70, l71, l80, l97, l99, l100, l101, l103, l104, l105, l108, l110, l111, l114, l115, l116, l117, l119, l160, l200, l255, l1280, l12345, le_nn, lt_nn, eq_nn, cl_nn, ng_le, ng_lt, ng_lt2, ng_le2, ng_eq, mi_eq, mi_ne, mi_ne2, mi_mi, add_nn, mul_nn, sub_nn, refX, refY, not_false_eq_true, not_true_eq_false, Nat.not_lt_zero, Nat.zero_le, Nat.reduceLeDiff, Nat.reduceLT, Nat.reduceMul, Nat.reduceSub, true_or, or_true, or_false, false_or, x9]
  · simp (disch := first | assumption | omega | (simp only [FIX_sI, FIX_sJ, FIX_gI, FIX_gJ]; assumption)) only [fX9_clear, ↓kb80, ↓ib80, ↓pb80, ↓ab81, ↓tb81, ↓ab82, ↓tb82, ↓ab83, ↓tb83, ↓ab84, ↓tb84, ↓ab85, ↓tb85, ↓ab86, ↓tb86, ↓ab87, ↓tb87, ↓ab88, ↓tb88, ↓ab89, ↓tb89, ↓ab90, ↓tb90, ↓ab91, ↓tb91, ↓ab92, ↓tb92, ↓ab93, ↓tb93, ↓ab94, ↓tb94, ↓ab95, ↓tb95, ↓ab96, ↓tb96, ↓ab97, ↓tb97, ↓ab98, ↓tb98, ↓ab99, ↓tb99, ↓ab100, ↓tb100, ↓ab101, ↓tb101, ↓ab102, ↓tb102, ↓ab103, ↓tb103, ↓ab104, ↓tb104, ↓ab105, ↓tb105, ↓ab106, ↓tb106, ↓rb80_13, ↓rb80_14, ↓rb80_15, ↓rb80_16, ↓rb80_17, ↓rb80_18, ↓rb80_19, ↓rb80_20, ↓rb80_21, ↓rb80_22, ↓rb80_23, ↓rb80_24, ↓rb80_25, ↓rb80_26, ↓rb80_27, ↓rb80_28, ↓rb80_30, ↓rb80_31, ↓rb80_37, ↓rb80_38, ↓rb80_39, ↓rb80_40, ↓rb80_41, ↓rb80_44, ↓rb80_45, ↓rb80_46, ↓nb1, ↓nb2, ↓nb3, ↓nb4, ↓nb5, ↓nb6, ↓nb7, ↓zbH, ↓zbB, ↓Option.bind_some, ↓Option.elim_some, ↓Option.elim_none, ↓reduceIte, Nat.reduceEqDiff, Nat.reduceAdd, and_self, and_true, true_and, false_and, and_false, l0, l1, l2, l3, l4, l5, l6, l7, l8, l9, l10, l11, l12, l13, l14, l15, l16, l17, l18, l19, l20, l21, l22, l23, l24, l25, l26, l27, l28, l29, l30, l31, l32, l33, l34, l35, l36, l37, l38, l39, l40, l41, l42, l43, l44, l45, l46, l48, l50, l57, l59, l60, l63, l70, l71, l80, l97, l99, l100, l101, l103, l104, l105, l108, l110, l111, l114, l115, l116, l117, l119, l160, l200, l255, l1280, l12345, le_nn, lt_nn, eq_nn, cl_nn, ng_le, ng_lt, ng_lt2, ng_le2, ng_eq, mi_eq, mi_ne, mi_ne2, mi_mi, add_nn, mul_nn, sub_nn, refX, refY, not_false_eq_true, not_true_eq_false, Nat.not_lt_zero, Nat.zero_le, Nat.reduceLeDiff, Nat.reduceLT, Nat.reduceMul, Nat.reduceSub, true_or, or_true, or_false, false_or, hM1'.f63, ht]
    rw [← hN]
    exact k1
